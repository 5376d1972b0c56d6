/-! METHODS 10, printed by gen_meth.py -/
abbrev pe_X6_takeStroke_39 (f : Int32 → pj_F (Int32 × pj_Z)) : pj_K (Int32 × pj_Z) := fun lv st z => pj_xr lv 0 68 0 <| pj_xi lv 1 fun a1 => pj_pe st (f a1 z.1 z.2.1 z.2.2.1 z.2.2.2)
abbrev pe_X6_takeStroke_40 (f : Int32 → Int32 → pj_F (Int32 × pj_Z)) : pj_K (Int32 × pj_Z) := fun lv st z => pj_xr lv 0 68 0 <| pj_xi lv 1 fun a1 => pj_pi st fun b0 st => pj_pe st (f a1 b0 z.1 z.2.1 z.2.2.1 z.2.2.2)
abbrev px_X6_takeStroke : pj_C (Int32 × pj_Z) := ((pj_as [(68, 6, 19, 1, 0, true, 0, [(2, 69), (2, 70), (2, 71), (2, 72), (0, 57), (0, 58), (2, 73), (2, 74), (2, 75), (2, 76), (2, 77), (2, 78), (1, 11), (0, 59), (0, 60), (0, 61), (2, 79), (2, 80), (2, 81)]), (79, 102, 8, 1, 0, true, 23000, []), (80, 102, 8, 1, 0, true, 24000, []), (81, 100, 8, 1, 0, true, 25000, [])]), (pj_as [(44, 6, 16, 2, true), (47, 6, 17, 2, true), (50, 6, 18, 2, true)]), (fun _ => none), (fun _ => none), (fun _ => none), ic_X, 3, 1, pj_mI, (fun _ => none), fun _ => false)
abbrev pk_X6_takeStroke : List (Nat × List (Nat × Instr × Nat)) := [(0, [(0, .iload_n 1, 1), (1, .ifCond .lt 9, 3)]), (4, [(4, .iload_n 1, 1), (5, .bipush 8, 2), (7, .if_icmp .lt 5, 3)]), (10, [(10, .iconst 0, 1), (11, .ireturn, 1)]), (12, [(12, .aload_n 0, 1), (13, .getfield 44, 3), (16, .iload_n 1, 1), (17, .baload, 1), (18, .ifCond .eq 21, 3)]), (21, [(21, .aload_n 0, 1), (22, .getfield 47, 3), (25, .iload_n 1, 1), (26, .baload, 1), (27, .ifCond .eq 12, 3)]), (30, [(30, .aload_n 0, 1), (31, .getfield 50, 3), (34, .iload_n 1, 1), (35, .iaload, 1), (36, .goto 4, 3)]), (39, [(39, .iconst 0, 1)]), (40, [(40, .istore_n 2, 1), (41, .aload_n 0, 1), (42, .getfield 44, 3), (45, .iload_n 1, 1), (46, .iconst 0, 1), (47, .bastore, 1), (48, .aload_n 0, 1), (49, .getfield 47, 3), (52, .iload_n 1, 1), (53, .iconst 0, 1), (54, .bastore, 1), (55, .iload_n 2, 1), (56, .ireturn, 1)])]
set_option maxRecDepth 100000 in
theorem pq_X6_takeStroke_40  (a1 : Int32) (b0 : Int32) (s : Nat → Int32) (l : Nat → Int64) (x : Nat → Int32) (y : Nat → Int64) : pl_X6_takeStroke_40 a1 b0 s l x y = pj_bl px_X6_takeStroke (pj_rn px_X6_takeStroke (pj_as pk_X6_takeStroke) (fun _ => none) 60) [(40, .istore_n 2, 1), (41, .aload_n 0, 1), (42, .getfield 44, 3), (45, .iload_n 1, 1), (46, .iconst 0, 1), (47, .bastore, 1), (48, .aload_n 0, 1), (49, .getfield 47, 3), (52, .iload_n 1, 1), (53, .iconst 0, 1), (54, .bastore, 1), (55, .iload_n 2, 1), (56, .ireturn, 1)] 40 [(0, pj_O (68, 0)), (1, pj_I a1)] [pj_I b0] (s, l, x, y) := rfl
set_option maxRecDepth 100000 in
theorem pq_X6_takeStroke_39  (a1 : Int32) (s : Nat → Int32) (l : Nat → Int64) (x : Nat → Int32) (y : Nat → Int64) : pl_X6_takeStroke_39 a1 s l x y = pj_bl px_X6_takeStroke (pj_rn px_X6_takeStroke (pj_as pk_X6_takeStroke) (pj_as [(40, pe_X6_takeStroke_40 (pl_X6_takeStroke_40))]) 60) [(39, .iconst 0, 1)] 39 [(0, pj_O (68, 0)), (1, pj_I a1)] [] (s, l, x, y) := rfl
set_option maxRecDepth 100000 in
theorem pq_X6_takeStroke_m  (a1 : Int32) (s : Nat → Int32) (l : Nat → Int64) (x : Nat → Int32) (y : Nat → Int64) : pf_X6_takeStroke a1 s l x y = pj_bl px_X6_takeStroke (pj_rn px_X6_takeStroke (pj_as pk_X6_takeStroke) (pj_as [(39, pe_X6_takeStroke_39 (pl_X6_takeStroke_39)), (40, pe_X6_takeStroke_40 (pl_X6_takeStroke_40))]) 60) [(0, .iload_n 1, 1), (1, .ifCond .lt 9, 3)] 0 [(0, pj_O (68, 0)), (1, pj_I a1)] [] (s, l, x, y) := rfl
theorem pu_X6_takeStroke_39 {lf : pj_Z → mj_M} {a : Int32 × pj_Z} (f : Int32 → pj_F (Int32 × pj_Z)) (hf : ∀ (a1 : Int32) (s : Nat → Int32) (l : Nat → Int64) (x : Nat → Int32) (y : Nat → Int64), f a1 s l x y = some a → pm_Gd 0 6010 ie_X6_takeStroke.1 pm_rI lf 39 [(0, .ref 68), (1, .int a1)] [] (s, l, x, y) a) : pm_Ex 0 6010 ie_X6_takeStroke.1 pm_rI lf a 39 (pe_X6_takeStroke_39 f) := by
  intro lv st z hd h
  obtain ⟨g0, h⟩ := pj_xr_inv h
  obtain ⟨a1, g1, h⟩ := pj_xi_inv h
  obtain ⟨e9, h⟩ := pj_pe_inv h
  rw [e9]
  exact mj_wp_sub (mj_sub_cons g0 (mj_sub_cons g1 (mj_sub_nil hd))) (hf _ _ _ _ _ h)
theorem pu_X6_takeStroke_40 {lf : pj_Z → mj_M} {a : Int32 × pj_Z} (f : Int32 → Int32 → pj_F (Int32 × pj_Z)) (hf : ∀ (a1 : Int32) (b0 : Int32) (s : Nat → Int32) (l : Nat → Int64) (x : Nat → Int32) (y : Nat → Int64), f a1 b0 s l x y = some a → pm_Gd 0 6010 ie_X6_takeStroke.1 pm_rI lf 40 [(0, .ref 68), (1, .int a1)] [.int b0] (s, l, x, y) a) : pm_Ex 0 6010 ie_X6_takeStroke.1 pm_rI lf a 40 (pe_X6_takeStroke_40 f) := by
  intro lv st z hd h
  obtain ⟨g0, h⟩ := pj_xr_inv h
  obtain ⟨a1, g1, h⟩ := pj_xi_inv h
  obtain ⟨b0, r0, e0, h⟩ := pj_pi_inv h
  obtain ⟨e9, h⟩ := pj_pe_inv h
  rw [e0, e9]
  exact mj_wp_sub (mj_sub_cons g0 (mj_sub_cons g1 (mj_sub_nil hd))) (hf _ _ _ _ _ _ h)
set_option maxRecDepth 100000 in
theorem pz_X6_takeStroke {lf : pj_Z → mj_M} (hT : pj_Lt pj_TC lf) : pj_Cok ic_P (mj_R ic_P 0) 6010 ie_X6_takeStroke.1 (pm_OK lf pm_rI) lf px_X6_takeStroke := by
  exact pm_cok (c := px_X6_takeStroke) (pm_part hT (pj_as_all (p := fun b e => pj_TC b = some e) (List.forall_mem_cons.mpr ⟨rfl, (List.forall_mem_cons.mpr ⟨rfl, (List.forall_mem_cons.mpr ⟨rfl, (List.forall_mem_cons.mpr ⟨rfl, (fun _ h => by cases h)⟩)⟩)⟩)⟩))) (pm_in_ok (L := [(44, 6, 16, 2, true), (47, 6, 17, 2, true), (50, 6, 18, 2, true)]) (f := mj_pF ic_P 6010) (by decide +kernel)) (fun _ _ h => by cases h) (fun _ _ h => by cases h) (fun _ _ h => by cases h) rfl rfl ⟨by decide, rfl⟩ pm_mI (fun _ _ h => by cases h) (fun _ h => by cases h)
set_option maxRecDepth 100000 in
theorem pb_X6_takeStroke : pm_bks ie_X6_takeStroke.1.2.2.2.2 pk_X6_takeStroke = true := by decide +kernel
set_option maxRecDepth 100000 in
theorem pg_X6_takeStroke_40 {lf : pj_Z → mj_M} (hT : pj_Lt pj_TC lf) : ∀ (a1 : Int32) (b0 : Int32) (s : Nat → Int32) (l : Nat → Int64) (x : Nat → Int32) (y : Nat → Int64) (a : Int32 × pj_Z), pl_X6_takeStroke_40 a1 b0 s l x y = some a → pm_Gd 0 6010 ie_X6_takeStroke.1 pm_rI lf 40 [(0, .ref 68), (1, .int a1)] [.int b0] (s, l, x, y) a := by
  intro a1 b0 s l x y a h
  exact pm_run ((pq_X6_takeStroke_40  a1 b0 s l x y).symm.trans h) (pz_X6_takeStroke hT) (pm_bks_ok pb_X6_takeStroke) (pm_bks_ok pb_X6_takeStroke _ _ rfl) (pm_ndb_ok rfl) (fun _ _ h => by cases h)
set_option maxRecDepth 100000 in
theorem pg_X6_takeStroke_39 {lf : pj_Z → mj_M} (hT : pj_Lt pj_TC lf) : ∀ (a1 : Int32) (s : Nat → Int32) (l : Nat → Int64) (x : Nat → Int32) (y : Nat → Int64) (a : Int32 × pj_Z), pl_X6_takeStroke_39 a1 s l x y = some a → pm_Gd 0 6010 ie_X6_takeStroke.1 pm_rI lf 39 [(0, .ref 68), (1, .int a1)] [] (s, l, x, y) a := by
  intro a1 s l x y a h
  exact pm_run ((pq_X6_takeStroke_39  a1 s l x y).symm.trans h) (pz_X6_takeStroke hT) (pm_bks_ok pb_X6_takeStroke) (pm_bks_ok pb_X6_takeStroke _ _ rfl) (pm_ndb_ok rfl) (pj_as_all (p := pm_Ex 0 6010 ie_X6_takeStroke.1 pm_rI lf a) (List.forall_mem_cons.mpr ⟨pu_X6_takeStroke_40 _ (fun c0 c1 s l x y h => pg_X6_takeStroke_40 hT c0 c1 s l x y _ h), (fun _ h => by cases h)⟩))
set_option maxRecDepth 100000 in
theorem pm_X6_takeStroke {lf : pj_Z → mj_M} (hT : pj_Lt pj_TC lf) (a1 : Int32) (s : Nat → Int32) (l : Nat → Int64) (x : Nat → Int32) (y : Nat → Int64) (a : Int32 × pj_Z) (h : pf_X6_takeStroke a1 s l x y = some a) : mj_R ic_P 1 6010 [.ref 68, .int a1] (lf (s, l, x, y)) (pm_rI a.1) (lf a.2) := by
  refine pm_main (Y := ie_X6_takeStroke.1) rfl (Nat.le_of_ble_eq_true rfl) ?_
  exact pm_run ((pq_X6_takeStroke_m a1 s l x y).symm.trans h) (pz_X6_takeStroke hT) (pm_bks_ok pb_X6_takeStroke) (pm_bks_ok pb_X6_takeStroke _ _ rfl) (pm_ndb_ok rfl) (pj_as_all (p := pm_Ex 0 6010 ie_X6_takeStroke.1 pm_rI lf a) (List.forall_mem_cons.mpr ⟨pu_X6_takeStroke_39 _ (fun c0 s l x y h => pg_X6_takeStroke_39 hT c0 s l x y _ h), (List.forall_mem_cons.mpr ⟨pu_X6_takeStroke_40 _ (fun c0 c1 s l x y h => pg_X6_takeStroke_40 hT c0 c1 s l x y _ h), (fun _ h => by cases h)⟩)⟩))
abbrev ph_X6_takeStroke {A : Type} : List pj_V → pj_Z → (List pj_V → pj_Z → Option A) → Option A := fun st z K => pj_pi st fun a1 st => pj_pr st 68 0 fun st => pj_ps st (pj_b (pf_X6_takeStroke a1 z.1 z.2.1 z.2.2.1 z.2.2.2) fun r s l x y => K (pj_I r :: st) (s, l, x, y))
set_option maxRecDepth 100000 in
theorem pc_X6_takeStroke {A : Type} {OK : A → Option Value → mj_M → Prop} {d j pc ix : Nat} {Y : mj_Y} {lf : pj_Z → mj_M} (hT : pj_Lt pj_TC lf) (hd : 1 ≤ d) (hl : mj_lk Y.2.2.2.2 pc = some (.invokevirtual ix, 3)) (hg : mj_pG ic_P j ix = some (6010, 1, some 6)) {lv : List (Nat × Value)} {st : List pj_V} {z : pj_Z} {K : List pj_V → pj_Z → Option A} {a : A} (hK : ∀ st z, K st z = some a → pj_Gd ic_P (mj_R ic_P d) j Y OK lf (pc + 3) lv (pj_es st) z a) (h : ph_X6_takeStroke st z K = some a) : pj_Gd ic_P (mj_R ic_P d) j Y OK lf pc lv (pj_es st) z a := by
  obtain ⟨a1, r1, e1, h⟩ := pj_pi_inv h
  obtain ⟨r0, e0, h⟩ := pj_pr_inv h
  obtain ⟨hs, h⟩ := pj_ps_inv h
  obtain ⟨q, hq, h⟩ := pj_b_inv h
  exact pm_cv (o := 68) hl hg [.int a1] rfl (by rw [e1, e0]; rfl) hs (by decide) ((hT.2 68 _ rfl).1.2 z 0 (by decide)) (pm_rI q.1) hd (pm_X6_takeStroke hT a1 z.1 z.2.1 z.2.2.1 z.2.2.2 q hq) rfl (hK _ _ h)
abbrev px_X5_speedUp : pj_C (Unit × pj_Z) := ((pj_as [(122, 5, 13, 1, 0, true, 0, [(0, 45), (0, 46), (0, 47), (0, 48), (0, 49), (0, 50), (0, 51), (0, 52), (0, 53), (0, 54), (0, 55), (2, 123), (0, 56)])]), (pj_as [(26, 5, 1, 0, false)]), (fun _ => none), (fun _ => none), (fun _ => none), ic_X, 2, 0, pj_mU, (pj_as [(12, ph_J9_min_7cf53), (19, ph_J9_min_7cf53)]), fun _ => false)
abbrev pk_X5_speedUp : List (Nat × List (Nat × Instr × Nat)) := [(0, [(0, .aload_n 0, 1), (1, .sipush 9000, 3), (4, .aload_n 0, 1), (5, .getfield 26, 3), (8, .iload_n 1, 1), (9, .sipush 12000, 3), (12, .invokestatic 30, 3), (15, .bipush 64, 2), (17, .idiv, 1), (18, .iadd, 1), (19, .invokestatic 30, 3), (22, .putfield 26, 3), (25, .return_, 1)])]
set_option maxRecDepth 100000 in
theorem pq_X5_speedUp_m  (a1 : Int32) (s : Nat → Int32) (l : Nat → Int64) (x : Nat → Int32) (y : Nat → Int64) : pf_X5_speedUp a1 s l x y = pj_bl px_X5_speedUp (pj_rn px_X5_speedUp (pj_as pk_X5_speedUp) (fun _ => none) 60) [(0, .aload_n 0, 1), (1, .sipush 9000, 3), (4, .aload_n 0, 1), (5, .getfield 26, 3), (8, .iload_n 1, 1), (9, .sipush 12000, 3), (12, .invokestatic 30, 3), (15, .bipush 64, 2), (17, .idiv, 1), (18, .iadd, 1), (19, .invokestatic 30, 3), (22, .putfield 26, 3), (25, .return_, 1)] 0 [(0, pj_O (122, 0)), (1, pj_I a1)] [] (s, l, x, y) := rfl
set_option maxRecDepth 100000 in
theorem pz_X5_speedUp {lf : pj_Z → mj_M} (hT : pj_Lt pj_TC lf) : pj_Cok ic_P (mj_R ic_P 1) 5002 ie_X5_speedUp.1 (pm_OK lf pm_rU) lf px_X5_speedUp := by
  exact pm_cok (c := px_X5_speedUp) (pm_part hT (pj_as_all (p := fun b e => pj_TC b = some e) (List.forall_mem_cons.mpr ⟨rfl, (fun _ h => by cases h)⟩))) (pm_in_ok (L := [(26, 5, 1, 0, false)]) (f := mj_pF ic_P 5002) (by decide +kernel)) (fun _ _ h => by cases h) (fun _ _ h => by cases h) (fun _ _ h => by cases h) rfl rfl ⟨by decide, rfl⟩ pm_mU (pj_as_all (p := pm_Cl 1 5002 ie_X5_speedUp.1 lf (pm_OK lf pm_rU)) (List.forall_mem_cons.mpr ⟨fun _ _ lv st z K a hK h => pc_J9_min_7cf53 (pm_none hT) (by decide) (ix := 30) rfl rfl hK h, (List.forall_mem_cons.mpr ⟨fun _ _ lv st z K a hK h => pc_J9_min_7cf53 (pm_none hT) (by decide) (ix := 30) rfl rfl hK h, (fun _ h => by cases h)⟩)⟩)) (fun _ h => by cases h)
set_option maxRecDepth 100000 in
theorem pb_X5_speedUp : pm_bks ie_X5_speedUp.1.2.2.2.2 pk_X5_speedUp = true := by decide +kernel
set_option maxRecDepth 100000 in
theorem pm_X5_speedUp {lf : pj_Z → mj_M} (hT : pj_Lt pj_TC lf) (a1 : Int32) (s : Nat → Int32) (l : Nat → Int64) (x : Nat → Int32) (y : Nat → Int64) (a : Unit × pj_Z) (h : pf_X5_speedUp a1 s l x y = some a) : mj_R ic_P 2 5002 [.ref 122, .int a1] (lf (s, l, x, y)) (pm_rU a.1) (lf a.2) := by
  refine pm_main (Y := ie_X5_speedUp.1) rfl (Nat.le_of_ble_eq_true rfl) ?_
  exact pm_run ((pq_X5_speedUp_m a1 s l x y).symm.trans h) (pz_X5_speedUp hT) (pm_bks_ok pb_X5_speedUp) (pm_bks_ok pb_X5_speedUp _ _ rfl) (pm_ndb_ok rfl) (fun _ _ h => by cases h)
abbrev ph_X5_speedUp {A : Type} : List pj_V → pj_Z → (List pj_V → pj_Z → Option A) → Option A := fun st z K => pj_pi st fun a1 st => pj_pr st 122 0 fun st => pj_ps st (pj_b (pf_X5_speedUp a1 z.1 z.2.1 z.2.2.1 z.2.2.2) fun r s l x y => K st (s, l, x, y))
set_option maxRecDepth 100000 in
theorem pc_X5_speedUp {A : Type} {OK : A → Option Value → mj_M → Prop} {d j pc ix : Nat} {Y : mj_Y} {lf : pj_Z → mj_M} (hT : pj_Lt pj_TC lf) (hd : 2 ≤ d) (hl : mj_lk Y.2.2.2.2 pc = some (.invokevirtual ix, 3)) (hg : mj_pG ic_P j ix = some (5002, 1, some 5)) {lv : List (Nat × Value)} {st : List pj_V} {z : pj_Z} {K : List pj_V → pj_Z → Option A} {a : A} (hK : ∀ st z, K st z = some a → pj_Gd ic_P (mj_R ic_P d) j Y OK lf (pc + 3) lv (pj_es st) z a) (h : ph_X5_speedUp st z K = some a) : pj_Gd ic_P (mj_R ic_P d) j Y OK lf pc lv (pj_es st) z a := by
  obtain ⟨a1, r1, e1, h⟩ := pj_pi_inv h
  obtain ⟨r0, e0, h⟩ := pj_pr_inv h
  obtain ⟨hs, h⟩ := pj_ps_inv h
  obtain ⟨q, hq, h⟩ := pj_b_inv h
  exact pm_cv (o := 122) hl hg [.int a1] rfl (by rw [e1, e0]; rfl) hs (by decide) ((hT.2 122 _ rfl).1.2 z 0 (by decide)) (pm_rU q.1) hd (pm_X5_speedUp hT a1 z.1 z.2.1 z.2.2.1 z.2.2.2 q hq) rfl (hK _ _ h)
abbrev px_X5_slowDown : pj_C (Unit × pj_Z) := ((pj_as [(122, 5, 13, 1, 0, true, 0, [(0, 45), (0, 46), (0, 47), (0, 48), (0, 49), (0, 50), (0, 51), (0, 52), (0, 53), (0, 54), (0, 55), (2, 123), (0, 56)])]), (pj_as [(26, 5, 1, 0, false), (36, 5, 2, 0, false)]), (fun _ => none), (fun _ => none), (fun _ => none), ic_X, 1, 0, pj_mU, (pj_as [(21, ph_J9_max_7cf53)]), fun _ => false)
abbrev pk_X5_slowDown : List (Nat × List (Nat × Instr × Nat)) := [(0, [(0, .aload_n 0, 1), (1, .iconst 0, 1), (2, .aload_n 0, 1), (3, .getfield 26, 3), (6, .aload_n 0, 1), (7, .getfield 26, 3), (10, .bipush 64, 2), (12, .idiv, 1), (13, .aload_n 0, 1), (14, .getfield 36, 3), (17, .iconst 4, 1), (18, .idiv, 1), (19, .iadd, 1), (20, .isub, 1), (21, .invokestatic 39, 3), (24, .putfield 26, 3), (27, .return_, 1)])]
set_option maxRecDepth 100000 in
theorem pq_X5_slowDown_m   (s : Nat → Int32) (l : Nat → Int64) (x : Nat → Int32) (y : Nat → Int64) : pf_X5_slowDown  s l x y = pj_bl px_X5_slowDown (pj_rn px_X5_slowDown (pj_as pk_X5_slowDown) (fun _ => none) 60) [(0, .aload_n 0, 1), (1, .iconst 0, 1), (2, .aload_n 0, 1), (3, .getfield 26, 3), (6, .aload_n 0, 1), (7, .getfield 26, 3), (10, .bipush 64, 2), (12, .idiv, 1), (13, .aload_n 0, 1), (14, .getfield 36, 3), (17, .iconst 4, 1), (18, .idiv, 1), (19, .iadd, 1), (20, .isub, 1), (21, .invokestatic 39, 3), (24, .putfield 26, 3), (27, .return_, 1)] 0 [(0, pj_O (122, 0))] [] (s, l, x, y) := rfl
set_option maxRecDepth 100000 in
theorem pz_X5_slowDown {lf : pj_Z → mj_M} (hT : pj_Lt pj_TC lf) : pj_Cok ic_P (mj_R ic_P 1) 5003 ie_X5_slowDown.1 (pm_OK lf pm_rU) lf px_X5_slowDown := by
  exact pm_cok (c := px_X5_slowDown) (pm_part hT (pj_as_all (p := fun b e => pj_TC b = some e) (List.forall_mem_cons.mpr ⟨rfl, (fun _ h => by cases h)⟩))) (pm_in_ok (L := [(26, 5, 1, 0, false), (36, 5, 2, 0, false)]) (f := mj_pF ic_P 5003) (by decide +kernel)) (fun _ _ h => by cases h) (fun _ _ h => by cases h) (fun _ _ h => by cases h) rfl rfl ⟨by decide, rfl⟩ pm_mU (pj_as_all (p := pm_Cl 1 5003 ie_X5_slowDown.1 lf (pm_OK lf pm_rU)) (List.forall_mem_cons.mpr ⟨fun _ _ lv st z K a hK h => pc_J9_max_7cf53 (pm_none hT) (by decide) (ix := 39) rfl rfl hK h, (fun _ h => by cases h)⟩)) (fun _ h => by cases h)
set_option maxRecDepth 100000 in
theorem pb_X5_slowDown : pm_bks ie_X5_slowDown.1.2.2.2.2 pk_X5_slowDown = true := by decide +kernel
set_option maxRecDepth 100000 in
theorem pm_X5_slowDown {lf : pj_Z → mj_M} (hT : pj_Lt pj_TC lf)  (s : Nat → Int32) (l : Nat → Int64) (x : Nat → Int32) (y : Nat → Int64) (a : Unit × pj_Z) (h : pf_X5_slowDown  s l x y = some a) : mj_R ic_P 2 5003 [.ref 122] (lf (s, l, x, y)) (pm_rU a.1) (lf a.2) := by
  refine pm_main (Y := ie_X5_slowDown.1) rfl (Nat.le_of_ble_eq_true rfl) ?_
  exact pm_run ((pq_X5_slowDown_m  s l x y).symm.trans h) (pz_X5_slowDown hT) (pm_bks_ok pb_X5_slowDown) (pm_bks_ok pb_X5_slowDown _ _ rfl) (pm_ndb_ok rfl) (fun _ _ h => by cases h)
abbrev ph_X5_slowDown {A : Type} : List pj_V → pj_Z → (List pj_V → pj_Z → Option A) → Option A := fun st z K => pj_pr st 122 0 fun st => pj_ps st (pj_b (pf_X5_slowDown  z.1 z.2.1 z.2.2.1 z.2.2.2) fun r s l x y => K st (s, l, x, y))
set_option maxRecDepth 100000 in
theorem pc_X5_slowDown {A : Type} {OK : A → Option Value → mj_M → Prop} {d j pc ix : Nat} {Y : mj_Y} {lf : pj_Z → mj_M} (hT : pj_Lt pj_TC lf) (hd : 2 ≤ d) (hl : mj_lk Y.2.2.2.2 pc = some (.invokevirtual ix, 3)) (hg : mj_pG ic_P j ix = some (5003, 0, some 5)) {lv : List (Nat × Value)} {st : List pj_V} {z : pj_Z} {K : List pj_V → pj_Z → Option A} {a : A} (hK : ∀ st z, K st z = some a → pj_Gd ic_P (mj_R ic_P d) j Y OK lf (pc + 3) lv (pj_es st) z a) (h : ph_X5_slowDown st z K = some a) : pj_Gd ic_P (mj_R ic_P d) j Y OK lf pc lv (pj_es st) z a := by
  obtain ⟨r0, e0, h⟩ := pj_pr_inv h
  obtain ⟨hs, h⟩ := pj_ps_inv h
  obtain ⟨q, hq, h⟩ := pj_b_inv h
  exact pm_cv (o := 122) hl hg [] rfl (by rw [e0]; rfl) hs (by decide) ((hT.2 122 _ rfl).1.2 z 0 (by decide)) (pm_rU q.1) hd (pm_X5_slowDown hT  z.1 z.2.1 z.2.2.1 z.2.2.2 q hq) rfl (hK _ _ h)
abbrev pe_X11_pushWheel_12 (f : Int32 → Int32 → pj_F (Unit × pj_Z)) : pj_K (Unit × pj_Z) := fun lv st z => pj_xr lv 0 0 0 <| pj_xi lv 1 fun a1 => pj_xi lv 2 fun a2 => pj_pe st (f a1 a2 z.1 z.2.1 z.2.2.1 z.2.2.2)
abbrev pe_X11_pushWheel_56 (f : Int32 → Int32 → pj_F (Unit × pj_Z)) : pj_K (Unit × pj_Z) := fun lv st z => pj_xr lv 0 0 0 <| pj_xi lv 1 fun a1 => pj_xi lv 2 fun a2 => pj_pe st (f a1 a2 z.1 z.2.1 z.2.2.1 z.2.2.2)
abbrev pe_X11_pushWheel_62 (f : pj_F (Unit × pj_Z)) : pj_K (Unit × pj_Z) := fun lv st z => pj_xr lv 0 0 0 <| pj_pe st (f  z.1 z.2.1 z.2.2.1 z.2.2.2)
abbrev px_X11_pushWheel : pj_C (Unit × pj_Z) := ((pj_as [(0, 11, 17, 1, 0, true, 0, [(2, 1), (2, 20), (2, 58), (2, 68), (2, 82), (2, 83), (2, 85), (2, 96), (2, 102), (2, 106), (2, 122), (0, 93), (0, 94), (0, 95), (1, 1), (1, 2), (0, 96)]), (1, 4, 10, 1, 0, true, 0, [(2, 2), (2, 3), (2, 8), (2, 11), (2, 14), (2, 17), (2, 18), (2, 19), (0, 44), (1, 3)]), (2, 100, 24, 1, 0, true, 10000, []), (122, 5, 13, 1, 0, true, 0, [(0, 45), (0, 46), (0, 47), (0, 48), (0, 49), (0, 50), (0, 51), (0, 52), (0, 53), (0, 54), (0, 55), (2, 123), (0, 56)])]), (pj_as [(10, 11, 0, 2, true), (33, 11, 3, 2, true), (82, 11, 10, 2, true), (287, 4, 0, 2, true), (600, 5, 0, 0, false)]), (fun _ => none), (fun _ => none), (fun _ => none), ic_X, 3, 0, pj_mU, (pj_as [(32, ph_X11_topOf), (50, ph_X6_takeStroke), (53, ph_X5_speedUp), (79, ph_X5_slowDown)]), fun _ => false)
abbrev pk_X11_pushWheel : List (Nat × List (Nat × Instr × Nat)) := [(0, [(0, .aload_n 0, 1), (1, .getfield 10, 3), (4, .getfield 287, 3), (7, .iconst 0, 1), (8, .iaload, 1), (9, .istore_n 1, 1), (10, .iconst 0, 1), (11, .istore_n 2, 1)]), (12, [(12, .iload_n 2, 1), (13, .iload_n 1, 1), (14, .if_icmp .ge 48, 3)]), (17, [(17, .iload_n 2, 1), (18, .bipush 8, 2), (20, .if_icmp .ge 42, 3)]), (23, [(23, .aload_n 0, 1), (24, .getfield 82, 3), (27, .getfield 600, 3), (30, .aload_n 0, 1), (31, .iload_n 2, 1), (32, .invokevirtual 415, 3), (35, .bipush 60, 2), (37, .idiv, 1), (38, .if_icmp .ne 18, 3)]), (41, [(41, .aload_n 0, 1), (42, .getfield 82, 3), (45, .aload_n 0, 1), (46, .getfield 33, 3), (49, .iload_n 2, 1), (50, .invokevirtual 1039, 3), (53, .invokevirtual 1042, 3)]), (56, [(56, .iinc 2 1, 3), (59, .goto (-47), 3)]), (62, [(62, .aload_n 0, 1), (63, .getfield 82, 3), (66, .getfield 600, 3), (69, .bipush 10, 2), (71, .irem, 1), (72, .ifCond .ne 10, 3)]), (75, [(75, .aload_n 0, 1), (76, .getfield 82, 3), (79, .invokevirtual 1045, 3)]), (82, [(82, .return_, 1)])]
set_option maxRecDepth 100000 in
theorem pq_X11_pushWheel_56 (fu : Nat)  (k12 : Int32 → Int32 → pj_F (Unit × pj_Z)) (a1 : Int32) (a2 : Int32) (s : Nat → Int32) (l : Nat → Int64) (x : Nat → Int32) (y : Nat → Int64) : pl_X11_pushWheel_56 fu k12 a1 a2 s l x y = pj_bl px_X11_pushWheel (pj_rn px_X11_pushWheel (pj_as pk_X11_pushWheel) (pj_as [(12, pe_X11_pushWheel_12 k12)]) 60) [(56, .iinc 2 1, 3), (59, .goto (-47), 3)] 56 [(0, pj_O (0, 0)), (1, pj_I a1), (2, pj_I a2)] [] (s, l, x, y) := rfl
set_option maxRecDepth 100000 in
theorem pq_X11_pushWheel_62 (fu : Nat)   (s : Nat → Int32) (l : Nat → Int64) (x : Nat → Int32) (y : Nat → Int64) : pl_X11_pushWheel_62 fu s l x y = pj_bl px_X11_pushWheel (pj_rn px_X11_pushWheel (pj_as pk_X11_pushWheel) (fun _ => none) 60) [(62, .aload_n 0, 1), (63, .getfield 82, 3), (66, .getfield 600, 3), (69, .bipush 10, 2), (71, .irem, 1), (72, .ifCond .ne 10, 3)] 62 [(0, pj_O (0, 0))] [] (s, l, x, y) := rfl
set_option maxRecDepth 100000 in
theorem pq_X11_pushWheel_12 (fu : Nat)  (n : Nat) (a1 : Int32) (a2 : Int32) (s : Nat → Int32) (l : Nat → Int64) (x : Nat → Int32) (y : Nat → Int64) : pl_X11_pushWheel_12 fu (n + 1) a1 a2 s l x y = pj_bl px_X11_pushWheel (pj_rn px_X11_pushWheel (pj_as pk_X11_pushWheel) (pj_as [(12, pe_X11_pushWheel_12 (pl_X11_pushWheel_12 fu n)), (56, pe_X11_pushWheel_56 (pl_X11_pushWheel_56 fu (pl_X11_pushWheel_12 fu n))), (62, pe_X11_pushWheel_62 (pl_X11_pushWheel_62 fu))]) 60) [(12, .iload_n 2, 1), (13, .iload_n 1, 1), (14, .if_icmp .ge 48, 3)] 12 [(0, pj_O (0, 0)), (1, pj_I a1), (2, pj_I a2)] [] (s, l, x, y) := rfl
set_option maxRecDepth 100000 in
theorem pq_X11_pushWheel_m (fu : Nat)   (s : Nat → Int32) (l : Nat → Int64) (x : Nat → Int32) (y : Nat → Int64) : po_X11_pushWheel fu  s l x y = pj_bl px_X11_pushWheel (pj_rn px_X11_pushWheel (pj_as pk_X11_pushWheel) (pj_as [(12, pe_X11_pushWheel_12 (pl_X11_pushWheel_12 fu fu))]) 60) [(0, .aload_n 0, 1), (1, .getfield 10, 3), (4, .getfield 287, 3), (7, .iconst 0, 1), (8, .iaload, 1), (9, .istore_n 1, 1), (10, .iconst 0, 1), (11, .istore_n 2, 1)] 0 [(0, pj_O (0, 0))] [] (s, l, x, y) := rfl
theorem pu_X11_pushWheel_12 {lf : pj_Z → mj_M} {a : Unit × pj_Z} (f : Int32 → Int32 → pj_F (Unit × pj_Z)) (hf : ∀ (a1 : Int32) (a2 : Int32) (s : Nat → Int32) (l : Nat → Int64) (x : Nat → Int32) (y : Nat → Int64), f a1 a2 s l x y = some a → pm_Gd 2 11099 ie_X11_pushWheel.1 pm_rU lf 12 [(0, .ref 0), (1, .int a1), (2, .int a2)] [] (s, l, x, y) a) : pm_Ex 2 11099 ie_X11_pushWheel.1 pm_rU lf a 12 (pe_X11_pushWheel_12 f) := by
  intro lv st z hd h
  obtain ⟨g0, h⟩ := pj_xr_inv h
  obtain ⟨a1, g1, h⟩ := pj_xi_inv h
  obtain ⟨a2, g2, h⟩ := pj_xi_inv h
  obtain ⟨e9, h⟩ := pj_pe_inv h
  rw [e9]
  exact mj_wp_sub (mj_sub_cons g0 (mj_sub_cons g1 (mj_sub_cons g2 (mj_sub_nil hd)))) (hf _ _ _ _ _ _ h)
theorem pu_X11_pushWheel_56 {lf : pj_Z → mj_M} {a : Unit × pj_Z} (f : Int32 → Int32 → pj_F (Unit × pj_Z)) (hf : ∀ (a1 : Int32) (a2 : Int32) (s : Nat → Int32) (l : Nat → Int64) (x : Nat → Int32) (y : Nat → Int64), f a1 a2 s l x y = some a → pm_Gd 2 11099 ie_X11_pushWheel.1 pm_rU lf 56 [(0, .ref 0), (1, .int a1), (2, .int a2)] [] (s, l, x, y) a) : pm_Ex 2 11099 ie_X11_pushWheel.1 pm_rU lf a 56 (pe_X11_pushWheel_56 f) := by
  intro lv st z hd h
  obtain ⟨g0, h⟩ := pj_xr_inv h
  obtain ⟨a1, g1, h⟩ := pj_xi_inv h
  obtain ⟨a2, g2, h⟩ := pj_xi_inv h
  obtain ⟨e9, h⟩ := pj_pe_inv h
  rw [e9]
  exact mj_wp_sub (mj_sub_cons g0 (mj_sub_cons g1 (mj_sub_cons g2 (mj_sub_nil hd)))) (hf _ _ _ _ _ _ h)
theorem pu_X11_pushWheel_62 {lf : pj_Z → mj_M} {a : Unit × pj_Z} (f : pj_F (Unit × pj_Z)) (hf : ∀  (s : Nat → Int32) (l : Nat → Int64) (x : Nat → Int32) (y : Nat → Int64), f  s l x y = some a → pm_Gd 2 11099 ie_X11_pushWheel.1 pm_rU lf 62 [(0, .ref 0)] [] (s, l, x, y) a) : pm_Ex 2 11099 ie_X11_pushWheel.1 pm_rU lf a 62 (pe_X11_pushWheel_62 f) := by
  intro lv st z hd h
  obtain ⟨g0, h⟩ := pj_xr_inv h
  obtain ⟨e9, h⟩ := pj_pe_inv h
  rw [e9]
  exact mj_wp_sub (mj_sub_cons g0 (mj_sub_nil hd)) (hf  _ _ _ _ h)
set_option maxRecDepth 100000 in
theorem pz_X11_pushWheel {lf : pj_Z → mj_M} (hT : pj_Lt pj_TC lf) : pj_Cok ic_P (mj_R ic_P 2) 11099 ie_X11_pushWheel.1 (pm_OK lf pm_rU) lf px_X11_pushWheel := by
  exact pm_cok (c := px_X11_pushWheel) (pm_part hT (pj_as_all (p := fun b e => pj_TC b = some e) (List.forall_mem_cons.mpr ⟨rfl, (List.forall_mem_cons.mpr ⟨rfl, (List.forall_mem_cons.mpr ⟨rfl, (List.forall_mem_cons.mpr ⟨rfl, (fun _ h => by cases h)⟩)⟩)⟩)⟩))) (pm_in_ok (L := [(10, 11, 0, 2, true), (33, 11, 3, 2, true), (82, 11, 10, 2, true), (287, 4, 0, 2, true), (600, 5, 0, 0, false)]) (f := mj_pF ic_P 11099) (by decide +kernel)) (fun _ _ h => by cases h) (fun _ _ h => by cases h) (fun _ _ h => by cases h) rfl rfl ⟨by decide, rfl⟩ pm_mU (pj_as_all (p := pm_Cl 2 11099 ie_X11_pushWheel.1 lf (pm_OK lf pm_rU)) (List.forall_mem_cons.mpr ⟨fun _ _ lv st z K a hK h => pc_X11_topOf hT (by decide) (ix := 415) rfl rfl hK h, (List.forall_mem_cons.mpr ⟨fun _ _ lv st z K a hK h => pc_X6_takeStroke hT (by decide) (ix := 1039) rfl rfl hK h, (List.forall_mem_cons.mpr ⟨fun _ _ lv st z K a hK h => pc_X5_speedUp hT (by decide) (ix := 1042) rfl rfl hK h, (List.forall_mem_cons.mpr ⟨fun _ _ lv st z K a hK h => pc_X5_slowDown hT (by decide) (ix := 1045) rfl rfl hK h, (fun _ h => by cases h)⟩)⟩)⟩)⟩)) (fun _ h => by cases h)
set_option maxRecDepth 100000 in
theorem pb_X11_pushWheel : pm_bks ie_X11_pushWheel.1.2.2.2.2 pk_X11_pushWheel = true := by decide +kernel
set_option maxRecDepth 100000 in
theorem pg_X11_pushWheel_56 {fu : Nat} {lf : pj_Z → mj_M} (hT : pj_Lt pj_TC lf) {k12 : Int32 → Int32 → pj_F (Unit × pj_Z)} (hk12 : ∀ (a1 : Int32) (a2 : Int32) (s : Nat → Int32) (l : Nat → Int64) (x : Nat → Int32) (y : Nat → Int64) (a : Unit × pj_Z), k12 a1 a2 s l x y = some a → pm_Gd 2 11099 ie_X11_pushWheel.1 pm_rU lf 12 [(0, .ref 0), (1, .int a1), (2, .int a2)] [] (s, l, x, y) a) : ∀ (a1 : Int32) (a2 : Int32) (s : Nat → Int32) (l : Nat → Int64) (x : Nat → Int32) (y : Nat → Int64) (a : Unit × pj_Z), pl_X11_pushWheel_56 fu k12 a1 a2 s l x y = some a → pm_Gd 2 11099 ie_X11_pushWheel.1 pm_rU lf 56 [(0, .ref 0), (1, .int a1), (2, .int a2)] [] (s, l, x, y) a := by
  intro a1 a2 s l x y a h
  exact pm_run ((pq_X11_pushWheel_56 fu k12 a1 a2 s l x y).symm.trans h) (pz_X11_pushWheel hT) (pm_bks_ok pb_X11_pushWheel) (pm_bks_ok pb_X11_pushWheel _ _ rfl) (pm_ndb_ok rfl) (pj_as_all (p := pm_Ex 2 11099 ie_X11_pushWheel.1 pm_rU lf a) (List.forall_mem_cons.mpr ⟨pu_X11_pushWheel_12 _ (fun c0 c1 s l x y h => hk12 c0 c1 s l x y _ h), (fun _ h => by cases h)⟩))
set_option maxRecDepth 100000 in
theorem pg_X11_pushWheel_62 {fu : Nat} {lf : pj_Z → mj_M} (hT : pj_Lt pj_TC lf) : ∀  (s : Nat → Int32) (l : Nat → Int64) (x : Nat → Int32) (y : Nat → Int64) (a : Unit × pj_Z), pl_X11_pushWheel_62 fu s l x y = some a → pm_Gd 2 11099 ie_X11_pushWheel.1 pm_rU lf 62 [(0, .ref 0)] [] (s, l, x, y) a := by
  intro  s l x y a h
  exact pm_run ((pq_X11_pushWheel_62 fu  s l x y).symm.trans h) (pz_X11_pushWheel hT) (pm_bks_ok pb_X11_pushWheel) (pm_bks_ok pb_X11_pushWheel _ _ rfl) (pm_ndb_ok rfl) (fun _ _ h => by cases h)
set_option maxRecDepth 100000 in
theorem pg_X11_pushWheel_12 {fu : Nat} {lf : pj_Z → mj_M} (hT : pj_Lt pj_TC lf) : ∀ (n : Nat), ∀ (a1 : Int32) (a2 : Int32) (s : Nat → Int32) (l : Nat → Int64) (x : Nat → Int32) (y : Nat → Int64) (a : Unit × pj_Z), pl_X11_pushWheel_12 fu n a1 a2 s l x y = some a → pm_Gd 2 11099 ie_X11_pushWheel.1 pm_rU lf 12 [(0, .ref 0), (1, .int a1), (2, .int a2)] [] (s, l, x, y) a := by
  intro n
  induction n with
  | zero => intro a1 a2 s l x y a h; cases (show (none : Option (Unit × pj_Z)) = some a from h)
  | succ n ih =>
    intro a1 a2 s l x y a h
    exact pm_run ((pq_X11_pushWheel_12 fu n a1 a2 s l x y).symm.trans h) (pz_X11_pushWheel hT) (pm_bks_ok pb_X11_pushWheel) (pm_bks_ok pb_X11_pushWheel _ _ rfl) (pm_ndb_ok rfl) (pj_as_all (p := pm_Ex 2 11099 ie_X11_pushWheel.1 pm_rU lf a) (List.forall_mem_cons.mpr ⟨pu_X11_pushWheel_12 _ (fun c0 c1 s l x y h => ih c0 c1 s l x y _ h), (List.forall_mem_cons.mpr ⟨pu_X11_pushWheel_56 _ (fun c0 c1 s l x y h => pg_X11_pushWheel_56 hT (fun a1 a2 s l x y a h => ih a1 a2 s l x y a h) c0 c1 s l x y _ h), (List.forall_mem_cons.mpr ⟨pu_X11_pushWheel_62 _ (fun  s l x y h => pg_X11_pushWheel_62 hT  s l x y _ h), (fun _ h => by cases h)⟩)⟩)⟩))
set_option maxRecDepth 100000 in
theorem pm_X11_pushWheel {lf : pj_Z → mj_M} (hT : pj_Lt pj_TC lf)  (s : Nat → Int32) (l : Nat → Int64) (x : Nat → Int32) (y : Nat → Int64) (a : Unit × pj_Z) (h : pf_X11_pushWheel  s l x y = some a) : mj_R ic_P 3 11099 [.ref 0] (lf (s, l, x, y)) (pm_rU a.1) (lf a.2) := by
  refine pm_main (Y := ie_X11_pushWheel.1) rfl (Nat.le_of_ble_eq_true rfl) ?_
  exact pm_run ((pq_X11_pushWheel_m 1000  s l x y).symm.trans h) (pz_X11_pushWheel hT) (pm_bks_ok pb_X11_pushWheel) (pm_bks_ok pb_X11_pushWheel _ _ rfl) (pm_ndb_ok rfl) (pj_as_all (p := pm_Ex 2 11099 ie_X11_pushWheel.1 pm_rU lf a) (List.forall_mem_cons.mpr ⟨pu_X11_pushWheel_12 _ (fun c0 c1 s l x y h => pg_X11_pushWheel_12 hT _ c0 c1 s l x y _ h), (fun _ h => by cases h)⟩))
abbrev ph_X11_pushWheel {A : Type} : List pj_V → pj_Z → (List pj_V → pj_Z → Option A) → Option A := fun st z K => pj_pr st 0 0 fun st => pj_ps st (pj_b (pf_X11_pushWheel  z.1 z.2.1 z.2.2.1 z.2.2.2) fun r s l x y => K st (s, l, x, y))
set_option maxRecDepth 100000 in
theorem pc_X11_pushWheel {A : Type} {OK : A → Option Value → mj_M → Prop} {d j pc ix : Nat} {Y : mj_Y} {lf : pj_Z → mj_M} (hT : pj_Lt pj_TC lf) (hd : 3 ≤ d) (hl : mj_lk Y.2.2.2.2 pc = some (.invokevirtual ix, 3)) (hg : mj_pG ic_P j ix = some (11099, 0, some 11)) {lv : List (Nat × Value)} {st : List pj_V} {z : pj_Z} {K : List pj_V → pj_Z → Option A} {a : A} (hK : ∀ st z, K st z = some a → pj_Gd ic_P (mj_R ic_P d) j Y OK lf (pc + 3) lv (pj_es st) z a) (h : ph_X11_pushWheel st z K = some a) : pj_Gd ic_P (mj_R ic_P d) j Y OK lf pc lv (pj_es st) z a := by
  obtain ⟨r0, e0, h⟩ := pj_pr_inv h
  obtain ⟨hs, h⟩ := pj_ps_inv h
  obtain ⟨q, hq, h⟩ := pj_b_inv h
  exact pm_cv (o := 0) hl hg [] rfl (by rw [e0]; rfl) hs (by decide) ((hT.2 0 _ rfl).1.2 z 0 (by decide)) (pm_rU q.1) hd (pm_X11_pushWheel hT  z.1 z.2.1 z.2.2.1 z.2.2.2 q hq) rfl (hK _ _ h)
abbrev pe_X11_run_12 (f : pj_F (Int32 × pj_Z)) : pj_K (Int32 × pj_Z) := fun lv st z => pj_pe st (f  z.1 z.2.1 z.2.2.1 z.2.2.2)
abbrev pe_X11_run_24 (f : Int32 → Int32 → pj_F (Int32 × pj_Z)) : pj_K (Int32 × pj_Z) := fun lv st z => pj_xr lv 0 0 0 <| pj_xi lv 1 fun a1 => pj_xi lv 2 fun a2 => pj_pe st (f a1 a2 z.1 z.2.1 z.2.2.1 z.2.2.2)
abbrev px_X11_run : pj_C (Int32 × pj_Z) := ((pj_as [(0, 11, 17, 1, 0, true, 0, [(2, 1), (2, 20), (2, 58), (2, 68), (2, 82), (2, 83), (2, 85), (2, 96), (2, 102), (2, 106), (2, 122), (0, 93), (0, 94), (0, 95), (1, 1), (1, 2), (0, 96)])]), (pj_as [(82, 11, 10, 2, true), (86, 11, 11, 1, false)]), (fun _ => none), (fun _ => none), (fun _ => none), ic_X, 4, 1, pj_mI, (pj_as [(33, ph_X5_stepTicks), (52, ph_X11_passTo), (56, ph_X11_arrive), (60, ph_X11_pushWheel)]), fun _ => false)
abbrev pk_X11_run : List (Nat × List (Nat × Instr × Nat)) := [(0, [(0, .iload_n 1, 1), (1, .iconst 1, 1), (2, .if_icmp .lt 10, 3)]), (5, [(5, .iload_n 1, 1), (6, .sipush 240, 3), (9, .if_icmp .le 13, 3)]), (12, [(12, .new 107, 3)]), (22, [(22, .iconst 0, 1), (23, .istore_n 2, 1)]), (24, [(24, .iload_n 2, 1), (25, .iload_n 1, 1), (26, .if_icmp .ge 43, 3)]), (29, [(29, .aload_n 0, 1), (30, .getfield 82, 3), (33, .invokevirtual 143, 3), (36, .istore_n 3, 1), (37, .iload_n 3, 1), (38, .iconst (-1), 1), (39, .if_icmp .ne 5, 3)]), (42, [(42, .iload_n 2, 1), (43, .ireturn, 1)]), (44, [(44, .aload_n 0, 1), (45, .aload_n 0, 1), (46, .getfield 86, 3), (49, .iload_n 3, 1), (50, .i2l, 1), (51, .ladd, 1), (52, .invokevirtual 117, 3), (55, .aload_n 0, 1), (56, .invokevirtual 140, 3), (59, .aload_n 0, 1), (60, .invokevirtual 147, 3), (63, .iinc 2 1, 3), (66, .goto (-42), 3)]), (69, [(69, .iload_n 1, 1), (70, .ireturn, 1)])]
set_option maxRecDepth 100000 in
theorem pq_X11_run_12 (fu : Nat)   (s : Nat → Int32) (l : Nat → Int64) (x : Nat → Int32) (y : Nat → Int64) : pl_X11_run_12 fu s l x y = pj_bl px_X11_run (pj_rn px_X11_run (pj_as pk_X11_run) (fun _ => none) 60) [(12, .new 107, 3)] 12 [] [] (s, l, x, y) := rfl
set_option maxRecDepth 100000 in
theorem pq_X11_run_24 (fu : Nat)  (n : Nat) (a1 : Int32) (a2 : Int32) (s : Nat → Int32) (l : Nat → Int64) (x : Nat → Int32) (y : Nat → Int64) : pl_X11_run_24 fu (n + 1) a1 a2 s l x y = pj_bl px_X11_run (pj_rn px_X11_run (pj_as pk_X11_run) (pj_as [(24, pe_X11_run_24 (pl_X11_run_24 fu n))]) 60) [(24, .iload_n 2, 1), (25, .iload_n 1, 1), (26, .if_icmp .ge 43, 3)] 24 [(0, pj_O (0, 0)), (1, pj_I a1), (2, pj_I a2)] [] (s, l, x, y) := rfl
set_option maxRecDepth 100000 in
theorem pq_X11_run_m (fu : Nat)  (a1 : Int32) (s : Nat → Int32) (l : Nat → Int64) (x : Nat → Int32) (y : Nat → Int64) : po_X11_run fu a1 s l x y = pj_bl px_X11_run (pj_rn px_X11_run (pj_as pk_X11_run) (pj_as [(12, pe_X11_run_12 (pl_X11_run_12 fu)), (24, pe_X11_run_24 (pl_X11_run_24 fu fu))]) 60) [(0, .iload_n 1, 1), (1, .iconst 1, 1), (2, .if_icmp .lt 10, 3)] 0 [(0, pj_O (0, 0)), (1, pj_I a1)] [] (s, l, x, y) := rfl
theorem pu_X11_run_12 {lf : pj_Z → mj_M} {a : Int32 × pj_Z} (f : pj_F (Int32 × pj_Z)) (hf : ∀  (s : Nat → Int32) (l : Nat → Int64) (x : Nat → Int32) (y : Nat → Int64), f  s l x y = some a → pm_Gd 7 11006 ie_X11_run.1 pm_rI lf 12 [] [] (s, l, x, y) a) : pm_Ex 7 11006 ie_X11_run.1 pm_rI lf a 12 (pe_X11_run_12 f) := by
  intro lv st z hd h
  obtain ⟨e9, h⟩ := pj_pe_inv h
  rw [e9]
  exact mj_wp_sub (mj_sub_nil hd) (hf  _ _ _ _ h)
theorem pu_X11_run_24 {lf : pj_Z → mj_M} {a : Int32 × pj_Z} (f : Int32 → Int32 → pj_F (Int32 × pj_Z)) (hf : ∀ (a1 : Int32) (a2 : Int32) (s : Nat → Int32) (l : Nat → Int64) (x : Nat → Int32) (y : Nat → Int64), f a1 a2 s l x y = some a → pm_Gd 7 11006 ie_X11_run.1 pm_rI lf 24 [(0, .ref 0), (1, .int a1), (2, .int a2)] [] (s, l, x, y) a) : pm_Ex 7 11006 ie_X11_run.1 pm_rI lf a 24 (pe_X11_run_24 f) := by
  intro lv st z hd h
  obtain ⟨g0, h⟩ := pj_xr_inv h
  obtain ⟨a1, g1, h⟩ := pj_xi_inv h
  obtain ⟨a2, g2, h⟩ := pj_xi_inv h
  obtain ⟨e9, h⟩ := pj_pe_inv h
  rw [e9]
  exact mj_wp_sub (mj_sub_cons g0 (mj_sub_cons g1 (mj_sub_cons g2 (mj_sub_nil hd)))) (hf _ _ _ _ _ _ h)
set_option maxRecDepth 100000 in
theorem pz_X11_run {lf : pj_Z → mj_M} (hT : pj_Lt pj_TC lf) : pj_Cok ic_P (mj_R ic_P 7) 11006 ie_X11_run.1 (pm_OK lf pm_rI) lf px_X11_run := by
  exact pm_cok (c := px_X11_run) (pm_part hT (pj_as_all (p := fun b e => pj_TC b = some e) (List.forall_mem_cons.mpr ⟨rfl, (fun _ h => by cases h)⟩))) (pm_in_ok (L := [(82, 11, 10, 2, true), (86, 11, 11, 1, false)]) (f := mj_pF ic_P 11006) (by decide +kernel)) (fun _ _ h => by cases h) (fun _ _ h => by cases h) (fun _ _ h => by cases h) rfl rfl ⟨by decide, rfl⟩ pm_mI (pj_as_all (p := pm_Cl 7 11006 ie_X11_run.1 lf (pm_OK lf pm_rI)) (List.forall_mem_cons.mpr ⟨fun _ _ lv st z K a hK h => pc_X5_stepTicks hT (by decide) (ix := 143) rfl rfl hK h, (List.forall_mem_cons.mpr ⟨fun _ _ lv st z K a hK h => pc_X11_passTo hT (by decide) (ix := 117) rfl rfl hK h, (List.forall_mem_cons.mpr ⟨fun _ _ lv st z K a hK h => pc_X11_arrive hT (by decide) (ix := 140) rfl rfl hK h, (List.forall_mem_cons.mpr ⟨fun _ _ lv st z K a hK h => pc_X11_pushWheel hT (by decide) (ix := 147) rfl rfl hK h, (fun _ h => by cases h)⟩)⟩)⟩)⟩)) (fun _ h => by cases h)
set_option maxRecDepth 100000 in
theorem pb_X11_run : pm_bks ie_X11_run.1.2.2.2.2 pk_X11_run = true := by decide +kernel
set_option maxRecDepth 100000 in
theorem pg_X11_run_12 {fu : Nat} {lf : pj_Z → mj_M} (hT : pj_Lt pj_TC lf) : ∀  (s : Nat → Int32) (l : Nat → Int64) (x : Nat → Int32) (y : Nat → Int64) (a : Int32 × pj_Z), pl_X11_run_12 fu s l x y = some a → pm_Gd 7 11006 ie_X11_run.1 pm_rI lf 12 [] [] (s, l, x, y) a := by
  intro  s l x y a h
  exact pm_run ((pq_X11_run_12 fu  s l x y).symm.trans h) (pz_X11_run hT) (pm_bks_ok pb_X11_run) (pm_bks_ok pb_X11_run _ _ rfl) (pm_ndb_ok rfl) (fun _ _ h => by cases h)
set_option maxRecDepth 100000 in
theorem pg_X11_run_24 {fu : Nat} {lf : pj_Z → mj_M} (hT : pj_Lt pj_TC lf) : ∀ (n : Nat), ∀ (a1 : Int32) (a2 : Int32) (s : Nat → Int32) (l : Nat → Int64) (x : Nat → Int32) (y : Nat → Int64) (a : Int32 × pj_Z), pl_X11_run_24 fu n a1 a2 s l x y = some a → pm_Gd 7 11006 ie_X11_run.1 pm_rI lf 24 [(0, .ref 0), (1, .int a1), (2, .int a2)] [] (s, l, x, y) a := by
  intro n
  induction n with
  | zero => intro a1 a2 s l x y a h; cases (show (none : Option (Int32 × pj_Z)) = some a from h)
  | succ n ih =>
    intro a1 a2 s l x y a h
    exact pm_run ((pq_X11_run_24 fu n a1 a2 s l x y).symm.trans h) (pz_X11_run hT) (pm_bks_ok pb_X11_run) (pm_bks_ok pb_X11_run _ _ rfl) (pm_ndb_ok rfl) (pj_as_all (p := pm_Ex 7 11006 ie_X11_run.1 pm_rI lf a) (List.forall_mem_cons.mpr ⟨pu_X11_run_24 _ (fun c0 c1 s l x y h => ih c0 c1 s l x y _ h), (fun _ h => by cases h)⟩))
set_option maxRecDepth 100000 in
theorem pm_X11_run {lf : pj_Z → mj_M} (hT : pj_Lt pj_TC lf) (a1 : Int32) (s : Nat → Int32) (l : Nat → Int64) (x : Nat → Int32) (y : Nat → Int64) (a : Int32 × pj_Z) (h : pf_X11_run a1 s l x y = some a) : mj_R ic_P 8 11006 [.ref 0, .int a1] (lf (s, l, x, y)) (pm_rI a.1) (lf a.2) := by
  refine pm_main (Y := ie_X11_run.1) rfl (Nat.le_of_ble_eq_true rfl) ?_
  exact pm_run ((pq_X11_run_m 1000 a1 s l x y).symm.trans h) (pz_X11_run hT) (pm_bks_ok pb_X11_run) (pm_bks_ok pb_X11_run _ _ rfl) (pm_ndb_ok rfl) (pj_as_all (p := pm_Ex 7 11006 ie_X11_run.1 pm_rI lf a) (List.forall_mem_cons.mpr ⟨pu_X11_run_12 _ (fun  s l x y h => pg_X11_run_12 hT  s l x y _ h), (List.forall_mem_cons.mpr ⟨pu_X11_run_24 _ (fun c0 c1 s l x y h => pg_X11_run_24 hT _ c0 c1 s l x y _ h), (fun _ h => by cases h)⟩)⟩))
abbrev ph_X11_run {A : Type} : List pj_V → pj_Z → (List pj_V → pj_Z → Option A) → Option A := fun st z K => pj_pi st fun a1 st => pj_pr st 0 0 fun st => pj_ps st (pj_b (pf_X11_run a1 z.1 z.2.1 z.2.2.1 z.2.2.2) fun r s l x y => K (pj_I r :: st) (s, l, x, y))
set_option maxRecDepth 100000 in
theorem pc_X11_run {A : Type} {OK : A → Option Value → mj_M → Prop} {d j pc ix : Nat} {Y : mj_Y} {lf : pj_Z → mj_M} (hT : pj_Lt pj_TC lf) (hd : 8 ≤ d) (hl : mj_lk Y.2.2.2.2 pc = some (.invokevirtual ix, 3)) (hg : mj_pG ic_P j ix = some (11006, 1, some 11)) {lv : List (Nat × Value)} {st : List pj_V} {z : pj_Z} {K : List pj_V → pj_Z → Option A} {a : A} (hK : ∀ st z, K st z = some a → pj_Gd ic_P (mj_R ic_P d) j Y OK lf (pc + 3) lv (pj_es st) z a) (h : ph_X11_run st z K = some a) : pj_Gd ic_P (mj_R ic_P d) j Y OK lf pc lv (pj_es st) z a := by
  obtain ⟨a1, r1, e1, h⟩ := pj_pi_inv h
  obtain ⟨r0, e0, h⟩ := pj_pr_inv h
  obtain ⟨hs, h⟩ := pj_ps_inv h
  obtain ⟨q, hq, h⟩ := pj_b_inv h
  exact pm_cv (o := 0) hl hg [.int a1] rfl (by rw [e1, e0]; rfl) hs (by decide) ((hT.2 0 _ rfl).1.2 z 0 (by decide)) (pm_rI q.1) hd (pm_X11_run hT a1 z.1 z.2.1 z.2.2.1 z.2.2.2 q hq) rfl (hK _ _ h)
abbrev pe_X11_cut_12 (f : pj_F (Int32 × pj_Z)) : pj_K (Int32 × pj_Z) := fun lv st z => pj_pe st (f  z.1 z.2.1 z.2.2.1 z.2.2.2)
abbrev pe_X11_cut_35 (f : Int32 → Int32 → pj_F (Int32 × pj_Z)) : pj_K (Int32 × pj_Z) := fun lv st z => pj_xr lv 0 0 0 <| pj_xi lv 1 fun a1 => pj_pi st fun b1 st => pj_pr st 1 0 fun st => pj_pe st (f a1 b1 z.1 z.2.1 z.2.2.1 z.2.2.2)
abbrev px_X11_cut : pj_C (Int32 × pj_Z) := ((pj_as [(0, 11, 17, 1, 0, true, 0, [(2, 1), (2, 20), (2, 58), (2, 68), (2, 82), (2, 83), (2, 85), (2, 96), (2, 102), (2, 106), (2, 122), (0, 93), (0, 94), (0, 95), (1, 1), (1, 2), (0, 96)]), (1, 4, 10, 1, 0, true, 0, [(2, 2), (2, 3), (2, 8), (2, 11), (2, 14), (2, 17), (2, 18), (2, 19), (0, 44), (1, 3)])]), (pj_as [(10, 11, 0, 2, true), (90, 11, 12, 0, false), (152, 4, 8, 0, false)]), (fun _ => none), (fun _ => none), (fun _ => none), ic_X, 2, 1, pj_mI, (pj_as [(43, ph_X11_goOff)]), fun _ => false)
abbrev pk_X11_cut : List (Nat × List (Nat × Instr × Nat)) := [(0, [(0, .iload_n 1, 1), (1, .iconst (-1), 1), (2, .if_icmp .lt 10, 3)]), (5, [(5, .iload_n 1, 1), (6, .sipush 1000, 3), (9, .if_icmp .le 13, 3)]), (12, [(12, .new 107, 3)]), (22, [(22, .aload_n 0, 1), (23, .getfield 10, 3), (26, .iload_n 1, 1), (27, .ifCond .le 7, 3)]), (30, [(30, .iload_n 1, 1), (31, .goto 4, 3)]), (34, [(34, .iconst (-1), 1)]), (35, [(35, .putfield 152, 3), (38, .iload_n 1, 1), (39, .ifCond .ne 7, 3)]), (42, [(42, .aload_n 0, 1), (43, .invokevirtual 155, 3)]), (46, [(46, .aload_n 0, 1), (47, .getfield 90, 3), (50, .ireturn, 1)])]
set_option maxRecDepth 100000 in
theorem pq_X11_cut_12   (s : Nat → Int32) (l : Nat → Int64) (x : Nat → Int32) (y : Nat → Int64) : pl_X11_cut_12 s l x y = pj_bl px_X11_cut (pj_rn px_X11_cut (pj_as pk_X11_cut) (fun _ => none) 60) [(12, .new 107, 3)] 12 [] [] (s, l, x, y) := rfl
set_option maxRecDepth 100000 in
theorem pq_X11_cut_35  (a1 : Int32) (b1 : Int32) (s : Nat → Int32) (l : Nat → Int64) (x : Nat → Int32) (y : Nat → Int64) : pl_X11_cut_35 a1 b1 s l x y = pj_bl px_X11_cut (pj_rn px_X11_cut (pj_as pk_X11_cut) (fun _ => none) 60) [(35, .putfield 152, 3), (38, .iload_n 1, 1), (39, .ifCond .ne 7, 3)] 35 [(0, pj_O (0, 0)), (1, pj_I a1)] [pj_I b1, pj_O (1, 0)] (s, l, x, y) := rfl
set_option maxRecDepth 100000 in
theorem pq_X11_cut_m  (a1 : Int32) (s : Nat → Int32) (l : Nat → Int64) (x : Nat → Int32) (y : Nat → Int64) : pf_X11_cut a1 s l x y = pj_bl px_X11_cut (pj_rn px_X11_cut (pj_as pk_X11_cut) (pj_as [(12, pe_X11_cut_12 (pl_X11_cut_12)), (35, pe_X11_cut_35 (pl_X11_cut_35))]) 60) [(0, .iload_n 1, 1), (1, .iconst (-1), 1), (2, .if_icmp .lt 10, 3)] 0 [(0, pj_O (0, 0)), (1, pj_I a1)] [] (s, l, x, y) := rfl
theorem pu_X11_cut_12 {lf : pj_Z → mj_M} {a : Int32 × pj_Z} (f : pj_F (Int32 × pj_Z)) (hf : ∀  (s : Nat → Int32) (l : Nat → Int64) (x : Nat → Int32) (y : Nat → Int64), f  s l x y = some a → pm_Gd 4 11007 ie_X11_cut.1 pm_rI lf 12 [] [] (s, l, x, y) a) : pm_Ex 4 11007 ie_X11_cut.1 pm_rI lf a 12 (pe_X11_cut_12 f) := by
  intro lv st z hd h
  obtain ⟨e9, h⟩ := pj_pe_inv h
  rw [e9]
  exact mj_wp_sub (mj_sub_nil hd) (hf  _ _ _ _ h)
theorem pu_X11_cut_35 {lf : pj_Z → mj_M} {a : Int32 × pj_Z} (f : Int32 → Int32 → pj_F (Int32 × pj_Z)) (hf : ∀ (a1 : Int32) (b1 : Int32) (s : Nat → Int32) (l : Nat → Int64) (x : Nat → Int32) (y : Nat → Int64), f a1 b1 s l x y = some a → pm_Gd 4 11007 ie_X11_cut.1 pm_rI lf 35 [(0, .ref 0), (1, .int a1)] [.int b1, .ref 1] (s, l, x, y) a) : pm_Ex 4 11007 ie_X11_cut.1 pm_rI lf a 35 (pe_X11_cut_35 f) := by
  intro lv st z hd h
  obtain ⟨g0, h⟩ := pj_xr_inv h
  obtain ⟨a1, g1, h⟩ := pj_xi_inv h
  obtain ⟨b1, r1, e1, h⟩ := pj_pi_inv h
  obtain ⟨r0, e0, h⟩ := pj_pr_inv h
  obtain ⟨e9, h⟩ := pj_pe_inv h
  rw [e1, e0, e9]
  exact mj_wp_sub (mj_sub_cons g0 (mj_sub_cons g1 (mj_sub_nil hd))) (hf _ _ _ _ _ _ h)
set_option maxRecDepth 100000 in
theorem pz_X11_cut {lf : pj_Z → mj_M} (hT : pj_Lt pj_TC lf) : pj_Cok ic_P (mj_R ic_P 4) 11007 ie_X11_cut.1 (pm_OK lf pm_rI) lf px_X11_cut := by
  exact pm_cok (c := px_X11_cut) (pm_part hT (pj_as_all (p := fun b e => pj_TC b = some e) (List.forall_mem_cons.mpr ⟨rfl, (List.forall_mem_cons.mpr ⟨rfl, (fun _ h => by cases h)⟩)⟩))) (pm_in_ok (L := [(10, 11, 0, 2, true), (90, 11, 12, 0, false), (152, 4, 8, 0, false)]) (f := mj_pF ic_P 11007) (by decide +kernel)) (fun _ _ h => by cases h) (fun _ _ h => by cases h) (fun _ _ h => by cases h) rfl rfl ⟨by decide, rfl⟩ pm_mI (pj_as_all (p := pm_Cl 4 11007 ie_X11_cut.1 lf (pm_OK lf pm_rI)) (List.forall_mem_cons.mpr ⟨fun _ _ lv st z K a hK h => pc_X11_goOff hT (by decide) (ix := 155) rfl rfl hK h, (fun _ h => by cases h)⟩)) (fun _ h => by cases h)
set_option maxRecDepth 100000 in
theorem pb_X11_cut : pm_bks ie_X11_cut.1.2.2.2.2 pk_X11_cut = true := by decide +kernel
set_option maxRecDepth 100000 in
theorem pg_X11_cut_12 {lf : pj_Z → mj_M} (hT : pj_Lt pj_TC lf) : ∀  (s : Nat → Int32) (l : Nat → Int64) (x : Nat → Int32) (y : Nat → Int64) (a : Int32 × pj_Z), pl_X11_cut_12 s l x y = some a → pm_Gd 4 11007 ie_X11_cut.1 pm_rI lf 12 [] [] (s, l, x, y) a := by
  intro  s l x y a h
  exact pm_run ((pq_X11_cut_12   s l x y).symm.trans h) (pz_X11_cut hT) (pm_bks_ok pb_X11_cut) (pm_bks_ok pb_X11_cut _ _ rfl) (pm_ndb_ok rfl) (fun _ _ h => by cases h)
set_option maxRecDepth 100000 in
theorem pg_X11_cut_35 {lf : pj_Z → mj_M} (hT : pj_Lt pj_TC lf) : ∀ (a1 : Int32) (b1 : Int32) (s : Nat → Int32) (l : Nat → Int64) (x : Nat → Int32) (y : Nat → Int64) (a : Int32 × pj_Z), pl_X11_cut_35 a1 b1 s l x y = some a → pm_Gd 4 11007 ie_X11_cut.1 pm_rI lf 35 [(0, .ref 0), (1, .int a1)] [.int b1, .ref 1] (s, l, x, y) a := by
  intro a1 b1 s l x y a h
  exact pm_run ((pq_X11_cut_35  a1 b1 s l x y).symm.trans h) (pz_X11_cut hT) (pm_bks_ok pb_X11_cut) (pm_bks_ok pb_X11_cut _ _ rfl) (pm_ndb_ok rfl) (fun _ _ h => by cases h)
set_option maxRecDepth 100000 in
theorem pm_X11_cut {lf : pj_Z → mj_M} (hT : pj_Lt pj_TC lf) (a1 : Int32) (s : Nat → Int32) (l : Nat → Int64) (x : Nat → Int32) (y : Nat → Int64) (a : Int32 × pj_Z) (h : pf_X11_cut a1 s l x y = some a) : mj_R ic_P 5 11007 [.ref 0, .int a1] (lf (s, l, x, y)) (pm_rI a.1) (lf a.2) := by
  refine pm_main (Y := ie_X11_cut.1) rfl (Nat.le_of_ble_eq_true rfl) ?_
  exact pm_run ((pq_X11_cut_m a1 s l x y).symm.trans h) (pz_X11_cut hT) (pm_bks_ok pb_X11_cut) (pm_bks_ok pb_X11_cut _ _ rfl) (pm_ndb_ok rfl) (pj_as_all (p := pm_Ex 4 11007 ie_X11_cut.1 pm_rI lf a) (List.forall_mem_cons.mpr ⟨pu_X11_cut_12 _ (fun  s l x y h => pg_X11_cut_12 hT  s l x y _ h), (List.forall_mem_cons.mpr ⟨pu_X11_cut_35 _ (fun c0 c1 s l x y h => pg_X11_cut_35 hT c0 c1 s l x y _ h), (fun _ h => by cases h)⟩)⟩))
abbrev ph_X11_cut {A : Type} : List pj_V → pj_Z → (List pj_V → pj_Z → Option A) → Option A := fun st z K => pj_pi st fun a1 st => pj_pr st 0 0 fun st => pj_ps st (pj_b (pf_X11_cut a1 z.1 z.2.1 z.2.2.1 z.2.2.2) fun r s l x y => K (pj_I r :: st) (s, l, x, y))
set_option maxRecDepth 100000 in
theorem pc_X11_cut {A : Type} {OK : A → Option Value → mj_M → Prop} {d j pc ix : Nat} {Y : mj_Y} {lf : pj_Z → mj_M} (hT : pj_Lt pj_TC lf) (hd : 5 ≤ d) (hl : mj_lk Y.2.2.2.2 pc = some (.invokevirtual ix, 3)) (hg : mj_pG ic_P j ix = some (11007, 1, some 11)) {lv : List (Nat × Value)} {st : List pj_V} {z : pj_Z} {K : List pj_V → pj_Z → Option A} {a : A} (hK : ∀ st z, K st z = some a → pj_Gd ic_P (mj_R ic_P d) j Y OK lf (pc + 3) lv (pj_es st) z a) (h : ph_X11_cut st z K = some a) : pj_Gd ic_P (mj_R ic_P d) j Y OK lf pc lv (pj_es st) z a := by
  obtain ⟨a1, r1, e1, h⟩ := pj_pi_inv h
  obtain ⟨r0, e0, h⟩ := pj_pr_inv h
  obtain ⟨hs, h⟩ := pj_ps_inv h
  obtain ⟨q, hq, h⟩ := pj_b_inv h
  exact pm_cv (o := 0) hl hg [.int a1] rfl (by rw [e1, e0]; rfl) hs (by decide) ((hT.2 0 _ rfl).1.2 z 0 (by decide)) (pm_rI q.1) hd (pm_X11_cut hT a1 z.1 z.2.1 z.2.2.1 z.2.2.2 q hq) rfl (hK _ _ h)
abbrev pe_X11_set_9 (f : pj_F (Int32 × pj_Z)) : pj_K (Int32 × pj_Z) := fun lv st z => pj_pe st (f  z.1 z.2.1 z.2.2.1 z.2.2.2)
abbrev pe_X11_set_40 (f : Int32 → Int32 → Int32 → pj_F (Int32 × pj_Z)) : pj_K (Int32 × pj_Z) := fun lv st z => pj_xr lv 0 0 0 <| pj_xi lv 1 fun a1 => pj_xi lv 2 fun a2 => pj_pi st fun b0 st => pj_pe st (f a1 a2 b0 z.1 z.2.1 z.2.2.1 z.2.2.2)
abbrev pe_X11_set_64 (f : Int32 → Int32 → pj_F (Int32 × pj_Z)) : pj_K (Int32 × pj_Z) := fun lv st z => pj_xi lv 2 fun a2 => pj_xi lv 3 fun a3 => pj_pe st (f a2 a3 z.1 z.2.1 z.2.2.1 z.2.2.2)
abbrev px_X11_set : pj_C (Int32 × pj_Z) := ((pj_as [(0, 11, 17, 1, 0, true, 0, [(2, 1), (2, 20), (2, 58), (2, 68), (2, 82), (2, 83), (2, 85), (2, 96), (2, 102), (2, 106), (2, 122), (0, 93), (0, 94), (0, 95), (1, 1), (1, 2), (0, 96)]), (122, 5, 13, 1, 0, true, 0, [(0, 45), (0, 46), (0, 47), (0, 48), (0, 49), (0, 50), (0, 51), (0, 52), (0, 53), (0, 54), (0, 55), (2, 123), (0, 56)])]), (pj_as [(82, 11, 10, 2, true), (163, 5, 3, 3, false), (167, 5, 4, 3, false)]), (fun _ => none), (fun _ => none), (fun _ => none), ic_X, 4, 2, pj_mI, (fun _ => none), fun _ => false)
abbrev pk_X11_set : List (Nat × List (Nat × Instr × Nat)) := [(0, [(0, .iload_n 1, 1), (1, .ifCond .lt 8, 3)]), (4, [(4, .iload_n 1, 1), (5, .iconst 1, 1), (6, .if_icmp .le 13, 3)]), (9, [(9, .new 158, 3)]), (19, [(19, .iload_n 1, 1), (20, .ifCond .ne 13, 3)]), (23, [(23, .aload_n 0, 1), (24, .getfield 82, 3), (27, .getfield 163, 3), (30, .goto 10, 3)]), (33, [(33, .aload_n 0, 1), (34, .getfield 82, 3), (37, .getfield 167, 3)]), (40, [(40, .istore_n 3, 1), (41, .iload_n 1, 1), (42, .ifCond .ne 14, 3)]), (45, [(45, .aload_n 0, 1), (46, .getfield 82, 3), (49, .iload_n 2, 1), (50, .putfield 163, 3), (53, .goto 11, 3)]), (56, [(56, .aload_n 0, 1), (57, .getfield 82, 3), (60, .iload_n 2, 1), (61, .putfield 167, 3)]), (64, [(64, .iload_n 3, 1), (65, .iload_n 2, 1), (66, .if_icmp .eq 7, 3)]), (69, [(69, .iconst 1, 1), (70, .goto 4, 3)]), (73, [(73, .iconst 0, 1)]), (74, [(74, .ireturn, 1)])]
set_option maxRecDepth 100000 in
theorem pq_X11_set_9   (s : Nat → Int32) (l : Nat → Int64) (x : Nat → Int32) (y : Nat → Int64) : pl_X11_set_9 s l x y = pj_bl px_X11_set (pj_rn px_X11_set (pj_as pk_X11_set) (fun _ => none) 60) [(9, .new 158, 3)] 9 [] [] (s, l, x, y) := rfl
set_option maxRecDepth 100000 in
theorem pq_X11_set_64  (a2 : Int32) (a3 : Int32) (s : Nat → Int32) (l : Nat → Int64) (x : Nat → Int32) (y : Nat → Int64) : pl_X11_set_64 a2 a3 s l x y = pj_bl px_X11_set (pj_rn px_X11_set (pj_as pk_X11_set) (fun _ => none) 60) [(64, .iload_n 3, 1), (65, .iload_n 2, 1), (66, .if_icmp .eq 7, 3)] 64 [(2, pj_I a2), (3, pj_I a3)] [] (s, l, x, y) := rfl
set_option maxRecDepth 100000 in
theorem pq_X11_set_40  (a1 : Int32) (a2 : Int32) (b0 : Int32) (s : Nat → Int32) (l : Nat → Int64) (x : Nat → Int32) (y : Nat → Int64) : pl_X11_set_40 a1 a2 b0 s l x y = pj_bl px_X11_set (pj_rn px_X11_set (pj_as pk_X11_set) (pj_as [(64, pe_X11_set_64 (pl_X11_set_64))]) 60) [(40, .istore_n 3, 1), (41, .iload_n 1, 1), (42, .ifCond .ne 14, 3)] 40 [(0, pj_O (0, 0)), (1, pj_I a1), (2, pj_I a2)] [pj_I b0] (s, l, x, y) := rfl
set_option maxRecDepth 100000 in
theorem pq_X11_set_m  (a1 : Int32) (a2 : Int32) (s : Nat → Int32) (l : Nat → Int64) (x : Nat → Int32) (y : Nat → Int64) : pf_X11_set a1 a2 s l x y = pj_bl px_X11_set (pj_rn px_X11_set (pj_as pk_X11_set) (pj_as [(9, pe_X11_set_9 (pl_X11_set_9)), (40, pe_X11_set_40 (pl_X11_set_40))]) 60) [(0, .iload_n 1, 1), (1, .ifCond .lt 8, 3)] 0 [(0, pj_O (0, 0)), (1, pj_I a1), (2, pj_I a2)] [] (s, l, x, y) := rfl
theorem pu_X11_set_9 {lf : pj_Z → mj_M} {a : Int32 × pj_Z} (f : pj_F (Int32 × pj_Z)) (hf : ∀  (s : Nat → Int32) (l : Nat → Int64) (x : Nat → Int32) (y : Nat → Int64), f  s l x y = some a → pm_Gd 0 11008 ie_X11_set.1 pm_rI lf 9 [] [] (s, l, x, y) a) : pm_Ex 0 11008 ie_X11_set.1 pm_rI lf a 9 (pe_X11_set_9 f) := by
  intro lv st z hd h
  obtain ⟨e9, h⟩ := pj_pe_inv h
  rw [e9]
  exact mj_wp_sub (mj_sub_nil hd) (hf  _ _ _ _ h)
theorem pu_X11_set_40 {lf : pj_Z → mj_M} {a : Int32 × pj_Z} (f : Int32 → Int32 → Int32 → pj_F (Int32 × pj_Z)) (hf : ∀ (a1 : Int32) (a2 : Int32) (b0 : Int32) (s : Nat → Int32) (l : Nat → Int64) (x : Nat → Int32) (y : Nat → Int64), f a1 a2 b0 s l x y = some a → pm_Gd 0 11008 ie_X11_set.1 pm_rI lf 40 [(0, .ref 0), (1, .int a1), (2, .int a2)] [.int b0] (s, l, x, y) a) : pm_Ex 0 11008 ie_X11_set.1 pm_rI lf a 40 (pe_X11_set_40 f) := by
  intro lv st z hd h
  obtain ⟨g0, h⟩ := pj_xr_inv h
  obtain ⟨a1, g1, h⟩ := pj_xi_inv h
  obtain ⟨a2, g2, h⟩ := pj_xi_inv h
  obtain ⟨b0, r0, e0, h⟩ := pj_pi_inv h
  obtain ⟨e9, h⟩ := pj_pe_inv h
  rw [e0, e9]
  exact mj_wp_sub (mj_sub_cons g0 (mj_sub_cons g1 (mj_sub_cons g2 (mj_sub_nil hd)))) (hf _ _ _ _ _ _ _ h)
theorem pu_X11_set_64 {lf : pj_Z → mj_M} {a : Int32 × pj_Z} (f : Int32 → Int32 → pj_F (Int32 × pj_Z)) (hf : ∀ (a2 : Int32) (a3 : Int32) (s : Nat → Int32) (l : Nat → Int64) (x : Nat → Int32) (y : Nat → Int64), f a2 a3 s l x y = some a → pm_Gd 0 11008 ie_X11_set.1 pm_rI lf 64 [(2, .int a2), (3, .int a3)] [] (s, l, x, y) a) : pm_Ex 0 11008 ie_X11_set.1 pm_rI lf a 64 (pe_X11_set_64 f) := by
  intro lv st z hd h
  obtain ⟨a2, g2, h⟩ := pj_xi_inv h
  obtain ⟨a3, g3, h⟩ := pj_xi_inv h
  obtain ⟨e9, h⟩ := pj_pe_inv h
  rw [e9]
  exact mj_wp_sub (mj_sub_cons g2 (mj_sub_cons g3 (mj_sub_nil hd))) (hf _ _ _ _ _ _ h)
set_option maxRecDepth 100000 in
theorem pz_X11_set {lf : pj_Z → mj_M} (hT : pj_Lt pj_TC lf) : pj_Cok ic_P (mj_R ic_P 0) 11008 ie_X11_set.1 (pm_OK lf pm_rI) lf px_X11_set := by
  exact pm_cok (c := px_X11_set) (pm_part hT (pj_as_all (p := fun b e => pj_TC b = some e) (List.forall_mem_cons.mpr ⟨rfl, (List.forall_mem_cons.mpr ⟨rfl, (fun _ h => by cases h)⟩)⟩))) (pm_in_ok (L := [(82, 11, 10, 2, true), (163, 5, 3, 3, false), (167, 5, 4, 3, false)]) (f := mj_pF ic_P 11008) (by decide +kernel)) (fun _ _ h => by cases h) (fun _ _ h => by cases h) (fun _ _ h => by cases h) rfl rfl ⟨by decide, rfl⟩ pm_mI (fun _ _ h => by cases h) (fun _ h => by cases h)
set_option maxRecDepth 100000 in
theorem pb_X11_set : pm_bks ie_X11_set.1.2.2.2.2 pk_X11_set = true := by decide +kernel
set_option maxRecDepth 100000 in
theorem pg_X11_set_9 {lf : pj_Z → mj_M} (hT : pj_Lt pj_TC lf) : ∀  (s : Nat → Int32) (l : Nat → Int64) (x : Nat → Int32) (y : Nat → Int64) (a : Int32 × pj_Z), pl_X11_set_9 s l x y = some a → pm_Gd 0 11008 ie_X11_set.1 pm_rI lf 9 [] [] (s, l, x, y) a := by
  intro  s l x y a h
  exact pm_run ((pq_X11_set_9   s l x y).symm.trans h) (pz_X11_set hT) (pm_bks_ok pb_X11_set) (pm_bks_ok pb_X11_set _ _ rfl) (pm_ndb_ok rfl) (fun _ _ h => by cases h)
set_option maxRecDepth 100000 in
theorem pg_X11_set_64 {lf : pj_Z → mj_M} (hT : pj_Lt pj_TC lf) : ∀ (a2 : Int32) (a3 : Int32) (s : Nat → Int32) (l : Nat → Int64) (x : Nat → Int32) (y : Nat → Int64) (a : Int32 × pj_Z), pl_X11_set_64 a2 a3 s l x y = some a → pm_Gd 0 11008 ie_X11_set.1 pm_rI lf 64 [(2, .int a2), (3, .int a3)] [] (s, l, x, y) a := by
  intro a2 a3 s l x y a h
  exact pm_run ((pq_X11_set_64  a2 a3 s l x y).symm.trans h) (pz_X11_set hT) (pm_bks_ok pb_X11_set) (pm_bks_ok pb_X11_set _ _ rfl) (pm_ndb_ok rfl) (fun _ _ h => by cases h)
set_option maxRecDepth 100000 in
theorem pg_X11_set_40 {lf : pj_Z → mj_M} (hT : pj_Lt pj_TC lf) : ∀ (a1 : Int32) (a2 : Int32) (b0 : Int32) (s : Nat → Int32) (l : Nat → Int64) (x : Nat → Int32) (y : Nat → Int64) (a : Int32 × pj_Z), pl_X11_set_40 a1 a2 b0 s l x y = some a → pm_Gd 0 11008 ie_X11_set.1 pm_rI lf 40 [(0, .ref 0), (1, .int a1), (2, .int a2)] [.int b0] (s, l, x, y) a := by
  intro a1 a2 b0 s l x y a h
  exact pm_run ((pq_X11_set_40  a1 a2 b0 s l x y).symm.trans h) (pz_X11_set hT) (pm_bks_ok pb_X11_set) (pm_bks_ok pb_X11_set _ _ rfl) (pm_ndb_ok rfl) (pj_as_all (p := pm_Ex 0 11008 ie_X11_set.1 pm_rI lf a) (List.forall_mem_cons.mpr ⟨pu_X11_set_64 _ (fun c0 c1 s l x y h => pg_X11_set_64 hT c0 c1 s l x y _ h), (fun _ h => by cases h)⟩))
set_option maxRecDepth 100000 in
theorem pm_X11_set {lf : pj_Z → mj_M} (hT : pj_Lt pj_TC lf) (a1 : Int32) (a2 : Int32) (s : Nat → Int32) (l : Nat → Int64) (x : Nat → Int32) (y : Nat → Int64) (a : Int32 × pj_Z) (h : pf_X11_set a1 a2 s l x y = some a) : mj_R ic_P 1 11008 [.ref 0, .int a1, .int a2] (lf (s, l, x, y)) (pm_rI a.1) (lf a.2) := by
  refine pm_main (Y := ie_X11_set.1) rfl (Nat.le_of_ble_eq_true rfl) ?_
  exact pm_run ((pq_X11_set_m a1 a2 s l x y).symm.trans h) (pz_X11_set hT) (pm_bks_ok pb_X11_set) (pm_bks_ok pb_X11_set _ _ rfl) (pm_ndb_ok rfl) (pj_as_all (p := pm_Ex 0 11008 ie_X11_set.1 pm_rI lf a) (List.forall_mem_cons.mpr ⟨pu_X11_set_9 _ (fun  s l x y h => pg_X11_set_9 hT  s l x y _ h), (List.forall_mem_cons.mpr ⟨pu_X11_set_40 _ (fun c0 c1 c2 s l x y h => pg_X11_set_40 hT c0 c1 c2 s l x y _ h), (fun _ h => by cases h)⟩)⟩))
abbrev ph_X11_set {A : Type} : List pj_V → pj_Z → (List pj_V → pj_Z → Option A) → Option A := fun st z K => pj_pi st fun a2 st => pj_pi st fun a1 st => pj_pr st 0 0 fun st => pj_ps st (pj_b (pf_X11_set a1 a2 z.1 z.2.1 z.2.2.1 z.2.2.2) fun r s l x y => K (pj_I r :: st) (s, l, x, y))
set_option maxRecDepth 100000 in
theorem pc_X11_set {A : Type} {OK : A → Option Value → mj_M → Prop} {d j pc ix : Nat} {Y : mj_Y} {lf : pj_Z → mj_M} (hT : pj_Lt pj_TC lf) (hd : 1 ≤ d) (hl : mj_lk Y.2.2.2.2 pc = some (.invokevirtual ix, 3)) (hg : mj_pG ic_P j ix = some (11008, 2, some 11)) {lv : List (Nat × Value)} {st : List pj_V} {z : pj_Z} {K : List pj_V → pj_Z → Option A} {a : A} (hK : ∀ st z, K st z = some a → pj_Gd ic_P (mj_R ic_P d) j Y OK lf (pc + 3) lv (pj_es st) z a) (h : ph_X11_set st z K = some a) : pj_Gd ic_P (mj_R ic_P d) j Y OK lf pc lv (pj_es st) z a := by
  obtain ⟨a2, r2, e2, h⟩ := pj_pi_inv h
  obtain ⟨a1, r1, e1, h⟩ := pj_pi_inv h
  obtain ⟨r0, e0, h⟩ := pj_pr_inv h
  obtain ⟨hs, h⟩ := pj_ps_inv h
  obtain ⟨q, hq, h⟩ := pj_b_inv h
  exact pm_cv (o := 0) hl hg [.int a1, .int a2] rfl (by rw [e2, e1, e0]; rfl) hs (by decide) ((hT.2 0 _ rfl).1.2 z 0 (by decide)) (pm_rI q.1) hd (pm_X11_set hT a1 a2 z.1 z.2.1 z.2.2.1 z.2.2.2 q hq) rfl (hK _ _ h)
abbrev pe_X11_load_11 (f : pj_F (Int32 × pj_Z)) : pj_K (Int32 × pj_Z) := fun lv st z => pj_pe st (f  z.1 z.2.1 z.2.2.1 z.2.2.2)
abbrev px_X11_load : pj_C (Int32 × pj_Z) := ((pj_as [(0, 11, 17, 1, 0, true, 0, [(2, 1), (2, 20), (2, 58), (2, 68), (2, 82), (2, 83), (2, 85), (2, 96), (2, 102), (2, 106), (2, 122), (0, 93), (0, 94), (0, 95), (1, 1), (1, 2), (0, 96)]), (122, 5, 13, 1, 0, true, 0, [(0, 45), (0, 46), (0, 47), (0, 48), (0, 49), (0, 50), (0, 51), (0, 52), (0, 53), (0, 54), (0, 55), (2, 123), (0, 56)])]), (pj_as [(82, 11, 10, 2, true), (172, 5, 2, 0, false)]), (fun _ => none), (fun _ => none), (fun _ => none), ic_X, 3, 1, pj_mI, (fun _ => none), fun _ => false)
abbrev pk_X11_load : List (Nat × List (Nat × Instr × Nat)) := [(0, [(0, .iload_n 1, 1), (1, .ifCond .lt 10, 3)]), (4, [(4, .iload_n 1, 1), (5, .sipush 400, 3), (8, .if_icmp .le 13, 3)]), (11, [(11, .new 107, 3)]), (21, [(21, .aload_n 0, 1), (22, .getfield 82, 3), (25, .getfield 172, 3), (28, .istore_n 2, 1), (29, .aload_n 0, 1), (30, .getfield 82, 3), (33, .iload_n 1, 1), (34, .putfield 172, 3), (37, .iload_n 2, 1), (38, .ireturn, 1)])]
set_option maxRecDepth 100000 in
theorem pq_X11_load_11   (s : Nat → Int32) (l : Nat → Int64) (x : Nat → Int32) (y : Nat → Int64) : pl_X11_load_11 s l x y = pj_bl px_X11_load (pj_rn px_X11_load (pj_as pk_X11_load) (fun _ => none) 60) [(11, .new 107, 3)] 11 [] [] (s, l, x, y) := rfl
set_option maxRecDepth 100000 in
theorem pq_X11_load_m  (a1 : Int32) (s : Nat → Int32) (l : Nat → Int64) (x : Nat → Int32) (y : Nat → Int64) : pf_X11_load a1 s l x y = pj_bl px_X11_load (pj_rn px_X11_load (pj_as pk_X11_load) (pj_as [(11, pe_X11_load_11 (pl_X11_load_11))]) 60) [(0, .iload_n 1, 1), (1, .ifCond .lt 10, 3)] 0 [(0, pj_O (0, 0)), (1, pj_I a1)] [] (s, l, x, y) := rfl
theorem pu_X11_load_11 {lf : pj_Z → mj_M} {a : Int32 × pj_Z} (f : pj_F (Int32 × pj_Z)) (hf : ∀  (s : Nat → Int32) (l : Nat → Int64) (x : Nat → Int32) (y : Nat → Int64), f  s l x y = some a → pm_Gd 0 11009 ie_X11_load.1 pm_rI lf 11 [] [] (s, l, x, y) a) : pm_Ex 0 11009 ie_X11_load.1 pm_rI lf a 11 (pe_X11_load_11 f) := by
  intro lv st z hd h
  obtain ⟨e9, h⟩ := pj_pe_inv h
  rw [e9]
  exact mj_wp_sub (mj_sub_nil hd) (hf  _ _ _ _ h)
set_option maxRecDepth 100000 in
theorem pz_X11_load {lf : pj_Z → mj_M} (hT : pj_Lt pj_TC lf) : pj_Cok ic_P (mj_R ic_P 0) 11009 ie_X11_load.1 (pm_OK lf pm_rI) lf px_X11_load := by
  exact pm_cok (c := px_X11_load) (pm_part hT (pj_as_all (p := fun b e => pj_TC b = some e) (List.forall_mem_cons.mpr ⟨rfl, (List.forall_mem_cons.mpr ⟨rfl, (fun _ h => by cases h)⟩)⟩))) (pm_in_ok (L := [(82, 11, 10, 2, true), (172, 5, 2, 0, false)]) (f := mj_pF ic_P 11009) (by decide +kernel)) (fun _ _ h => by cases h) (fun _ _ h => by cases h) (fun _ _ h => by cases h) rfl rfl ⟨by decide, rfl⟩ pm_mI (fun _ _ h => by cases h) (fun _ h => by cases h)
set_option maxRecDepth 100000 in
theorem pb_X11_load : pm_bks ie_X11_load.1.2.2.2.2 pk_X11_load = true := by decide +kernel
set_option maxRecDepth 100000 in
theorem pg_X11_load_11 {lf : pj_Z → mj_M} (hT : pj_Lt pj_TC lf) : ∀  (s : Nat → Int32) (l : Nat → Int64) (x : Nat → Int32) (y : Nat → Int64) (a : Int32 × pj_Z), pl_X11_load_11 s l x y = some a → pm_Gd 0 11009 ie_X11_load.1 pm_rI lf 11 [] [] (s, l, x, y) a := by
  intro  s l x y a h
  exact pm_run ((pq_X11_load_11   s l x y).symm.trans h) (pz_X11_load hT) (pm_bks_ok pb_X11_load) (pm_bks_ok pb_X11_load _ _ rfl) (pm_ndb_ok rfl) (fun _ _ h => by cases h)
set_option maxRecDepth 100000 in
theorem pm_X11_load {lf : pj_Z → mj_M} (hT : pj_Lt pj_TC lf) (a1 : Int32) (s : Nat → Int32) (l : Nat → Int64) (x : Nat → Int32) (y : Nat → Int64) (a : Int32 × pj_Z) (h : pf_X11_load a1 s l x y = some a) : mj_R ic_P 1 11009 [.ref 0, .int a1] (lf (s, l, x, y)) (pm_rI a.1) (lf a.2) := by
  refine pm_main (Y := ie_X11_load.1) rfl (Nat.le_of_ble_eq_true rfl) ?_
  exact pm_run ((pq_X11_load_m a1 s l x y).symm.trans h) (pz_X11_load hT) (pm_bks_ok pb_X11_load) (pm_bks_ok pb_X11_load _ _ rfl) (pm_ndb_ok rfl) (pj_as_all (p := pm_Ex 0 11009 ie_X11_load.1 pm_rI lf a) (List.forall_mem_cons.mpr ⟨pu_X11_load_11 _ (fun  s l x y h => pg_X11_load_11 hT  s l x y _ h), (fun _ h => by cases h)⟩))
abbrev ph_X11_load {A : Type} : List pj_V → pj_Z → (List pj_V → pj_Z → Option A) → Option A := fun st z K => pj_pi st fun a1 st => pj_pr st 0 0 fun st => pj_ps st (pj_b (pf_X11_load a1 z.1 z.2.1 z.2.2.1 z.2.2.2) fun r s l x y => K (pj_I r :: st) (s, l, x, y))
set_option maxRecDepth 100000 in
theorem pc_X11_load {A : Type} {OK : A → Option Value → mj_M → Prop} {d j pc ix : Nat} {Y : mj_Y} {lf : pj_Z → mj_M} (hT : pj_Lt pj_TC lf) (hd : 1 ≤ d) (hl : mj_lk Y.2.2.2.2 pc = some (.invokevirtual ix, 3)) (hg : mj_pG ic_P j ix = some (11009, 1, some 11)) {lv : List (Nat × Value)} {st : List pj_V} {z : pj_Z} {K : List pj_V → pj_Z → Option A} {a : A} (hK : ∀ st z, K st z = some a → pj_Gd ic_P (mj_R ic_P d) j Y OK lf (pc + 3) lv (pj_es st) z a) (h : ph_X11_load st z K = some a) : pj_Gd ic_P (mj_R ic_P d) j Y OK lf pc lv (pj_es st) z a := by
  obtain ⟨a1, r1, e1, h⟩ := pj_pi_inv h
  obtain ⟨r0, e0, h⟩ := pj_pr_inv h
  obtain ⟨hs, h⟩ := pj_ps_inv h
  obtain ⟨q, hq, h⟩ := pj_b_inv h
  exact pm_cv (o := 0) hl hg [.int a1] rfl (by rw [e1, e0]; rfl) hs (by decide) ((hT.2 0 _ rfl).1.2 z 0 (by decide)) (pm_rI q.1) hd (pm_X11_load hT a1 z.1 z.2.1 z.2.2.1 z.2.2.2 q hq) rfl (hK _ _ h)
abbrev px_X11_isRaw : pj_C (Int32 × pj_Z) := ((fun _ => none), (fun _ => none), (fun _ => none), (fun _ => none), (fun _ => none), ic_X, 1, 2, pj_mI, (fun _ => none), fun _ => false)
abbrev pk_X11_isRaw : List (Nat × List (Nat × Instr × Nat)) := [(0, [(0, .iload_n 0, 1), (1, .ifCond .lt 14, 3)]), (4, [(4, .iload_n 0, 1), (5, .sipush 1023, 3), (8, .if_icmp .gt 7, 3)]), (11, [(11, .iconst 1, 1), (12, .goto 4, 3)]), (15, [(15, .iconst 0, 1)]), (16, [(16, .ireturn, 1)])]
set_option maxRecDepth 100000 in
theorem pq_X11_isRaw_m  (a0 : Int32) (s : Nat → Int32) (l : Nat → Int64) (x : Nat → Int32) (y : Nat → Int64) : pf_X11_isRaw a0 s l x y = pj_bl px_X11_isRaw (pj_rn px_X11_isRaw (pj_as pk_X11_isRaw) (fun _ => none) 60) [(0, .iload_n 0, 1), (1, .ifCond .lt 14, 3)] 0 [(0, pj_I a0)] [] (s, l, x, y) := rfl
set_option maxRecDepth 100000 in
theorem pz_X11_isRaw {lf : pj_Z → mj_M} (hT : pj_Lt pj_TC lf) : pj_Cok ic_P (mj_R ic_P 0) 11049 ie_X11_isRaw.1 (pm_OK lf pm_rI) lf px_X11_isRaw := by
  exact pm_cok (c := px_X11_isRaw) (pm_none hT) (fun _ _ h => by cases h) (fun _ _ h => by cases h) (fun _ _ h => by cases h) (fun _ _ h => by cases h) rfl rfl ⟨by decide, rfl⟩ pm_mI (fun _ _ h => by cases h) (fun _ h => by cases h)
set_option maxRecDepth 100000 in
theorem pb_X11_isRaw : pm_bks ie_X11_isRaw.1.2.2.2.2 pk_X11_isRaw = true := by decide +kernel
set_option maxRecDepth 100000 in
theorem pm_X11_isRaw {lf : pj_Z → mj_M} (hT : pj_Lt pj_TC lf) (a0 : Int32) (s : Nat → Int32) (l : Nat → Int64) (x : Nat → Int32) (y : Nat → Int64) (a : Int32 × pj_Z) (h : pf_X11_isRaw a0 s l x y = some a) : mj_R ic_P 1 11049 [.int a0] (lf (s, l, x, y)) (pm_rI a.1) (lf a.2) := by
  refine pm_main (Y := ie_X11_isRaw.1) rfl (Nat.le_of_ble_eq_true rfl) ?_
  exact pm_run ((pq_X11_isRaw_m a0 s l x y).symm.trans h) (pz_X11_isRaw hT) (pm_bks_ok pb_X11_isRaw) (pm_bks_ok pb_X11_isRaw _ _ rfl) (pm_ndb_ok rfl) (fun _ _ h => by cases h)
abbrev ph_X11_isRaw {A : Type} : List pj_V → pj_Z → (List pj_V → pj_Z → Option A) → Option A := fun st z K => pj_pi st fun a0 st => pj_ps st (pj_b (pf_X11_isRaw a0 z.1 z.2.1 z.2.2.1 z.2.2.2) fun r s l x y => K (pj_I r :: st) (s, l, x, y))
set_option maxRecDepth 100000 in
theorem pc_X11_isRaw {A : Type} {OK : A → Option Value → mj_M → Prop} {d j pc ix : Nat} {Y : mj_Y} {lf : pj_Z → mj_M} (hT : pj_Lt pj_TC lf) (hd : 1 ≤ d) (hl : mj_lk Y.2.2.2.2 pc = some (.invokestatic ix, 3)) (hg : mj_pG ic_P j ix = some (11049, 1, none)) {lv : List (Nat × Value)} {st : List pj_V} {z : pj_Z} {K : List pj_V → pj_Z → Option A} {a : A} (hK : ∀ st z, K st z = some a → pj_Gd ic_P (mj_R ic_P d) j Y OK lf (pc + 3) lv (pj_es st) z a) (h : ph_X11_isRaw st z K = some a) : pj_Gd ic_P (mj_R ic_P d) j Y OK lf pc lv (pj_es st) z a := by
  obtain ⟨a0, r0, e0, h⟩ := pj_pi_inv h
  obtain ⟨hs, h⟩ := pj_ps_inv h
  obtain ⟨q, hq, h⟩ := pj_b_inv h
  exact pm_cs hl hg [.int a0] rfl (by rw [e0]; rfl) hs (pm_rI q.1) hd (pm_X11_isRaw hT a0 z.1 z.2.1 z.2.2.1 z.2.2.2 q hq) rfl (hK _ _ h)
abbrev pe_X11_pin_10 (f : pj_F (Int32 × pj_Z)) : pj_K (Int32 × pj_Z) := fun lv st z => pj_pe st (f  z.1 z.2.1 z.2.2.1 z.2.2.2)
abbrev px_X11_pin : pj_C (Int32 × pj_Z) := ((pj_as [(0, 11, 17, 1, 0, true, 0, [(2, 1), (2, 20), (2, 58), (2, 68), (2, 82), (2, 83), (2, 85), (2, 96), (2, 102), (2, 106), (2, 122), (0, 93), (0, 94), (0, 95), (1, 1), (1, 2), (0, 96)]), (20, 7, 11, 1, 0, true, 0, [(2, 21), (2, 35), (2, 49), (2, 50), (2, 51), (2, 52), (2, 53), (2, 54), (2, 55), (2, 56), (2, 57)]), (50, 100, 10, 1, 0, true, 29000, [])]), (pj_as [(19, 11, 1, 2, true), (183, 7, 3, 2, true)]), (fun _ => none), (fun _ => none), (fun _ => none), ic_X, 4, 1, pj_mI, (pj_as [(21, ph_X11_isRaw)]), fun _ => false)
abbrev pk_X11_pin : List (Nat × List (Nat × Instr × Nat)) := [(0, [(0, .iload_n 1, 1), (1, .ifCond .lt 9, 3)]), (4, [(4, .iload_n 1, 1), (5, .bipush 10, 2), (7, .if_icmp .lt 13, 3)]), (10, [(10, .new 158, 3)]), (20, [(20, .iload_n 2, 1), (21, .invokestatic 177, 3), (24, .ifCond .ne 13, 3)]), (27, [(27, .new 107, 3)]), (37, [(37, .aload_n 0, 1), (38, .getfield 19, 3), (41, .getfield 183, 3), (44, .iload_n 1, 1), (45, .iaload, 1), (46, .istore_n 3, 1), (47, .aload_n 0, 1), (48, .getfield 19, 3), (51, .getfield 183, 3), (54, .iload_n 1, 1), (55, .iload_n 2, 1), (56, .iastore, 1), (57, .iload_n 3, 1), (58, .ireturn, 1)])]
set_option maxRecDepth 100000 in
theorem pq_X11_pin_10   (s : Nat → Int32) (l : Nat → Int64) (x : Nat → Int32) (y : Nat → Int64) : pl_X11_pin_10 s l x y = pj_bl px_X11_pin (pj_rn px_X11_pin (pj_as pk_X11_pin) (fun _ => none) 60) [(10, .new 158, 3)] 10 [] [] (s, l, x, y) := rfl
set_option maxRecDepth 100000 in
theorem pq_X11_pin_m  (a1 : Int32) (a2 : Int32) (s : Nat → Int32) (l : Nat → Int64) (x : Nat → Int32) (y : Nat → Int64) : pf_X11_pin a1 a2 s l x y = pj_bl px_X11_pin (pj_rn px_X11_pin (pj_as pk_X11_pin) (pj_as [(10, pe_X11_pin_10 (pl_X11_pin_10))]) 60) [(0, .iload_n 1, 1), (1, .ifCond .lt 9, 3)] 0 [(0, pj_O (0, 0)), (1, pj_I a1), (2, pj_I a2)] [] (s, l, x, y) := rfl
theorem pu_X11_pin_10 {lf : pj_Z → mj_M} {a : Int32 × pj_Z} (f : pj_F (Int32 × pj_Z)) (hf : ∀  (s : Nat → Int32) (l : Nat → Int64) (x : Nat → Int32) (y : Nat → Int64), f  s l x y = some a → pm_Gd 1 11010 ie_X11_pin.1 pm_rI lf 10 [] [] (s, l, x, y) a) : pm_Ex 1 11010 ie_X11_pin.1 pm_rI lf a 10 (pe_X11_pin_10 f) := by
  intro lv st z hd h
  obtain ⟨e9, h⟩ := pj_pe_inv h
  rw [e9]
  exact mj_wp_sub (mj_sub_nil hd) (hf  _ _ _ _ h)
set_option maxRecDepth 100000 in
theorem pz_X11_pin {lf : pj_Z → mj_M} (hT : pj_Lt pj_TC lf) : pj_Cok ic_P (mj_R ic_P 1) 11010 ie_X11_pin.1 (pm_OK lf pm_rI) lf px_X11_pin := by
  exact pm_cok (c := px_X11_pin) (pm_part hT (pj_as_all (p := fun b e => pj_TC b = some e) (List.forall_mem_cons.mpr ⟨rfl, (List.forall_mem_cons.mpr ⟨rfl, (List.forall_mem_cons.mpr ⟨rfl, (fun _ h => by cases h)⟩)⟩)⟩))) (pm_in_ok (L := [(19, 11, 1, 2, true), (183, 7, 3, 2, true)]) (f := mj_pF ic_P 11010) (by decide +kernel)) (fun _ _ h => by cases h) (fun _ _ h => by cases h) (fun _ _ h => by cases h) rfl rfl ⟨by decide, rfl⟩ pm_mI (pj_as_all (p := pm_Cl 1 11010 ie_X11_pin.1 lf (pm_OK lf pm_rI)) (List.forall_mem_cons.mpr ⟨fun _ _ lv st z K a hK h => pc_X11_isRaw hT (by decide) (ix := 177) rfl rfl hK h, (fun _ h => by cases h)⟩)) (fun _ h => by cases h)
set_option maxRecDepth 100000 in
theorem pb_X11_pin : pm_bks ie_X11_pin.1.2.2.2.2 pk_X11_pin = true := by decide +kernel
set_option maxRecDepth 100000 in
theorem pg_X11_pin_10 {lf : pj_Z → mj_M} (hT : pj_Lt pj_TC lf) : ∀  (s : Nat → Int32) (l : Nat → Int64) (x : Nat → Int32) (y : Nat → Int64) (a : Int32 × pj_Z), pl_X11_pin_10 s l x y = some a → pm_Gd 1 11010 ie_X11_pin.1 pm_rI lf 10 [] [] (s, l, x, y) a := by
  intro  s l x y a h
  exact pm_run ((pq_X11_pin_10   s l x y).symm.trans h) (pz_X11_pin hT) (pm_bks_ok pb_X11_pin) (pm_bks_ok pb_X11_pin _ _ rfl) (pm_ndb_ok rfl) (fun _ _ h => by cases h)
set_option maxRecDepth 100000 in
theorem pm_X11_pin {lf : pj_Z → mj_M} (hT : pj_Lt pj_TC lf) (a1 : Int32) (a2 : Int32) (s : Nat → Int32) (l : Nat → Int64) (x : Nat → Int32) (y : Nat → Int64) (a : Int32 × pj_Z) (h : pf_X11_pin a1 a2 s l x y = some a) : mj_R ic_P 2 11010 [.ref 0, .int a1, .int a2] (lf (s, l, x, y)) (pm_rI a.1) (lf a.2) := by
  refine pm_main (Y := ie_X11_pin.1) rfl (Nat.le_of_ble_eq_true rfl) ?_
  exact pm_run ((pq_X11_pin_m a1 a2 s l x y).symm.trans h) (pz_X11_pin hT) (pm_bks_ok pb_X11_pin) (pm_bks_ok pb_X11_pin _ _ rfl) (pm_ndb_ok rfl) (pj_as_all (p := pm_Ex 1 11010 ie_X11_pin.1 pm_rI lf a) (List.forall_mem_cons.mpr ⟨pu_X11_pin_10 _ (fun  s l x y h => pg_X11_pin_10 hT  s l x y _ h), (fun _ h => by cases h)⟩))
abbrev ph_X11_pin {A : Type} : List pj_V → pj_Z → (List pj_V → pj_Z → Option A) → Option A := fun st z K => pj_pi st fun a2 st => pj_pi st fun a1 st => pj_pr st 0 0 fun st => pj_ps st (pj_b (pf_X11_pin a1 a2 z.1 z.2.1 z.2.2.1 z.2.2.2) fun r s l x y => K (pj_I r :: st) (s, l, x, y))
set_option maxRecDepth 100000 in
theorem pc_X11_pin {A : Type} {OK : A → Option Value → mj_M → Prop} {d j pc ix : Nat} {Y : mj_Y} {lf : pj_Z → mj_M} (hT : pj_Lt pj_TC lf) (hd : 2 ≤ d) (hl : mj_lk Y.2.2.2.2 pc = some (.invokevirtual ix, 3)) (hg : mj_pG ic_P j ix = some (11010, 2, some 11)) {lv : List (Nat × Value)} {st : List pj_V} {z : pj_Z} {K : List pj_V → pj_Z → Option A} {a : A} (hK : ∀ st z, K st z = some a → pj_Gd ic_P (mj_R ic_P d) j Y OK lf (pc + 3) lv (pj_es st) z a) (h : ph_X11_pin st z K = some a) : pj_Gd ic_P (mj_R ic_P d) j Y OK lf pc lv (pj_es st) z a := by
  obtain ⟨a2, r2, e2, h⟩ := pj_pi_inv h
  obtain ⟨a1, r1, e1, h⟩ := pj_pi_inv h
  obtain ⟨r0, e0, h⟩ := pj_pr_inv h
  obtain ⟨hs, h⟩ := pj_ps_inv h
  obtain ⟨q, hq, h⟩ := pj_b_inv h
  exact pm_cv (o := 0) hl hg [.int a1, .int a2] rfl (by rw [e2, e1, e0]; rfl) hs (by decide) ((hT.2 0 _ rfl).1.2 z 0 (by decide)) (pm_rI q.1) hd (pm_X11_pin hT a1 a2 z.1 z.2.1 z.2.2.1 z.2.2.2 q hq) rfl (hK _ _ h)
abbrev pe_X11_limits_10 (f : pj_F (Unit × pj_Z)) : pj_K (Unit × pj_Z) := fun lv st z => pj_pe st (f  z.1 z.2.1 z.2.2.1 z.2.2.2)
abbrev pe_X11_limits_47 (f : pj_F (Unit × pj_Z)) : pj_K (Unit × pj_Z) := fun lv st z => pj_pe st (f  z.1 z.2.1 z.2.2.1 z.2.2.2)
abbrev px_X11_limits : pj_C (Unit × pj_Z) := ((pj_as [(0, 11, 17, 1, 0, true, 0, [(2, 1), (2, 20), (2, 58), (2, 68), (2, 82), (2, 83), (2, 85), (2, 96), (2, 102), (2, 106), (2, 122), (0, 93), (0, 94), (0, 95), (1, 1), (1, 2), (0, 96)]), (20, 7, 11, 1, 0, true, 0, [(2, 21), (2, 35), (2, 49), (2, 50), (2, 51), (2, 52), (2, 53), (2, 54), (2, 55), (2, 56), (2, 57)]), (52, 100, 10, 1, 0, true, 31000, []), (53, 100, 10, 1, 0, true, 32000, []), (54, 100, 10, 1, 0, true, 33000, [])]), (pj_as [(19, 11, 1, 2, true), (90, 11, 12, 0, false), (194, 7, 5, 2, true), (197, 7, 6, 2, true), (200, 7, 7, 2, true)]), (fun _ => none), (fun _ => none), (fun _ => none), ic_X, 5, 0, pj_mU, (pj_as [(21, ph_X11_isRaw), (28, ph_X11_isRaw), (36, ph_X11_isRaw)]), fun _ => false)
abbrev pk_X11_limits : List (Nat × List (Nat × Instr × Nat)) := [(0, [(0, .iload_n 1, 1), (1, .ifCond .lt 9, 3)]), (4, [(4, .iload_n 1, 1), (5, .bipush 10, 2), (7, .if_icmp .lt 13, 3)]), (10, [(10, .new 158, 3)]), (20, [(20, .iload_n 2, 1), (21, .invokestatic 177, 3), (24, .ifCond .eq 23, 3)]), (27, [(27, .iload_n 3, 1), (28, .invokestatic 177, 3), (31, .ifCond .eq 16, 3)]), (34, [(34, .iload 4, 2), (36, .invokestatic 177, 3), (39, .ifCond .eq 8, 3)]), (42, [(42, .iload_n 2, 1), (43, .iload_n 3, 1), (44, .if_icmp .le 13, 3)]), (47, [(47, .new 107, 3)]), (57, [(57, .aload_n 0, 1), (58, .getfield 90, 3), (61, .ifCond .eq 13, 3)]), (64, [(64, .new 189, 3)]), (74, [(74, .aload_n 0, 1), (75, .getfield 19, 3), (78, .getfield 194, 3), (81, .iload_n 1, 1), (82, .iload_n 2, 1), (83, .iastore, 1), (84, .aload_n 0, 1), (85, .getfield 19, 3), (88, .getfield 197, 3), (91, .iload_n 1, 1), (92, .iload_n 3, 1), (93, .iastore, 1), (94, .aload_n 0, 1), (95, .getfield 19, 3), (98, .getfield 200, 3), (101, .iload_n 1, 1), (102, .iload 4, 2), (104, .iastore, 1), (105, .return_, 1)])]
set_option maxRecDepth 100000 in
theorem pq_X11_limits_10   (s : Nat → Int32) (l : Nat → Int64) (x : Nat → Int32) (y : Nat → Int64) : pl_X11_limits_10 s l x y = pj_bl px_X11_limits (pj_rn px_X11_limits (pj_as pk_X11_limits) (fun _ => none) 60) [(10, .new 158, 3)] 10 [] [] (s, l, x, y) := rfl
set_option maxRecDepth 100000 in
theorem pq_X11_limits_47   (s : Nat → Int32) (l : Nat → Int64) (x : Nat → Int32) (y : Nat → Int64) : pl_X11_limits_47 s l x y = pj_bl px_X11_limits (pj_rn px_X11_limits (pj_as pk_X11_limits) (fun _ => none) 60) [(47, .new 107, 3)] 47 [] [] (s, l, x, y) := rfl
set_option maxRecDepth 100000 in
theorem pq_X11_limits_m  (a1 : Int32) (a2 : Int32) (a3 : Int32) (a4 : Int32) (s : Nat → Int32) (l : Nat → Int64) (x : Nat → Int32) (y : Nat → Int64) : pf_X11_limits a1 a2 a3 a4 s l x y = pj_bl px_X11_limits (pj_rn px_X11_limits (pj_as pk_X11_limits) (pj_as [(10, pe_X11_limits_10 (pl_X11_limits_10)), (47, pe_X11_limits_47 (pl_X11_limits_47))]) 60) [(0, .iload_n 1, 1), (1, .ifCond .lt 9, 3)] 0 [(0, pj_O (0, 0)), (1, pj_I a1), (2, pj_I a2), (3, pj_I a3), (4, pj_I a4)] [] (s, l, x, y) := rfl
theorem pu_X11_limits_10 {lf : pj_Z → mj_M} {a : Unit × pj_Z} (f : pj_F (Unit × pj_Z)) (hf : ∀  (s : Nat → Int32) (l : Nat → Int64) (x : Nat → Int32) (y : Nat → Int64), f  s l x y = some a → pm_Gd 1 11011 ie_X11_limits.1 pm_rU lf 10 [] [] (s, l, x, y) a) : pm_Ex 1 11011 ie_X11_limits.1 pm_rU lf a 10 (pe_X11_limits_10 f) := by
  intro lv st z hd h
  obtain ⟨e9, h⟩ := pj_pe_inv h
  rw [e9]
  exact mj_wp_sub (mj_sub_nil hd) (hf  _ _ _ _ h)
theorem pu_X11_limits_47 {lf : pj_Z → mj_M} {a : Unit × pj_Z} (f : pj_F (Unit × pj_Z)) (hf : ∀  (s : Nat → Int32) (l : Nat → Int64) (x : Nat → Int32) (y : Nat → Int64), f  s l x y = some a → pm_Gd 1 11011 ie_X11_limits.1 pm_rU lf 47 [] [] (s, l, x, y) a) : pm_Ex 1 11011 ie_X11_limits.1 pm_rU lf a 47 (pe_X11_limits_47 f) := by
  intro lv st z hd h
  obtain ⟨e9, h⟩ := pj_pe_inv h
  rw [e9]
  exact mj_wp_sub (mj_sub_nil hd) (hf  _ _ _ _ h)
set_option maxRecDepth 100000 in
theorem pz_X11_limits {lf : pj_Z → mj_M} (hT : pj_Lt pj_TC lf) : pj_Cok ic_P (mj_R ic_P 1) 11011 ie_X11_limits.1 (pm_OK lf pm_rU) lf px_X11_limits := by
  exact pm_cok (c := px_X11_limits) (pm_part hT (pj_as_all (p := fun b e => pj_TC b = some e) (List.forall_mem_cons.mpr ⟨rfl, (List.forall_mem_cons.mpr ⟨rfl, (List.forall_mem_cons.mpr ⟨rfl, (List.forall_mem_cons.mpr ⟨rfl, (List.forall_mem_cons.mpr ⟨rfl, (fun _ h => by cases h)⟩)⟩)⟩)⟩)⟩))) (pm_in_ok (L := [(19, 11, 1, 2, true), (90, 11, 12, 0, false), (194, 7, 5, 2, true), (197, 7, 6, 2, true), (200, 7, 7, 2, true)]) (f := mj_pF ic_P 11011) (by decide +kernel)) (fun _ _ h => by cases h) (fun _ _ h => by cases h) (fun _ _ h => by cases h) rfl rfl ⟨by decide, rfl⟩ pm_mU (pj_as_all (p := pm_Cl 1 11011 ie_X11_limits.1 lf (pm_OK lf pm_rU)) (List.forall_mem_cons.mpr ⟨fun _ _ lv st z K a hK h => pc_X11_isRaw hT (by decide) (ix := 177) rfl rfl hK h, (List.forall_mem_cons.mpr ⟨fun _ _ lv st z K a hK h => pc_X11_isRaw hT (by decide) (ix := 177) rfl rfl hK h, (List.forall_mem_cons.mpr ⟨fun _ _ lv st z K a hK h => pc_X11_isRaw hT (by decide) (ix := 177) rfl rfl hK h, (fun _ h => by cases h)⟩)⟩)⟩)) (fun _ h => by cases h)
set_option maxRecDepth 100000 in
theorem pb_X11_limits : pm_bks ie_X11_limits.1.2.2.2.2 pk_X11_limits = true := by decide +kernel
set_option maxRecDepth 100000 in
theorem pg_X11_limits_10 {lf : pj_Z → mj_M} (hT : pj_Lt pj_TC lf) : ∀  (s : Nat → Int32) (l : Nat → Int64) (x : Nat → Int32) (y : Nat → Int64) (a : Unit × pj_Z), pl_X11_limits_10 s l x y = some a → pm_Gd 1 11011 ie_X11_limits.1 pm_rU lf 10 [] [] (s, l, x, y) a := by
  intro  s l x y a h
  exact pm_run ((pq_X11_limits_10   s l x y).symm.trans h) (pz_X11_limits hT) (pm_bks_ok pb_X11_limits) (pm_bks_ok pb_X11_limits _ _ rfl) (pm_ndb_ok rfl) (fun _ _ h => by cases h)
set_option maxRecDepth 100000 in
theorem pg_X11_limits_47 {lf : pj_Z → mj_M} (hT : pj_Lt pj_TC lf) : ∀  (s : Nat → Int32) (l : Nat → Int64) (x : Nat → Int32) (y : Nat → Int64) (a : Unit × pj_Z), pl_X11_limits_47 s l x y = some a → pm_Gd 1 11011 ie_X11_limits.1 pm_rU lf 47 [] [] (s, l, x, y) a := by
  intro  s l x y a h
  exact pm_run ((pq_X11_limits_47   s l x y).symm.trans h) (pz_X11_limits hT) (pm_bks_ok pb_X11_limits) (pm_bks_ok pb_X11_limits _ _ rfl) (pm_ndb_ok rfl) (fun _ _ h => by cases h)
set_option maxRecDepth 100000 in
theorem pm_X11_limits {lf : pj_Z → mj_M} (hT : pj_Lt pj_TC lf) (a1 : Int32) (a2 : Int32) (a3 : Int32) (a4 : Int32) (s : Nat → Int32) (l : Nat → Int64) (x : Nat → Int32) (y : Nat → Int64) (a : Unit × pj_Z) (h : pf_X11_limits a1 a2 a3 a4 s l x y = some a) : mj_R ic_P 2 11011 [.ref 0, .int a1, .int a2, .int a3, .int a4] (lf (s, l, x, y)) (pm_rU a.1) (lf a.2) := by
  refine pm_main (Y := ie_X11_limits.1) rfl (Nat.le_of_ble_eq_true rfl) ?_
  exact pm_run ((pq_X11_limits_m a1 a2 a3 a4 s l x y).symm.trans h) (pz_X11_limits hT) (pm_bks_ok pb_X11_limits) (pm_bks_ok pb_X11_limits _ _ rfl) (pm_ndb_ok rfl) (pj_as_all (p := pm_Ex 1 11011 ie_X11_limits.1 pm_rU lf a) (List.forall_mem_cons.mpr ⟨pu_X11_limits_10 _ (fun  s l x y h => pg_X11_limits_10 hT  s l x y _ h), (List.forall_mem_cons.mpr ⟨pu_X11_limits_47 _ (fun  s l x y h => pg_X11_limits_47 hT  s l x y _ h), (fun _ h => by cases h)⟩)⟩))
abbrev ph_X11_limits {A : Type} : List pj_V → pj_Z → (List pj_V → pj_Z → Option A) → Option A := fun st z K => pj_pi st fun a4 st => pj_pi st fun a3 st => pj_pi st fun a2 st => pj_pi st fun a1 st => pj_pr st 0 0 fun st => pj_ps st (pj_b (pf_X11_limits a1 a2 a3 a4 z.1 z.2.1 z.2.2.1 z.2.2.2) fun r s l x y => K st (s, l, x, y))
set_option maxRecDepth 100000 in
theorem pc_X11_limits {A : Type} {OK : A → Option Value → mj_M → Prop} {d j pc ix : Nat} {Y : mj_Y} {lf : pj_Z → mj_M} (hT : pj_Lt pj_TC lf) (hd : 2 ≤ d) (hl : mj_lk Y.2.2.2.2 pc = some (.invokevirtual ix, 3)) (hg : mj_pG ic_P j ix = some (11011, 4, some 11)) {lv : List (Nat × Value)} {st : List pj_V} {z : pj_Z} {K : List pj_V → pj_Z → Option A} {a : A} (hK : ∀ st z, K st z = some a → pj_Gd ic_P (mj_R ic_P d) j Y OK lf (pc + 3) lv (pj_es st) z a) (h : ph_X11_limits st z K = some a) : pj_Gd ic_P (mj_R ic_P d) j Y OK lf pc lv (pj_es st) z a := by
  obtain ⟨a4, r4, e4, h⟩ := pj_pi_inv h
  obtain ⟨a3, r3, e3, h⟩ := pj_pi_inv h
  obtain ⟨a2, r2, e2, h⟩ := pj_pi_inv h
  obtain ⟨a1, r1, e1, h⟩ := pj_pi_inv h
  obtain ⟨r0, e0, h⟩ := pj_pr_inv h
  obtain ⟨hs, h⟩ := pj_ps_inv h
  obtain ⟨q, hq, h⟩ := pj_b_inv h
  exact pm_cv (o := 0) hl hg [.int a1, .int a2, .int a3, .int a4] rfl (by rw [e4, e3, e2, e1, e0]; rfl) hs (by decide) ((hT.2 0 _ rfl).1.2 z 0 (by decide)) (pm_rU q.1) hd (pm_X11_limits hT a1 a2 a3 a4 z.1 z.2.1 z.2.2.1 z.2.2.2 q hq) rfl (hK _ _ h)
abbrev pe_X11_car_9 (f : pj_F (Int32 × pj_Z)) : pj_K (Int32 × pj_Z) := fun lv st z => pj_pe st (f  z.1 z.2.1 z.2.2.1 z.2.2.2)
abbrev pe_X11_car_36 (f : Int32 → Int32 → Int32 → Int32 → pj_F (Int32 × pj_Z)) : pj_K (Int32 × pj_Z) := fun lv st z => pj_xr lv 0 0 0 <| pj_xi lv 1 fun a1 => pj_xi lv 2 fun a2 => pj_pi st fun b1 st => pj_pi st fun b0 st => pj_pe st (f a1 a2 b0 b1 z.1 z.2.1 z.2.2.1 z.2.2.2)
abbrev pe_X11_car_39 (f : pj_F (Int32 × pj_Z)) : pj_K (Int32 × pj_Z) := fun lv st z => pj_pe st (f  z.1 z.2.1 z.2.2.1 z.2.2.2)
abbrev pe_X11_car_70 (f : Int32 → Int32 → Int32 → pj_F (Int32 × pj_Z)) : pj_K (Int32 × pj_Z) := fun lv st z => pj_xr lv 0 0 0 <| pj_xi lv 1 fun a1 => pj_xi lv 2 fun a2 => pj_pi st fun b0 st => pj_pe st (f a1 a2 b0 z.1 z.2.1 z.2.2.1 z.2.2.2)
abbrev px_X11_car : pj_C (Int32 × pj_Z) := ((pj_as [(0, 11, 17, 1, 0, true, 0, [(2, 1), (2, 20), (2, 58), (2, 68), (2, 82), (2, 83), (2, 85), (2, 96), (2, 102), (2, 106), (2, 122), (0, 93), (0, 94), (0, 95), (1, 1), (1, 2), (0, 96)]), (122, 5, 13, 1, 0, true, 0, [(0, 45), (0, 46), (0, 47), (0, 48), (0, 49), (0, 50), (0, 51), (0, 52), (0, 53), (0, 54), (0, 55), (2, 123), (0, 56)])]), (pj_as [(82, 11, 10, 2, true), (205, 5, 7, 0, false), (208, 5, 8, 0, false)]), (fun _ => none), (fun _ => none), (fun _ => none), ic_X, 4, 1, pj_mI, (fun _ => none), fun _ => false)
abbrev pk_X11_car : List (Nat × List (Nat × Instr × Nat)) := [(0, [(0, .iload_n 1, 1), (1, .ifCond .lt 8, 3)]), (4, [(4, .iload_n 1, 1), (5, .iconst 1, 1), (6, .if_icmp .le 13, 3)]), (9, [(9, .new 158, 3)]), (19, [(19, .iload_n 2, 1), (20, .ifCond .lt 19, 3)]), (23, [(23, .iload_n 2, 1), (24, .iload_n 1, 1), (25, .ifCond .ne 9, 3)]), (28, [(28, .sipush 30000, 3), (31, .goto 5, 3)]), (34, [(34, .bipush 6, 2)]), (36, [(36, .if_icmp .le 13, 3)]), (39, [(39, .new 107, 3)]), (49, [(49, .iload_n 1, 1), (50, .ifCond .ne 13, 3)]), (53, [(53, .aload_n 0, 1), (54, .getfield 82, 3), (57, .getfield 205, 3), (60, .goto 10, 3)]), (63, [(63, .aload_n 0, 1), (64, .getfield 82, 3), (67, .getfield 208, 3)]), (70, [(70, .istore_n 3, 1), (71, .iload_n 1, 1), (72, .ifCond .ne 14, 3)]), (75, [(75, .aload_n 0, 1), (76, .getfield 82, 3), (79, .iload_n 2, 1), (80, .putfield 205, 3), (83, .goto 11, 3)]), (86, [(86, .aload_n 0, 1), (87, .getfield 82, 3), (90, .iload_n 2, 1), (91, .putfield 208, 3)]), (94, [(94, .iload_n 3, 1), (95, .ireturn, 1)])]
set_option maxRecDepth 100000 in
theorem pq_X11_car_9   (s : Nat → Int32) (l : Nat → Int64) (x : Nat → Int32) (y : Nat → Int64) : pl_X11_car_9 s l x y = pj_bl px_X11_car (pj_rn px_X11_car (pj_as pk_X11_car) (fun _ => none) 60) [(9, .new 158, 3)] 9 [] [] (s, l, x, y) := rfl
set_option maxRecDepth 100000 in
theorem pq_X11_car_39   (s : Nat → Int32) (l : Nat → Int64) (x : Nat → Int32) (y : Nat → Int64) : pl_X11_car_39 s l x y = pj_bl px_X11_car (pj_rn px_X11_car (pj_as pk_X11_car) (fun _ => none) 60) [(39, .new 107, 3)] 39 [] [] (s, l, x, y) := rfl
set_option maxRecDepth 100000 in
theorem pq_X11_car_70  (a1 : Int32) (a2 : Int32) (b0 : Int32) (s : Nat → Int32) (l : Nat → Int64) (x : Nat → Int32) (y : Nat → Int64) : pl_X11_car_70 a1 a2 b0 s l x y = pj_bl px_X11_car (pj_rn px_X11_car (pj_as pk_X11_car) (fun _ => none) 60) [(70, .istore_n 3, 1), (71, .iload_n 1, 1), (72, .ifCond .ne 14, 3)] 70 [(0, pj_O (0, 0)), (1, pj_I a1), (2, pj_I a2)] [pj_I b0] (s, l, x, y) := rfl
set_option maxRecDepth 100000 in
theorem pq_X11_car_36  (a1 : Int32) (a2 : Int32) (b0 : Int32) (b1 : Int32) (s : Nat → Int32) (l : Nat → Int64) (x : Nat → Int32) (y : Nat → Int64) : pl_X11_car_36 a1 a2 b0 b1 s l x y = pj_bl px_X11_car (pj_rn px_X11_car (pj_as pk_X11_car) (pj_as [(39, pe_X11_car_39 (pl_X11_car_39)), (70, pe_X11_car_70 (pl_X11_car_70))]) 60) [(36, .if_icmp .le 13, 3)] 36 [(0, pj_O (0, 0)), (1, pj_I a1), (2, pj_I a2)] [pj_I b1, pj_I b0] (s, l, x, y) := rfl
set_option maxRecDepth 100000 in
theorem pq_X11_car_m  (a1 : Int32) (a2 : Int32) (s : Nat → Int32) (l : Nat → Int64) (x : Nat → Int32) (y : Nat → Int64) : pf_X11_car a1 a2 s l x y = pj_bl px_X11_car (pj_rn px_X11_car (pj_as pk_X11_car) (pj_as [(9, pe_X11_car_9 (pl_X11_car_9)), (36, pe_X11_car_36 (pl_X11_car_36)), (39, pe_X11_car_39 (pl_X11_car_39))]) 60) [(0, .iload_n 1, 1), (1, .ifCond .lt 8, 3)] 0 [(0, pj_O (0, 0)), (1, pj_I a1), (2, pj_I a2)] [] (s, l, x, y) := rfl
theorem pu_X11_car_9 {lf : pj_Z → mj_M} {a : Int32 × pj_Z} (f : pj_F (Int32 × pj_Z)) (hf : ∀  (s : Nat → Int32) (l : Nat → Int64) (x : Nat → Int32) (y : Nat → Int64), f  s l x y = some a → pm_Gd 0 11012 ie_X11_car.1 pm_rI lf 9 [] [] (s, l, x, y) a) : pm_Ex 0 11012 ie_X11_car.1 pm_rI lf a 9 (pe_X11_car_9 f) := by
  intro lv st z hd h
  obtain ⟨e9, h⟩ := pj_pe_inv h
  rw [e9]
  exact mj_wp_sub (mj_sub_nil hd) (hf  _ _ _ _ h)
theorem pu_X11_car_36 {lf : pj_Z → mj_M} {a : Int32 × pj_Z} (f : Int32 → Int32 → Int32 → Int32 → pj_F (Int32 × pj_Z)) (hf : ∀ (a1 : Int32) (a2 : Int32) (b0 : Int32) (b1 : Int32) (s : Nat → Int32) (l : Nat → Int64) (x : Nat → Int32) (y : Nat → Int64), f a1 a2 b0 b1 s l x y = some a → pm_Gd 0 11012 ie_X11_car.1 pm_rI lf 36 [(0, .ref 0), (1, .int a1), (2, .int a2)] [.int b1, .int b0] (s, l, x, y) a) : pm_Ex 0 11012 ie_X11_car.1 pm_rI lf a 36 (pe_X11_car_36 f) := by
  intro lv st z hd h
  obtain ⟨g0, h⟩ := pj_xr_inv h
  obtain ⟨a1, g1, h⟩ := pj_xi_inv h
  obtain ⟨a2, g2, h⟩ := pj_xi_inv h
  obtain ⟨b1, r1, e1, h⟩ := pj_pi_inv h
  obtain ⟨b0, r0, e0, h⟩ := pj_pi_inv h
  obtain ⟨e9, h⟩ := pj_pe_inv h
  rw [e1, e0, e9]
  exact mj_wp_sub (mj_sub_cons g0 (mj_sub_cons g1 (mj_sub_cons g2 (mj_sub_nil hd)))) (hf _ _ _ _ _ _ _ _ h)
theorem pu_X11_car_39 {lf : pj_Z → mj_M} {a : Int32 × pj_Z} (f : pj_F (Int32 × pj_Z)) (hf : ∀  (s : Nat → Int32) (l : Nat → Int64) (x : Nat → Int32) (y : Nat → Int64), f  s l x y = some a → pm_Gd 0 11012 ie_X11_car.1 pm_rI lf 39 [] [] (s, l, x, y) a) : pm_Ex 0 11012 ie_X11_car.1 pm_rI lf a 39 (pe_X11_car_39 f) := by
  intro lv st z hd h
  obtain ⟨e9, h⟩ := pj_pe_inv h
  rw [e9]
  exact mj_wp_sub (mj_sub_nil hd) (hf  _ _ _ _ h)
theorem pu_X11_car_70 {lf : pj_Z → mj_M} {a : Int32 × pj_Z} (f : Int32 → Int32 → Int32 → pj_F (Int32 × pj_Z)) (hf : ∀ (a1 : Int32) (a2 : Int32) (b0 : Int32) (s : Nat → Int32) (l : Nat → Int64) (x : Nat → Int32) (y : Nat → Int64), f a1 a2 b0 s l x y = some a → pm_Gd 0 11012 ie_X11_car.1 pm_rI lf 70 [(0, .ref 0), (1, .int a1), (2, .int a2)] [.int b0] (s, l, x, y) a) : pm_Ex 0 11012 ie_X11_car.1 pm_rI lf a 70 (pe_X11_car_70 f) := by
  intro lv st z hd h
  obtain ⟨g0, h⟩ := pj_xr_inv h
  obtain ⟨a1, g1, h⟩ := pj_xi_inv h
  obtain ⟨a2, g2, h⟩ := pj_xi_inv h
  obtain ⟨b0, r0, e0, h⟩ := pj_pi_inv h
  obtain ⟨e9, h⟩ := pj_pe_inv h
  rw [e0, e9]
  exact mj_wp_sub (mj_sub_cons g0 (mj_sub_cons g1 (mj_sub_cons g2 (mj_sub_nil hd)))) (hf _ _ _ _ _ _ _ h)
set_option maxRecDepth 100000 in
theorem pz_X11_car {lf : pj_Z → mj_M} (hT : pj_Lt pj_TC lf) : pj_Cok ic_P (mj_R ic_P 0) 11012 ie_X11_car.1 (pm_OK lf pm_rI) lf px_X11_car := by
  exact pm_cok (c := px_X11_car) (pm_part hT (pj_as_all (p := fun b e => pj_TC b = some e) (List.forall_mem_cons.mpr ⟨rfl, (List.forall_mem_cons.mpr ⟨rfl, (fun _ h => by cases h)⟩)⟩))) (pm_in_ok (L := [(82, 11, 10, 2, true), (205, 5, 7, 0, false), (208, 5, 8, 0, false)]) (f := mj_pF ic_P 11012) (by decide +kernel)) (fun _ _ h => by cases h) (fun _ _ h => by cases h) (fun _ _ h => by cases h) rfl rfl ⟨by decide, rfl⟩ pm_mI (fun _ _ h => by cases h) (fun _ h => by cases h)
set_option maxRecDepth 100000 in
theorem pb_X11_car : pm_bks ie_X11_car.1.2.2.2.2 pk_X11_car = true := by decide +kernel
set_option maxRecDepth 100000 in
theorem pg_X11_car_9 {lf : pj_Z → mj_M} (hT : pj_Lt pj_TC lf) : ∀  (s : Nat → Int32) (l : Nat → Int64) (x : Nat → Int32) (y : Nat → Int64) (a : Int32 × pj_Z), pl_X11_car_9 s l x y = some a → pm_Gd 0 11012 ie_X11_car.1 pm_rI lf 9 [] [] (s, l, x, y) a := by
  intro  s l x y a h
  exact pm_run ((pq_X11_car_9   s l x y).symm.trans h) (pz_X11_car hT) (pm_bks_ok pb_X11_car) (pm_bks_ok pb_X11_car _ _ rfl) (pm_ndb_ok rfl) (fun _ _ h => by cases h)
set_option maxRecDepth 100000 in
theorem pg_X11_car_39 {lf : pj_Z → mj_M} (hT : pj_Lt pj_TC lf) : ∀  (s : Nat → Int32) (l : Nat → Int64) (x : Nat → Int32) (y : Nat → Int64) (a : Int32 × pj_Z), pl_X11_car_39 s l x y = some a → pm_Gd 0 11012 ie_X11_car.1 pm_rI lf 39 [] [] (s, l, x, y) a := by
  intro  s l x y a h
  exact pm_run ((pq_X11_car_39   s l x y).symm.trans h) (pz_X11_car hT) (pm_bks_ok pb_X11_car) (pm_bks_ok pb_X11_car _ _ rfl) (pm_ndb_ok rfl) (fun _ _ h => by cases h)
set_option maxRecDepth 100000 in
theorem pg_X11_car_70 {lf : pj_Z → mj_M} (hT : pj_Lt pj_TC lf) : ∀ (a1 : Int32) (a2 : Int32) (b0 : Int32) (s : Nat → Int32) (l : Nat → Int64) (x : Nat → Int32) (y : Nat → Int64) (a : Int32 × pj_Z), pl_X11_car_70 a1 a2 b0 s l x y = some a → pm_Gd 0 11012 ie_X11_car.1 pm_rI lf 70 [(0, .ref 0), (1, .int a1), (2, .int a2)] [.int b0] (s, l, x, y) a := by
  intro a1 a2 b0 s l x y a h
  exact pm_run ((pq_X11_car_70  a1 a2 b0 s l x y).symm.trans h) (pz_X11_car hT) (pm_bks_ok pb_X11_car) (pm_bks_ok pb_X11_car _ _ rfl) (pm_ndb_ok rfl) (fun _ _ h => by cases h)
set_option maxRecDepth 100000 in
theorem pg_X11_car_36 {lf : pj_Z → mj_M} (hT : pj_Lt pj_TC lf) : ∀ (a1 : Int32) (a2 : Int32) (b0 : Int32) (b1 : Int32) (s : Nat → Int32) (l : Nat → Int64) (x : Nat → Int32) (y : Nat → Int64) (a : Int32 × pj_Z), pl_X11_car_36 a1 a2 b0 b1 s l x y = some a → pm_Gd 0 11012 ie_X11_car.1 pm_rI lf 36 [(0, .ref 0), (1, .int a1), (2, .int a2)] [.int b1, .int b0] (s, l, x, y) a := by
  intro a1 a2 b0 b1 s l x y a h
  exact pm_run ((pq_X11_car_36  a1 a2 b0 b1 s l x y).symm.trans h) (pz_X11_car hT) (pm_bks_ok pb_X11_car) (pm_bks_ok pb_X11_car _ _ rfl) (pm_ndb_ok rfl) (pj_as_all (p := pm_Ex 0 11012 ie_X11_car.1 pm_rI lf a) (List.forall_mem_cons.mpr ⟨pu_X11_car_39 _ (fun  s l x y h => pg_X11_car_39 hT  s l x y _ h), (List.forall_mem_cons.mpr ⟨pu_X11_car_70 _ (fun c0 c1 c2 s l x y h => pg_X11_car_70 hT c0 c1 c2 s l x y _ h), (fun _ h => by cases h)⟩)⟩))
set_option maxRecDepth 100000 in
theorem pm_X11_car {lf : pj_Z → mj_M} (hT : pj_Lt pj_TC lf) (a1 : Int32) (a2 : Int32) (s : Nat → Int32) (l : Nat → Int64) (x : Nat → Int32) (y : Nat → Int64) (a : Int32 × pj_Z) (h : pf_X11_car a1 a2 s l x y = some a) : mj_R ic_P 1 11012 [.ref 0, .int a1, .int a2] (lf (s, l, x, y)) (pm_rI a.1) (lf a.2) := by
  refine pm_main (Y := ie_X11_car.1) rfl (Nat.le_of_ble_eq_true rfl) ?_
  exact pm_run ((pq_X11_car_m a1 a2 s l x y).symm.trans h) (pz_X11_car hT) (pm_bks_ok pb_X11_car) (pm_bks_ok pb_X11_car _ _ rfl) (pm_ndb_ok rfl) (pj_as_all (p := pm_Ex 0 11012 ie_X11_car.1 pm_rI lf a) (List.forall_mem_cons.mpr ⟨pu_X11_car_9 _ (fun  s l x y h => pg_X11_car_9 hT  s l x y _ h), (List.forall_mem_cons.mpr ⟨pu_X11_car_36 _ (fun c0 c1 c2 c3 s l x y h => pg_X11_car_36 hT c0 c1 c2 c3 s l x y _ h), (List.forall_mem_cons.mpr ⟨pu_X11_car_39 _ (fun  s l x y h => pg_X11_car_39 hT  s l x y _ h), (fun _ h => by cases h)⟩)⟩)⟩))
abbrev ph_X11_car {A : Type} : List pj_V → pj_Z → (List pj_V → pj_Z → Option A) → Option A := fun st z K => pj_pi st fun a2 st => pj_pi st fun a1 st => pj_pr st 0 0 fun st => pj_ps st (pj_b (pf_X11_car a1 a2 z.1 z.2.1 z.2.2.1 z.2.2.2) fun r s l x y => K (pj_I r :: st) (s, l, x, y))
set_option maxRecDepth 100000 in
theorem pc_X11_car {A : Type} {OK : A → Option Value → mj_M → Prop} {d j pc ix : Nat} {Y : mj_Y} {lf : pj_Z → mj_M} (hT : pj_Lt pj_TC lf) (hd : 1 ≤ d) (hl : mj_lk Y.2.2.2.2 pc = some (.invokevirtual ix, 3)) (hg : mj_pG ic_P j ix = some (11012, 2, some 11)) {lv : List (Nat × Value)} {st : List pj_V} {z : pj_Z} {K : List pj_V → pj_Z → Option A} {a : A} (hK : ∀ st z, K st z = some a → pj_Gd ic_P (mj_R ic_P d) j Y OK lf (pc + 3) lv (pj_es st) z a) (h : ph_X11_car st z K = some a) : pj_Gd ic_P (mj_R ic_P d) j Y OK lf pc lv (pj_es st) z a := by
  obtain ⟨a2, r2, e2, h⟩ := pj_pi_inv h
  obtain ⟨a1, r1, e1, h⟩ := pj_pi_inv h
  obtain ⟨r0, e0, h⟩ := pj_pr_inv h
  obtain ⟨hs, h⟩ := pj_ps_inv h
  obtain ⟨q, hq, h⟩ := pj_b_inv h
  exact pm_cv (o := 0) hl hg [.int a1, .int a2] rfl (by rw [e2, e1, e0]; rfl) hs (by decide) ((hT.2 0 _ rfl).1.2 z 0 (by decide)) (pm_rI q.1) hd (pm_X11_car hT a1 a2 z.1 z.2.1 z.2.2.1 z.2.2.2 q hq) rfl (hK _ _ h)
abbrev pe_X11_brake_9 (f : pj_F (Int32 × pj_Z)) : pj_K (Int32 × pj_Z) := fun lv st z => pj_pe st (f  z.1 z.2.1 z.2.2.1 z.2.2.2)
abbrev pe_X11_brake_39 (f : Int32 → Int32 → pj_F (Int32 × pj_Z)) : pj_K (Int32 × pj_Z) := fun lv st z => pj_xi lv 2 fun a2 => pj_xi lv 3 fun a3 => pj_pe st (f a2 a3 z.1 z.2.1 z.2.2.1 z.2.2.2)
abbrev px_X11_brake : pj_C (Int32 × pj_Z) := ((pj_as [(0, 11, 17, 1, 0, true, 0, [(2, 1), (2, 20), (2, 58), (2, 68), (2, 82), (2, 83), (2, 85), (2, 96), (2, 102), (2, 106), (2, 122), (0, 93), (0, 94), (0, 95), (1, 1), (1, 2), (0, 96)]), (122, 5, 13, 1, 0, true, 0, [(0, 45), (0, 46), (0, 47), (0, 48), (0, 49), (0, 50), (0, 51), (0, 52), (0, 53), (0, 54), (0, 55), (2, 123), (0, 56)]), (123, 102, 2, 1, 0, true, 15000, [])]), (pj_as [(82, 11, 10, 2, true), (213, 5, 11, 2, true)]), (fun _ => none), (fun _ => none), (fun _ => none), ic_X, 4, 2, pj_mI, (fun _ => none), fun _ => false)
abbrev pk_X11_brake : List (Nat × List (Nat × Instr × Nat)) := [(0, [(0, .iload_n 1, 1), (1, .ifCond .lt 8, 3)]), (4, [(4, .iload_n 1, 1), (5, .iconst 1, 1), (6, .if_icmp .le 13, 3)]), (9, [(9, .new 158, 3)]), (19, [(19, .aload_n 0, 1), (20, .getfield 82, 3), (23, .getfield 213, 3), (26, .iload_n 1, 1), (27, .baload, 1), (28, .istore_n 3, 1), (29, .aload_n 0, 1), (30, .getfield 82, 3), (33, .getfield 213, 3), (36, .iload_n 1, 1), (37, .iload_n 2, 1), (38, .bastore, 1)]), (39, [(39, .iload_n 3, 1), (40, .iload_n 2, 1), (41, .if_icmp .eq 7, 3)]), (44, [(44, .iconst 1, 1), (45, .goto 4, 3)]), (48, [(48, .iconst 0, 1)]), (49, [(49, .ireturn, 1)])]
set_option maxRecDepth 100000 in
theorem pq_X11_brake_9   (s : Nat → Int32) (l : Nat → Int64) (x : Nat → Int32) (y : Nat → Int64) : pl_X11_brake_9 s l x y = pj_bl px_X11_brake (pj_rn px_X11_brake (pj_as pk_X11_brake) (fun _ => none) 60) [(9, .new 158, 3)] 9 [] [] (s, l, x, y) := rfl
set_option maxRecDepth 100000 in
theorem pq_X11_brake_39  (a2 : Int32) (a3 : Int32) (s : Nat → Int32) (l : Nat → Int64) (x : Nat → Int32) (y : Nat → Int64) : pl_X11_brake_39 a2 a3 s l x y = pj_bl px_X11_brake (pj_rn px_X11_brake (pj_as pk_X11_brake) (fun _ => none) 60) [(39, .iload_n 3, 1), (40, .iload_n 2, 1), (41, .if_icmp .eq 7, 3)] 39 [(2, pj_I a2), (3, pj_I a3)] [] (s, l, x, y) := rfl
set_option maxRecDepth 100000 in
theorem pq_X11_brake_m  (a1 : Int32) (a2 : Int32) (s : Nat → Int32) (l : Nat → Int64) (x : Nat → Int32) (y : Nat → Int64) : pf_X11_brake a1 a2 s l x y = pj_bl px_X11_brake (pj_rn px_X11_brake (pj_as pk_X11_brake) (pj_as [(9, pe_X11_brake_9 (pl_X11_brake_9)), (39, pe_X11_brake_39 (pl_X11_brake_39))]) 60) [(0, .iload_n 1, 1), (1, .ifCond .lt 8, 3)] 0 [(0, pj_O (0, 0)), (1, pj_I a1), (2, pj_I a2)] [] (s, l, x, y) := rfl
theorem pu_X11_brake_9 {lf : pj_Z → mj_M} {a : Int32 × pj_Z} (f : pj_F (Int32 × pj_Z)) (hf : ∀  (s : Nat → Int32) (l : Nat → Int64) (x : Nat → Int32) (y : Nat → Int64), f  s l x y = some a → pm_Gd 0 11013 ie_X11_brake.1 pm_rI lf 9 [] [] (s, l, x, y) a) : pm_Ex 0 11013 ie_X11_brake.1 pm_rI lf a 9 (pe_X11_brake_9 f) := by
  intro lv st z hd h
  obtain ⟨e9, h⟩ := pj_pe_inv h
  rw [e9]
  exact mj_wp_sub (mj_sub_nil hd) (hf  _ _ _ _ h)
theorem pu_X11_brake_39 {lf : pj_Z → mj_M} {a : Int32 × pj_Z} (f : Int32 → Int32 → pj_F (Int32 × pj_Z)) (hf : ∀ (a2 : Int32) (a3 : Int32) (s : Nat → Int32) (l : Nat → Int64) (x : Nat → Int32) (y : Nat → Int64), f a2 a3 s l x y = some a → pm_Gd 0 11013 ie_X11_brake.1 pm_rI lf 39 [(2, .int a2), (3, .int a3)] [] (s, l, x, y) a) : pm_Ex 0 11013 ie_X11_brake.1 pm_rI lf a 39 (pe_X11_brake_39 f) := by
  intro lv st z hd h
  obtain ⟨a2, g2, h⟩ := pj_xi_inv h
  obtain ⟨a3, g3, h⟩ := pj_xi_inv h
  obtain ⟨e9, h⟩ := pj_pe_inv h
  rw [e9]
  exact mj_wp_sub (mj_sub_cons g2 (mj_sub_cons g3 (mj_sub_nil hd))) (hf _ _ _ _ _ _ h)
set_option maxRecDepth 100000 in
theorem pz_X11_brake {lf : pj_Z → mj_M} (hT : pj_Lt pj_TC lf) : pj_Cok ic_P (mj_R ic_P 0) 11013 ie_X11_brake.1 (pm_OK lf pm_rI) lf px_X11_brake := by
  exact pm_cok (c := px_X11_brake) (pm_part hT (pj_as_all (p := fun b e => pj_TC b = some e) (List.forall_mem_cons.mpr ⟨rfl, (List.forall_mem_cons.mpr ⟨rfl, (List.forall_mem_cons.mpr ⟨rfl, (fun _ h => by cases h)⟩)⟩)⟩))) (pm_in_ok (L := [(82, 11, 10, 2, true), (213, 5, 11, 2, true)]) (f := mj_pF ic_P 11013) (by decide +kernel)) (fun _ _ h => by cases h) (fun _ _ h => by cases h) (fun _ _ h => by cases h) rfl rfl ⟨by decide, rfl⟩ pm_mI (fun _ _ h => by cases h) (fun _ h => by cases h)
set_option maxRecDepth 100000 in
theorem pb_X11_brake : pm_bks ie_X11_brake.1.2.2.2.2 pk_X11_brake = true := by decide +kernel
set_option maxRecDepth 100000 in
theorem pg_X11_brake_9 {lf : pj_Z → mj_M} (hT : pj_Lt pj_TC lf) : ∀  (s : Nat → Int32) (l : Nat → Int64) (x : Nat → Int32) (y : Nat → Int64) (a : Int32 × pj_Z), pl_X11_brake_9 s l x y = some a → pm_Gd 0 11013 ie_X11_brake.1 pm_rI lf 9 [] [] (s, l, x, y) a := by
  intro  s l x y a h
  exact pm_run ((pq_X11_brake_9   s l x y).symm.trans h) (pz_X11_brake hT) (pm_bks_ok pb_X11_brake) (pm_bks_ok pb_X11_brake _ _ rfl) (pm_ndb_ok rfl) (fun _ _ h => by cases h)
set_option maxRecDepth 100000 in
theorem pg_X11_brake_39 {lf : pj_Z → mj_M} (hT : pj_Lt pj_TC lf) : ∀ (a2 : Int32) (a3 : Int32) (s : Nat → Int32) (l : Nat → Int64) (x : Nat → Int32) (y : Nat → Int64) (a : Int32 × pj_Z), pl_X11_brake_39 a2 a3 s l x y = some a → pm_Gd 0 11013 ie_X11_brake.1 pm_rI lf 39 [(2, .int a2), (3, .int a3)] [] (s, l, x, y) a := by
  intro a2 a3 s l x y a h
  exact pm_run ((pq_X11_brake_39  a2 a3 s l x y).symm.trans h) (pz_X11_brake hT) (pm_bks_ok pb_X11_brake) (pm_bks_ok pb_X11_brake _ _ rfl) (pm_ndb_ok rfl) (fun _ _ h => by cases h)
set_option maxRecDepth 100000 in
theorem pm_X11_brake {lf : pj_Z → mj_M} (hT : pj_Lt pj_TC lf) (a1 : Int32) (a2 : Int32) (s : Nat → Int32) (l : Nat → Int64) (x : Nat → Int32) (y : Nat → Int64) (a : Int32 × pj_Z) (h : pf_X11_brake a1 a2 s l x y = some a) : mj_R ic_P 1 11013 [.ref 0, .int a1, .int a2] (lf (s, l, x, y)) (pm_rI a.1) (lf a.2) := by
  refine pm_main (Y := ie_X11_brake.1) rfl (Nat.le_of_ble_eq_true rfl) ?_
  exact pm_run ((pq_X11_brake_m a1 a2 s l x y).symm.trans h) (pz_X11_brake hT) (pm_bks_ok pb_X11_brake) (pm_bks_ok pb_X11_brake _ _ rfl) (pm_ndb_ok rfl) (pj_as_all (p := pm_Ex 0 11013 ie_X11_brake.1 pm_rI lf a) (List.forall_mem_cons.mpr ⟨pu_X11_brake_9 _ (fun  s l x y h => pg_X11_brake_9 hT  s l x y _ h), (List.forall_mem_cons.mpr ⟨pu_X11_brake_39 _ (fun c0 c1 s l x y h => pg_X11_brake_39 hT c0 c1 s l x y _ h), (fun _ h => by cases h)⟩)⟩))
abbrev ph_X11_brake {A : Type} : List pj_V → pj_Z → (List pj_V → pj_Z → Option A) → Option A := fun st z K => pj_pi st fun a2 st => pj_pi st fun a1 st => pj_pr st 0 0 fun st => pj_ps st (pj_b (pf_X11_brake a1 a2 z.1 z.2.1 z.2.2.1 z.2.2.2) fun r s l x y => K (pj_I r :: st) (s, l, x, y))
set_option maxRecDepth 100000 in
theorem pc_X11_brake {A : Type} {OK : A → Option Value → mj_M → Prop} {d j pc ix : Nat} {Y : mj_Y} {lf : pj_Z → mj_M} (hT : pj_Lt pj_TC lf) (hd : 1 ≤ d) (hl : mj_lk Y.2.2.2.2 pc = some (.invokevirtual ix, 3)) (hg : mj_pG ic_P j ix = some (11013, 2, some 11)) {lv : List (Nat × Value)} {st : List pj_V} {z : pj_Z} {K : List pj_V → pj_Z → Option A} {a : A} (hK : ∀ st z, K st z = some a → pj_Gd ic_P (mj_R ic_P d) j Y OK lf (pc + 3) lv (pj_es st) z a) (h : ph_X11_brake st z K = some a) : pj_Gd ic_P (mj_R ic_P d) j Y OK lf pc lv (pj_es st) z a := by
  obtain ⟨a2, r2, e2, h⟩ := pj_pi_inv h
  obtain ⟨a1, r1, e1, h⟩ := pj_pi_inv h
  obtain ⟨r0, e0, h⟩ := pj_pr_inv h
  obtain ⟨hs, h⟩ := pj_ps_inv h
  obtain ⟨q, hq, h⟩ := pj_b_inv h
  exact pm_cv (o := 0) hl hg [.int a1, .int a2] rfl (by rw [e2, e1, e0]; rfl) hs (by decide) ((hT.2 0 _ rfl).1.2 z 0 (by decide)) (pm_rI q.1) hd (pm_X11_brake hT a1 a2 z.1 z.2.1 z.2.2.1 z.2.2.2 q hq) rfl (hK _ _ h)
abbrev px_X11_mayHold : pj_C (Int32 × pj_Z) := ((pj_as [(0, 11, 17, 1, 0, true, 0, [(2, 1), (2, 20), (2, 58), (2, 68), (2, 82), (2, 83), (2, 85), (2, 96), (2, 102), (2, 106), (2, 122), (0, 93), (0, 94), (0, 95), (1, 1), (1, 2), (0, 96)]), (83, 3, 20, 1, 0, true, 0, [(0, 29), (0, 30), (1, 14), (1, 15), (0, 31), (0, 32), (0, 33), (0, 34), (0, 35), (0, 36), (0, 37), (0, 38), (0, 39), (0, 40), (1, 16), (1, 17), (0, 41), (0, 42), (0, 43), (2, 84)]), (122, 5, 13, 1, 0, true, 0, [(0, 45), (0, 46), (0, 47), (0, 48), (0, 49), (0, 50), (0, 51), (0, 52), (0, 53), (0, 54), (0, 55), (2, 123), (0, 56)])]), (pj_as [(47, 11, 5, 2, true), (82, 11, 10, 2, true), (205, 5, 7, 0, false), (208, 5, 8, 0, false), (538, 3, 0, 3, false), (667, 3, 9, 3, false)]), (fun _ => none), (fun _ => none), (fun _ => none), ic_X, 1, 2, pj_mI, (pj_as [(25, ph_X11_isBraking)]), fun _ => false)
abbrev pk_X11_mayHold : List (Nat × List (Nat × Instr × Nat)) := [(0, [(0, .aload_n 0, 1), (1, .getfield 82, 3), (4, .getfield 205, 3), (7, .sipush 3000, 3), (10, .if_icmp .lt 45, 3)]), (13, [(13, .aload_n 0, 1), (14, .getfield 82, 3), (17, .getfield 208, 3), (20, .iconst 3, 1), (21, .if_icmp .lt 34, 3)]), (24, [(24, .aload_n 0, 1), (25, .invokevirtual 746, 3), (28, .ifCond .ne 27, 3)]), (31, [(31, .aload_n 0, 1), (32, .getfield 47, 3), (35, .getfield 538, 3), (38, .ifCond .ne 17, 3)]), (41, [(41, .aload_n 0, 1), (42, .getfield 47, 3), (45, .getfield 667, 3), (48, .ifCond .ne 7, 3)]), (51, [(51, .iconst 1, 1), (52, .goto 4, 3)]), (55, [(55, .iconst 0, 1)]), (56, [(56, .ireturn, 1)])]
set_option maxRecDepth 100000 in
theorem pq_X11_mayHold_m   (s : Nat → Int32) (l : Nat → Int64) (x : Nat → Int32) (y : Nat → Int64) : pf_X11_mayHold  s l x y = pj_bl px_X11_mayHold (pj_rn px_X11_mayHold (pj_as pk_X11_mayHold) (fun _ => none) 60) [(0, .aload_n 0, 1), (1, .getfield 82, 3), (4, .getfield 205, 3), (7, .sipush 3000, 3), (10, .if_icmp .lt 45, 3)] 0 [(0, pj_O (0, 0))] [] (s, l, x, y) := rfl
set_option maxRecDepth 100000 in
theorem pz_X11_mayHold {lf : pj_Z → mj_M} (hT : pj_Lt pj_TC lf) : pj_Cok ic_P (mj_R ic_P 1) 11071 ie_X11_mayHold.1 (pm_OK lf pm_rI) lf px_X11_mayHold := by
  exact pm_cok (c := px_X11_mayHold) (pm_part hT (pj_as_all (p := fun b e => pj_TC b = some e) (List.forall_mem_cons.mpr ⟨rfl, (List.forall_mem_cons.mpr ⟨rfl, (List.forall_mem_cons.mpr ⟨rfl, (fun _ h => by cases h)⟩)⟩)⟩))) (pm_in_ok (L := [(47, 11, 5, 2, true), (82, 11, 10, 2, true), (205, 5, 7, 0, false), (208, 5, 8, 0, false), (538, 3, 0, 3, false), (667, 3, 9, 3, false)]) (f := mj_pF ic_P 11071) (by decide +kernel)) (fun _ _ h => by cases h) (fun _ _ h => by cases h) (fun _ _ h => by cases h) rfl rfl ⟨by decide, rfl⟩ pm_mI (pj_as_all (p := pm_Cl 1 11071 ie_X11_mayHold.1 lf (pm_OK lf pm_rI)) (List.forall_mem_cons.mpr ⟨fun _ _ lv st z K a hK h => pc_X11_isBraking hT (by decide) (ix := 746) rfl rfl hK h, (fun _ h => by cases h)⟩)) (fun _ h => by cases h)
set_option maxRecDepth 100000 in
theorem pb_X11_mayHold : pm_bks ie_X11_mayHold.1.2.2.2.2 pk_X11_mayHold = true := by decide +kernel
set_option maxRecDepth 100000 in
theorem pm_X11_mayHold {lf : pj_Z → mj_M} (hT : pj_Lt pj_TC lf)  (s : Nat → Int32) (l : Nat → Int64) (x : Nat → Int32) (y : Nat → Int64) (a : Int32 × pj_Z) (h : pf_X11_mayHold  s l x y = some a) : mj_R ic_P 2 11071 [.ref 0] (lf (s, l, x, y)) (pm_rI a.1) (lf a.2) := by
  refine pm_main (Y := ie_X11_mayHold.1) rfl (Nat.le_of_ble_eq_true rfl) ?_
  exact pm_run ((pq_X11_mayHold_m  s l x y).symm.trans h) (pz_X11_mayHold hT) (pm_bks_ok pb_X11_mayHold) (pm_bks_ok pb_X11_mayHold _ _ rfl) (pm_ndb_ok rfl) (fun _ _ h => by cases h)
abbrev ph_X11_mayHold {A : Type} : List pj_V → pj_Z → (List pj_V → pj_Z → Option A) → Option A := fun st z K => pj_pr st 0 0 fun st => pj_ps st (pj_b (pf_X11_mayHold  z.1 z.2.1 z.2.2.1 z.2.2.2) fun r s l x y => K (pj_I r :: st) (s, l, x, y))
set_option maxRecDepth 100000 in
theorem pc_X11_mayHold {A : Type} {OK : A → Option Value → mj_M → Prop} {d j pc ix : Nat} {Y : mj_Y} {lf : pj_Z → mj_M} (hT : pj_Lt pj_TC lf) (hd : 2 ≤ d) (hl : mj_lk Y.2.2.2.2 pc = some (.invokevirtual ix, 3)) (hg : mj_pG ic_P j ix = some (11071, 0, some 11)) {lv : List (Nat × Value)} {st : List pj_V} {z : pj_Z} {K : List pj_V → pj_Z → Option A} {a : A} (hK : ∀ st z, K st z = some a → pj_Gd ic_P (mj_R ic_P d) j Y OK lf (pc + 3) lv (pj_es st) z a) (h : ph_X11_mayHold st z K = some a) : pj_Gd ic_P (mj_R ic_P d) j Y OK lf pc lv (pj_es st) z a := by
  obtain ⟨r0, e0, h⟩ := pj_pr_inv h
  obtain ⟨hs, h⟩ := pj_ps_inv h
  obtain ⟨q, hq, h⟩ := pj_b_inv h
  exact pm_cv (o := 0) hl hg [] rfl (by rw [e0]; rfl) hs (by decide) ((hT.2 0 _ rfl).1.2 z 0 (by decide)) (pm_rI q.1) hd (pm_X11_mayHold hT  z.1 z.2.1 z.2.2.1 z.2.2.2 q hq) rfl (hK _ _ h)
abbrev px_X9_hold : pj_C (Unit × pj_Z) := ((pj_as [(82, 9, 18, 1, 0, true, 0, [(0, 71), (0, 72), (1, 12), (0, 73), (0, 74), (0, 75), (0, 76), (0, 77), (0, 78), (0, 79), (0, 80), (1, 13), (0, 81), (0, 82), (0, 83), (0, 84), (0, 85), (0, 86)])]), (pj_as [(49, 9, 12, 0, false), (55, 9, 14, 0, false)]), (fun _ => none), (fun _ => none), (fun _ => none), ic_X, 1, 0, pj_mU, (fun _ => none), fun _ => false)
abbrev pk_X9_hold : List (Nat × List (Nat × Instr × Nat)) := [(0, [(0, .aload_n 0, 1), (1, .iconst 2, 1), (2, .putfield 49, 3), (5, .aload_n 0, 1), (6, .iconst 0, 1), (7, .putfield 55, 3), (10, .return_, 1)])]
set_option maxRecDepth 100000 in
theorem pq_X9_hold_m   (s : Nat → Int32) (l : Nat → Int64) (x : Nat → Int32) (y : Nat → Int64) : pf_X9_hold  s l x y = pj_bl px_X9_hold (pj_rn px_X9_hold (pj_as pk_X9_hold) (fun _ => none) 60) [(0, .aload_n 0, 1), (1, .iconst 2, 1), (2, .putfield 49, 3), (5, .aload_n 0, 1), (6, .iconst 0, 1), (7, .putfield 55, 3), (10, .return_, 1)] 0 [(0, pj_O (82, 0))] [] (s, l, x, y) := rfl
set_option maxRecDepth 100000 in
theorem pz_X9_hold {lf : pj_Z → mj_M} (hT : pj_Lt pj_TC lf) : pj_Cok ic_P (mj_R ic_P 0) 9008 ie_X9_hold.1 (pm_OK lf pm_rU) lf px_X9_hold := by
  exact pm_cok (c := px_X9_hold) (pm_part hT (pj_as_all (p := fun b e => pj_TC b = some e) (List.forall_mem_cons.mpr ⟨rfl, (fun _ h => by cases h)⟩))) (pm_in_ok (L := [(49, 9, 12, 0, false), (55, 9, 14, 0, false)]) (f := mj_pF ic_P 9008) (by decide +kernel)) (fun _ _ h => by cases h) (fun _ _ h => by cases h) (fun _ _ h => by cases h) rfl rfl ⟨by decide, rfl⟩ pm_mU (fun _ _ h => by cases h) (fun _ h => by cases h)
set_option maxRecDepth 100000 in
theorem pb_X9_hold : pm_bks ie_X9_hold.1.2.2.2.2 pk_X9_hold = true := by decide +kernel
set_option maxRecDepth 100000 in
theorem pm_X9_hold {lf : pj_Z → mj_M} (hT : pj_Lt pj_TC lf)  (s : Nat → Int32) (l : Nat → Int64) (x : Nat → Int32) (y : Nat → Int64) (a : Unit × pj_Z) (h : pf_X9_hold  s l x y = some a) : mj_R ic_P 1 9008 [.ref 82] (lf (s, l, x, y)) (pm_rU a.1) (lf a.2) := by
  refine pm_main (Y := ie_X9_hold.1) rfl (Nat.le_of_ble_eq_true rfl) ?_
  exact pm_run ((pq_X9_hold_m  s l x y).symm.trans h) (pz_X9_hold hT) (pm_bks_ok pb_X9_hold) (pm_bks_ok pb_X9_hold _ _ rfl) (pm_ndb_ok rfl) (fun _ _ h => by cases h)
abbrev ph_X9_hold {A : Type} : List pj_V → pj_Z → (List pj_V → pj_Z → Option A) → Option A := fun st z K => pj_pr st 82 0 fun st => pj_ps st (pj_b (pf_X9_hold  z.1 z.2.1 z.2.2.1 z.2.2.2) fun r s l x y => K st (s, l, x, y))
set_option maxRecDepth 100000 in
theorem pc_X9_hold {A : Type} {OK : A → Option Value → mj_M → Prop} {d j pc ix : Nat} {Y : mj_Y} {lf : pj_Z → mj_M} (hT : pj_Lt pj_TC lf) (hd : 1 ≤ d) (hl : mj_lk Y.2.2.2.2 pc = some (.invokevirtual ix, 3)) (hg : mj_pG ic_P j ix = some (9008, 0, some 9)) {lv : List (Nat × Value)} {st : List pj_V} {z : pj_Z} {K : List pj_V → pj_Z → Option A} {a : A} (hK : ∀ st z, K st z = some a → pj_Gd ic_P (mj_R ic_P d) j Y OK lf (pc + 3) lv (pj_es st) z a) (h : ph_X9_hold st z K = some a) : pj_Gd ic_P (mj_R ic_P d) j Y OK lf pc lv (pj_es st) z a := by
  obtain ⟨r0, e0, h⟩ := pj_pr_inv h
  obtain ⟨hs, h⟩ := pj_ps_inv h
  obtain ⟨q, hq, h⟩ := pj_b_inv h
  exact pm_cv (o := 82) hl hg [] rfl (by rw [e0]; rfl) hs (by decide) ((hT.2 82 _ rfl).1.2 z 0 (by decide)) (pm_rU q.1) hd (pm_X9_hold hT  z.1 z.2.1 z.2.2.1 z.2.2.2 q hq) rfl (hK _ _ h)
abbrev pe_X9_feelButton_20 (f : Int32 → pj_F (Unit × pj_Z)) : pj_K (Unit × pj_Z) := fun lv st z => pj_xr lv 0 82 0 <| pj_pi st fun b1 st => pj_pr st 82 0 fun st => pj_pe st (f b1 z.1 z.2.1 z.2.2.1 z.2.2.2)
abbrev pe_X9_feelButton_36 (f : Int32 → pj_F (Unit × pj_Z)) : pj_K (Unit × pj_Z) := fun lv st z => pj_pi st fun b1 st => pj_pr st 82 0 fun st => pj_pe st (f b1 z.1 z.2.1 z.2.2.1 z.2.2.2)
abbrev pe_X9_feelButton_70 (f : Int32 → Int32 → pj_F (Unit × pj_Z)) : pj_K (Unit × pj_Z) := fun lv st z => pj_xr lv 0 82 0 <| pj_xi lv 1 fun a1 => pj_xi lv 3 fun a3 => pj_pe st (f a1 a3 z.1 z.2.1 z.2.2.1 z.2.2.2)
abbrev pe_X9_feelButton_101 (f : Int32 → pj_F (Unit × pj_Z)) : pj_K (Unit × pj_Z) := fun lv st z => pj_xr lv 0 82 0 <| pj_xi lv 1 fun a1 => pj_pe st (f a1 z.1 z.2.1 z.2.2.1 z.2.2.2)
abbrev pe_X9_feelButton_122 (f : Int32 → pj_F (Unit × pj_Z)) : pj_K (Unit × pj_Z) := fun lv st z => pj_xr lv 0 82 0 <| pj_xi lv 1 fun a1 => pj_pe st (f a1 z.1 z.2.1 z.2.2.1 z.2.2.2)
abbrev pe_X9_feelButton_155 (f : Int32 → pj_F (Unit × pj_Z)) : pj_K (Unit × pj_Z) := fun lv st z => pj_xr lv 0 82 0 <| pj_xi lv 1 fun a1 => pj_pe st (f a1 z.1 z.2.1 z.2.2.1 z.2.2.2)
abbrev px_X9_feelButton : pj_C (Unit × pj_Z) := ((pj_as [(82, 9, 18, 1, 0, true, 0, [(0, 71), (0, 72), (1, 12), (0, 73), (0, 74), (0, 75), (0, 76), (0, 77), (0, 78), (0, 79), (0, 80), (1, 13), (0, 81), (0, 82), (0, 83), (0, 84), (0, 85), (0, 86)])]), (pj_as [(49, 9, 12, 0, false), (52, 9, 13, 0, false)]), (fun _ => none), (fun _ => none), (fun _ => none), ic_X, 4, 0, pj_mU, (pj_as [(64, ph_X9_hold), (95, ph_X9_hold), (146, ph_J9_min_7cf53), (179, ph_J9_max_7cf53)]), fun _ => false)
abbrev pk_X9_feelButton : List (Nat × List (Nat × Instr × Nat)) := [(0, [(0, .iload_n 1, 1), (1, .ifCond .ne 41, 3)]), (4, [(4, .aload_n 0, 1), (5, .aload_n 0, 1), (6, .getfield 49, 3), (9, .ifCond .ne 10, 3)]), (12, [(12, .aload_n 0, 1), (13, .getfield 52, 3), (16, .goto 4, 3)]), (19, [(19, .iconst 0, 1)]), (20, [(20, .putfield 52, 3), (23, .aload_n 0, 1), (24, .aload_n 0, 1), (25, .getfield 49, 3), (28, .ifCond .ne 7, 3)]), (31, [(31, .iconst 1, 1), (32, .goto 4, 3)]), (35, [(35, .iconst 0, 1)]), (36, [(36, .putfield 49, 3), (39, .goto 146, 3)]), (42, [(42, .iload_n 1, 1), (43, .iconst 1, 1), (44, .if_icmp .ne 26, 3)]), (47, [(47, .aload_n 0, 1), (48, .getfield 49, 3), (51, .ifCond .eq 19, 3)]), (54, [(54, .iload_n 3, 1), (55, .ifCond .eq 15, 3)]), (58, [(58, .aload_n 0, 1), (59, .iload_n 2, 1), (60, .putfield 52, 3), (63, .aload_n 0, 1), (64, .invokevirtual 98, 3), (67, .goto 118, 3)]), (70, [(70, .iload_n 1, 1), (71, .iconst 2, 1), (72, .if_icmp .ne 29, 3)]), (75, [(75, .aload_n 0, 1), (76, .getfield 49, 3), (79, .iconst 1, 1), (80, .if_icmp .ne 21, 3)]), (83, [(83, .aload_n 0, 1), (84, .getfield 52, 3), (87, .ifCond .le 14, 3)]), (90, [(90, .iload_n 3, 1), (91, .ifCond .eq 10, 3)]), (94, [(94, .aload_n 0, 1), (95, .invokevirtual 98, 3), (98, .goto 87, 3)]), (101, [(101, .iload_n 1, 1), (102, .iconst 3, 1), (103, .if_icmp .ne 19, 3)]), (106, [(106, .aload_n 0, 1), (107, .getfield 49, 3), (110, .iconst 2, 1), (111, .if_icmp .ne 11, 3)]), (114, [(114, .aload_n 0, 1), (115, .iconst 1, 1), (116, .putfield 49, 3), (119, .goto 66, 3)]), (122, [(122, .iload_n 1, 1), (123, .iconst 4, 1), (124, .if_icmp .ne 31, 3)]), (127, [(127, .aload_n 0, 1), (128, .getfield 49, 3), (131, .iconst 2, 1), (132, .if_icmp .ne 23, 3)]), (135, [(135, .aload_n 0, 1), (136, .sipush 20000, 3), (139, .aload_n 0, 1), (140, .getfield 52, 3), (143, .bipush 100, 2), (145, .iadd, 1), (146, .invokestatic 67, 3), (149, .putfield 52, 3), (152, .goto 33, 3)]), (155, [(155, .iload_n 1, 1), (156, .iconst 5, 1), (157, .if_icmp .ne 28, 3)]), (160, [(160, .aload_n 0, 1), (161, .getfield 49, 3), (164, .iconst 2, 1), (165, .if_icmp .ne 20, 3)]), (168, [(168, .aload_n 0, 1), (169, .sipush 3000, 3), (172, .aload_n 0, 1), (173, .getfield 52, 3), (176, .bipush 100, 2), (178, .isub, 1), (179, .invokestatic 95, 3), (182, .putfield 52, 3)]), (185, [(185, .return_, 1)])]
set_option maxRecDepth 100000 in
theorem pq_X9_feelButton_36  (b1 : Int32) (s : Nat → Int32) (l : Nat → Int64) (x : Nat → Int32) (y : Nat → Int64) : pl_X9_feelButton_36 b1 s l x y = pj_bl px_X9_feelButton (pj_rn px_X9_feelButton (pj_as pk_X9_feelButton) (fun _ => none) 60) [(36, .putfield 49, 3), (39, .goto 146, 3)] 36 [] [pj_I b1, pj_O (82, 0)] (s, l, x, y) := rfl
set_option maxRecDepth 100000 in
theorem pq_X9_feelButton_20  (b1 : Int32) (s : Nat → Int32) (l : Nat → Int64) (x : Nat → Int32) (y : Nat → Int64) : pl_X9_feelButton_20 b1 s l x y = pj_bl px_X9_feelButton (pj_rn px_X9_feelButton (pj_as pk_X9_feelButton) (pj_as [(36, pe_X9_feelButton_36 (pl_X9_feelButton_36))]) 60) [(20, .putfield 52, 3), (23, .aload_n 0, 1), (24, .aload_n 0, 1), (25, .getfield 49, 3), (28, .ifCond .ne 7, 3)] 20 [(0, pj_O (82, 0))] [pj_I b1, pj_O (82, 0)] (s, l, x, y) := rfl
set_option maxRecDepth 100000 in
theorem pq_X9_feelButton_155  (a1 : Int32) (s : Nat → Int32) (l : Nat → Int64) (x : Nat → Int32) (y : Nat → Int64) : pl_X9_feelButton_155 a1 s l x y = pj_bl px_X9_feelButton (pj_rn px_X9_feelButton (pj_as pk_X9_feelButton) (fun _ => none) 60) [(155, .iload_n 1, 1), (156, .iconst 5, 1), (157, .if_icmp .ne 28, 3)] 155 [(0, pj_O (82, 0)), (1, pj_I a1)] [] (s, l, x, y) := rfl
set_option maxRecDepth 100000 in
theorem pq_X9_feelButton_122  (a1 : Int32) (s : Nat → Int32) (l : Nat → Int64) (x : Nat → Int32) (y : Nat → Int64) : pl_X9_feelButton_122 a1 s l x y = pj_bl px_X9_feelButton (pj_rn px_X9_feelButton (pj_as pk_X9_feelButton) (pj_as [(155, pe_X9_feelButton_155 (pl_X9_feelButton_155))]) 60) [(122, .iload_n 1, 1), (123, .iconst 4, 1), (124, .if_icmp .ne 31, 3)] 122 [(0, pj_O (82, 0)), (1, pj_I a1)] [] (s, l, x, y) := rfl
set_option maxRecDepth 100000 in
theorem pq_X9_feelButton_101  (a1 : Int32) (s : Nat → Int32) (l : Nat → Int64) (x : Nat → Int32) (y : Nat → Int64) : pl_X9_feelButton_101 a1 s l x y = pj_bl px_X9_feelButton (pj_rn px_X9_feelButton (pj_as pk_X9_feelButton) (pj_as [(122, pe_X9_feelButton_122 (pl_X9_feelButton_122))]) 60) [(101, .iload_n 1, 1), (102, .iconst 3, 1), (103, .if_icmp .ne 19, 3)] 101 [(0, pj_O (82, 0)), (1, pj_I a1)] [] (s, l, x, y) := rfl
set_option maxRecDepth 100000 in
theorem pq_X9_feelButton_70  (a1 : Int32) (a3 : Int32) (s : Nat → Int32) (l : Nat → Int64) (x : Nat → Int32) (y : Nat → Int64) : pl_X9_feelButton_70 a1 a3 s l x y = pj_bl px_X9_feelButton (pj_rn px_X9_feelButton (pj_as pk_X9_feelButton) (pj_as [(101, pe_X9_feelButton_101 (pl_X9_feelButton_101))]) 60) [(70, .iload_n 1, 1), (71, .iconst 2, 1), (72, .if_icmp .ne 29, 3)] 70 [(0, pj_O (82, 0)), (1, pj_I a1), (3, pj_I a3)] [] (s, l, x, y) := rfl
set_option maxRecDepth 100000 in
theorem pq_X9_feelButton_m  (a1 : Int32) (a2 : Int32) (a3 : Int32) (s : Nat → Int32) (l : Nat → Int64) (x : Nat → Int32) (y : Nat → Int64) : pf_X9_feelButton a1 a2 a3 s l x y = pj_bl px_X9_feelButton (pj_rn px_X9_feelButton (pj_as pk_X9_feelButton) (pj_as [(20, pe_X9_feelButton_20 (pl_X9_feelButton_20)), (70, pe_X9_feelButton_70 (pl_X9_feelButton_70))]) 60) [(0, .iload_n 1, 1), (1, .ifCond .ne 41, 3)] 0 [(0, pj_O (82, 0)), (1, pj_I a1), (2, pj_I a2), (3, pj_I a3)] [] (s, l, x, y) := rfl
theorem pu_X9_feelButton_20 {lf : pj_Z → mj_M} {a : Unit × pj_Z} (f : Int32 → pj_F (Unit × pj_Z)) (hf : ∀ (b1 : Int32) (s : Nat → Int32) (l : Nat → Int64) (x : Nat → Int32) (y : Nat → Int64), f b1 s l x y = some a → pm_Gd 1 9007 ie_X9_feelButton.1 pm_rU lf 20 [(0, .ref 82)] [.int b1, .ref 82] (s, l, x, y) a) : pm_Ex 1 9007 ie_X9_feelButton.1 pm_rU lf a 20 (pe_X9_feelButton_20 f) := by
  intro lv st z hd h
  obtain ⟨g0, h⟩ := pj_xr_inv h
  obtain ⟨b1, r1, e1, h⟩ := pj_pi_inv h
  obtain ⟨r0, e0, h⟩ := pj_pr_inv h
  obtain ⟨e9, h⟩ := pj_pe_inv h
  rw [e1, e0, e9]
  exact mj_wp_sub (mj_sub_cons g0 (mj_sub_nil hd)) (hf _ _ _ _ _ h)
theorem pu_X9_feelButton_36 {lf : pj_Z → mj_M} {a : Unit × pj_Z} (f : Int32 → pj_F (Unit × pj_Z)) (hf : ∀ (b1 : Int32) (s : Nat → Int32) (l : Nat → Int64) (x : Nat → Int32) (y : Nat → Int64), f b1 s l x y = some a → pm_Gd 1 9007 ie_X9_feelButton.1 pm_rU lf 36 [] [.int b1, .ref 82] (s, l, x, y) a) : pm_Ex 1 9007 ie_X9_feelButton.1 pm_rU lf a 36 (pe_X9_feelButton_36 f) := by
  intro lv st z hd h
  obtain ⟨b1, r1, e1, h⟩ := pj_pi_inv h
  obtain ⟨r0, e0, h⟩ := pj_pr_inv h
  obtain ⟨e9, h⟩ := pj_pe_inv h
  rw [e1, e0, e9]
  exact mj_wp_sub (mj_sub_nil hd) (hf _ _ _ _ _ h)
theorem pu_X9_feelButton_70 {lf : pj_Z → mj_M} {a : Unit × pj_Z} (f : Int32 → Int32 → pj_F (Unit × pj_Z)) (hf : ∀ (a1 : Int32) (a3 : Int32) (s : Nat → Int32) (l : Nat → Int64) (x : Nat → Int32) (y : Nat → Int64), f a1 a3 s l x y = some a → pm_Gd 1 9007 ie_X9_feelButton.1 pm_rU lf 70 [(0, .ref 82), (1, .int a1), (3, .int a3)] [] (s, l, x, y) a) : pm_Ex 1 9007 ie_X9_feelButton.1 pm_rU lf a 70 (pe_X9_feelButton_70 f) := by
  intro lv st z hd h
  obtain ⟨g0, h⟩ := pj_xr_inv h
  obtain ⟨a1, g1, h⟩ := pj_xi_inv h
  obtain ⟨a3, g3, h⟩ := pj_xi_inv h
  obtain ⟨e9, h⟩ := pj_pe_inv h
  rw [e9]
  exact mj_wp_sub (mj_sub_cons g0 (mj_sub_cons g1 (mj_sub_cons g3 (mj_sub_nil hd)))) (hf _ _ _ _ _ _ h)
theorem pu_X9_feelButton_101 {lf : pj_Z → mj_M} {a : Unit × pj_Z} (f : Int32 → pj_F (Unit × pj_Z)) (hf : ∀ (a1 : Int32) (s : Nat → Int32) (l : Nat → Int64) (x : Nat → Int32) (y : Nat → Int64), f a1 s l x y = some a → pm_Gd 1 9007 ie_X9_feelButton.1 pm_rU lf 101 [(0, .ref 82), (1, .int a1)] [] (s, l, x, y) a) : pm_Ex 1 9007 ie_X9_feelButton.1 pm_rU lf a 101 (pe_X9_feelButton_101 f) := by
  intro lv st z hd h
  obtain ⟨g0, h⟩ := pj_xr_inv h
  obtain ⟨a1, g1, h⟩ := pj_xi_inv h
  obtain ⟨e9, h⟩ := pj_pe_inv h
  rw [e9]
  exact mj_wp_sub (mj_sub_cons g0 (mj_sub_cons g1 (mj_sub_nil hd))) (hf _ _ _ _ _ h)
theorem pu_X9_feelButton_122 {lf : pj_Z → mj_M} {a : Unit × pj_Z} (f : Int32 → pj_F (Unit × pj_Z)) (hf : ∀ (a1 : Int32) (s : Nat → Int32) (l : Nat → Int64) (x : Nat → Int32) (y : Nat → Int64), f a1 s l x y = some a → pm_Gd 1 9007 ie_X9_feelButton.1 pm_rU lf 122 [(0, .ref 82), (1, .int a1)] [] (s, l, x, y) a) : pm_Ex 1 9007 ie_X9_feelButton.1 pm_rU lf a 122 (pe_X9_feelButton_122 f) := by
  intro lv st z hd h
  obtain ⟨g0, h⟩ := pj_xr_inv h
  obtain ⟨a1, g1, h⟩ := pj_xi_inv h
  obtain ⟨e9, h⟩ := pj_pe_inv h
  rw [e9]
  exact mj_wp_sub (mj_sub_cons g0 (mj_sub_cons g1 (mj_sub_nil hd))) (hf _ _ _ _ _ h)
theorem pu_X9_feelButton_155 {lf : pj_Z → mj_M} {a : Unit × pj_Z} (f : Int32 → pj_F (Unit × pj_Z)) (hf : ∀ (a1 : Int32) (s : Nat → Int32) (l : Nat → Int64) (x : Nat → Int32) (y : Nat → Int64), f a1 s l x y = some a → pm_Gd 1 9007 ie_X9_feelButton.1 pm_rU lf 155 [(0, .ref 82), (1, .int a1)] [] (s, l, x, y) a) : pm_Ex 1 9007 ie_X9_feelButton.1 pm_rU lf a 155 (pe_X9_feelButton_155 f) := by
  intro lv st z hd h
  obtain ⟨g0, h⟩ := pj_xr_inv h
  obtain ⟨a1, g1, h⟩ := pj_xi_inv h
  obtain ⟨e9, h⟩ := pj_pe_inv h
  rw [e9]
  exact mj_wp_sub (mj_sub_cons g0 (mj_sub_cons g1 (mj_sub_nil hd))) (hf _ _ _ _ _ h)
set_option maxRecDepth 100000 in
theorem pz_X9_feelButton {lf : pj_Z → mj_M} (hT : pj_Lt pj_TC lf) : pj_Cok ic_P (mj_R ic_P 1) 9007 ie_X9_feelButton.1 (pm_OK lf pm_rU) lf px_X9_feelButton := by
  exact pm_cok (c := px_X9_feelButton) (pm_part hT (pj_as_all (p := fun b e => pj_TC b = some e) (List.forall_mem_cons.mpr ⟨rfl, (fun _ h => by cases h)⟩))) (pm_in_ok (L := [(49, 9, 12, 0, false), (52, 9, 13, 0, false)]) (f := mj_pF ic_P 9007) (by decide +kernel)) (fun _ _ h => by cases h) (fun _ _ h => by cases h) (fun _ _ h => by cases h) rfl rfl ⟨by decide, rfl⟩ pm_mU (pj_as_all (p := pm_Cl 1 9007 ie_X9_feelButton.1 lf (pm_OK lf pm_rU)) (List.forall_mem_cons.mpr ⟨fun _ _ lv st z K a hK h => pc_X9_hold hT (by decide) (ix := 98) rfl rfl hK h, (List.forall_mem_cons.mpr ⟨fun _ _ lv st z K a hK h => pc_X9_hold hT (by decide) (ix := 98) rfl rfl hK h, (List.forall_mem_cons.mpr ⟨fun _ _ lv st z K a hK h => pc_J9_min_7cf53 (pm_none hT) (by decide) (ix := 67) rfl rfl hK h, (List.forall_mem_cons.mpr ⟨fun _ _ lv st z K a hK h => pc_J9_max_7cf53 (pm_none hT) (by decide) (ix := 95) rfl rfl hK h, (fun _ h => by cases h)⟩)⟩)⟩)⟩)) (fun _ h => by cases h)
set_option maxRecDepth 100000 in
theorem pb_X9_feelButton : pm_bks ie_X9_feelButton.1.2.2.2.2 pk_X9_feelButton = true := by decide +kernel
set_option maxRecDepth 100000 in
theorem pg_X9_feelButton_36 {lf : pj_Z → mj_M} (hT : pj_Lt pj_TC lf) : ∀ (b1 : Int32) (s : Nat → Int32) (l : Nat → Int64) (x : Nat → Int32) (y : Nat → Int64) (a : Unit × pj_Z), pl_X9_feelButton_36 b1 s l x y = some a → pm_Gd 1 9007 ie_X9_feelButton.1 pm_rU lf 36 [] [.int b1, .ref 82] (s, l, x, y) a := by
  intro b1 s l x y a h
  exact pm_run ((pq_X9_feelButton_36  b1 s l x y).symm.trans h) (pz_X9_feelButton hT) (pm_bks_ok pb_X9_feelButton) (pm_bks_ok pb_X9_feelButton _ _ rfl) (pm_ndb_ok rfl) (fun _ _ h => by cases h)
set_option maxRecDepth 100000 in
theorem pg_X9_feelButton_20 {lf : pj_Z → mj_M} (hT : pj_Lt pj_TC lf) : ∀ (b1 : Int32) (s : Nat → Int32) (l : Nat → Int64) (x : Nat → Int32) (y : Nat → Int64) (a : Unit × pj_Z), pl_X9_feelButton_20 b1 s l x y = some a → pm_Gd 1 9007 ie_X9_feelButton.1 pm_rU lf 20 [(0, .ref 82)] [.int b1, .ref 82] (s, l, x, y) a := by
  intro b1 s l x y a h
  exact pm_run ((pq_X9_feelButton_20  b1 s l x y).symm.trans h) (pz_X9_feelButton hT) (pm_bks_ok pb_X9_feelButton) (pm_bks_ok pb_X9_feelButton _ _ rfl) (pm_ndb_ok rfl) (pj_as_all (p := pm_Ex 1 9007 ie_X9_feelButton.1 pm_rU lf a) (List.forall_mem_cons.mpr ⟨pu_X9_feelButton_36 _ (fun c0 s l x y h => pg_X9_feelButton_36 hT c0 s l x y _ h), (fun _ h => by cases h)⟩))
set_option maxRecDepth 100000 in
theorem pg_X9_feelButton_155 {lf : pj_Z → mj_M} (hT : pj_Lt pj_TC lf) : ∀ (a1 : Int32) (s : Nat → Int32) (l : Nat → Int64) (x : Nat → Int32) (y : Nat → Int64) (a : Unit × pj_Z), pl_X9_feelButton_155 a1 s l x y = some a → pm_Gd 1 9007 ie_X9_feelButton.1 pm_rU lf 155 [(0, .ref 82), (1, .int a1)] [] (s, l, x, y) a := by
  intro a1 s l x y a h
  exact pm_run ((pq_X9_feelButton_155  a1 s l x y).symm.trans h) (pz_X9_feelButton hT) (pm_bks_ok pb_X9_feelButton) (pm_bks_ok pb_X9_feelButton _ _ rfl) (pm_ndb_ok rfl) (fun _ _ h => by cases h)
set_option maxRecDepth 100000 in
theorem pg_X9_feelButton_122 {lf : pj_Z → mj_M} (hT : pj_Lt pj_TC lf) : ∀ (a1 : Int32) (s : Nat → Int32) (l : Nat → Int64) (x : Nat → Int32) (y : Nat → Int64) (a : Unit × pj_Z), pl_X9_feelButton_122 a1 s l x y = some a → pm_Gd 1 9007 ie_X9_feelButton.1 pm_rU lf 122 [(0, .ref 82), (1, .int a1)] [] (s, l, x, y) a := by
  intro a1 s l x y a h
  exact pm_run ((pq_X9_feelButton_122  a1 s l x y).symm.trans h) (pz_X9_feelButton hT) (pm_bks_ok pb_X9_feelButton) (pm_bks_ok pb_X9_feelButton _ _ rfl) (pm_ndb_ok rfl) (pj_as_all (p := pm_Ex 1 9007 ie_X9_feelButton.1 pm_rU lf a) (List.forall_mem_cons.mpr ⟨pu_X9_feelButton_155 _ (fun c0 s l x y h => pg_X9_feelButton_155 hT c0 s l x y _ h), (fun _ h => by cases h)⟩))
set_option maxRecDepth 100000 in
theorem pg_X9_feelButton_101 {lf : pj_Z → mj_M} (hT : pj_Lt pj_TC lf) : ∀ (a1 : Int32) (s : Nat → Int32) (l : Nat → Int64) (x : Nat → Int32) (y : Nat → Int64) (a : Unit × pj_Z), pl_X9_feelButton_101 a1 s l x y = some a → pm_Gd 1 9007 ie_X9_feelButton.1 pm_rU lf 101 [(0, .ref 82), (1, .int a1)] [] (s, l, x, y) a := by
  intro a1 s l x y a h
  exact pm_run ((pq_X9_feelButton_101  a1 s l x y).symm.trans h) (pz_X9_feelButton hT) (pm_bks_ok pb_X9_feelButton) (pm_bks_ok pb_X9_feelButton _ _ rfl) (pm_ndb_ok rfl) (pj_as_all (p := pm_Ex 1 9007 ie_X9_feelButton.1 pm_rU lf a) (List.forall_mem_cons.mpr ⟨pu_X9_feelButton_122 _ (fun c0 s l x y h => pg_X9_feelButton_122 hT c0 s l x y _ h), (fun _ h => by cases h)⟩))
set_option maxRecDepth 100000 in
theorem pg_X9_feelButton_70 {lf : pj_Z → mj_M} (hT : pj_Lt pj_TC lf) : ∀ (a1 : Int32) (a3 : Int32) (s : Nat → Int32) (l : Nat → Int64) (x : Nat → Int32) (y : Nat → Int64) (a : Unit × pj_Z), pl_X9_feelButton_70 a1 a3 s l x y = some a → pm_Gd 1 9007 ie_X9_feelButton.1 pm_rU lf 70 [(0, .ref 82), (1, .int a1), (3, .int a3)] [] (s, l, x, y) a := by
  intro a1 a3 s l x y a h
  exact pm_run ((pq_X9_feelButton_70  a1 a3 s l x y).symm.trans h) (pz_X9_feelButton hT) (pm_bks_ok pb_X9_feelButton) (pm_bks_ok pb_X9_feelButton _ _ rfl) (pm_ndb_ok rfl) (pj_as_all (p := pm_Ex 1 9007 ie_X9_feelButton.1 pm_rU lf a) (List.forall_mem_cons.mpr ⟨pu_X9_feelButton_101 _ (fun c0 s l x y h => pg_X9_feelButton_101 hT c0 s l x y _ h), (fun _ h => by cases h)⟩))
set_option maxRecDepth 100000 in
theorem pm_X9_feelButton {lf : pj_Z → mj_M} (hT : pj_Lt pj_TC lf) (a1 : Int32) (a2 : Int32) (a3 : Int32) (s : Nat → Int32) (l : Nat → Int64) (x : Nat → Int32) (y : Nat → Int64) (a : Unit × pj_Z) (h : pf_X9_feelButton a1 a2 a3 s l x y = some a) : mj_R ic_P 2 9007 [.ref 82, .int a1, .int a2, .int a3] (lf (s, l, x, y)) (pm_rU a.1) (lf a.2) := by
  refine pm_main (Y := ie_X9_feelButton.1) rfl (Nat.le_of_ble_eq_true rfl) ?_
  exact pm_run ((pq_X9_feelButton_m a1 a2 a3 s l x y).symm.trans h) (pz_X9_feelButton hT) (pm_bks_ok pb_X9_feelButton) (pm_bks_ok pb_X9_feelButton _ _ rfl) (pm_ndb_ok rfl) (pj_as_all (p := pm_Ex 1 9007 ie_X9_feelButton.1 pm_rU lf a) (List.forall_mem_cons.mpr ⟨pu_X9_feelButton_20 _ (fun c0 s l x y h => pg_X9_feelButton_20 hT c0 s l x y _ h), (List.forall_mem_cons.mpr ⟨pu_X9_feelButton_70 _ (fun c0 c1 s l x y h => pg_X9_feelButton_70 hT c0 c1 s l x y _ h), (fun _ h => by cases h)⟩)⟩))
abbrev ph_X9_feelButton {A : Type} : List pj_V → pj_Z → (List pj_V → pj_Z → Option A) → Option A := fun st z K => pj_pi st fun a3 st => pj_pi st fun a2 st => pj_pi st fun a1 st => pj_pr st 82 0 fun st => pj_ps st (pj_b (pf_X9_feelButton a1 a2 a3 z.1 z.2.1 z.2.2.1 z.2.2.2) fun r s l x y => K st (s, l, x, y))
set_option maxRecDepth 100000 in
theorem pc_X9_feelButton {A : Type} {OK : A → Option Value → mj_M → Prop} {d j pc ix : Nat} {Y : mj_Y} {lf : pj_Z → mj_M} (hT : pj_Lt pj_TC lf) (hd : 2 ≤ d) (hl : mj_lk Y.2.2.2.2 pc = some (.invokevirtual ix, 3)) (hg : mj_pG ic_P j ix = some (9007, 3, some 9)) {lv : List (Nat × Value)} {st : List pj_V} {z : pj_Z} {K : List pj_V → pj_Z → Option A} {a : A} (hK : ∀ st z, K st z = some a → pj_Gd ic_P (mj_R ic_P d) j Y OK lf (pc + 3) lv (pj_es st) z a) (h : ph_X9_feelButton st z K = some a) : pj_Gd ic_P (mj_R ic_P d) j Y OK lf pc lv (pj_es st) z a := by
  obtain ⟨a3, r3, e3, h⟩ := pj_pi_inv h
  obtain ⟨a2, r2, e2, h⟩ := pj_pi_inv h
  obtain ⟨a1, r1, e1, h⟩ := pj_pi_inv h
  obtain ⟨r0, e0, h⟩ := pj_pr_inv h
  obtain ⟨hs, h⟩ := pj_ps_inv h
  obtain ⟨q, hq, h⟩ := pj_b_inv h
  exact pm_cv (o := 82) hl hg [.int a1, .int a2, .int a3] rfl (by rw [e3, e2, e1, e0]; rfl) hs (by decide) ((hT.2 82 _ rfl).1.2 z 0 (by decide)) (pm_rU q.1) hd (pm_X9_feelButton hT a1 a2 a3 z.1 z.2.1 z.2.2.1 z.2.2.2 q hq) rfl (hK _ _ h)
abbrev pe_X11_press_9 (f : pj_F (Int32 × pj_Z)) : pj_K (Int32 × pj_Z) := fun lv st z => pj_pe st (f  z.1 z.2.1 z.2.2.1 z.2.2.2)
abbrev px_X11_press : pj_C (Int32 × pj_Z) := ((pj_as [(0, 11, 17, 1, 0, true, 0, [(2, 1), (2, 20), (2, 58), (2, 68), (2, 82), (2, 83), (2, 85), (2, 96), (2, 102), (2, 106), (2, 122), (0, 93), (0, 94), (0, 95), (1, 1), (1, 2), (0, 96)]), (82, 9, 18, 1, 0, true, 0, [(0, 71), (0, 72), (1, 12), (0, 73), (0, 74), (0, 75), (0, 76), (0, 77), (0, 78), (0, 79), (0, 80), (1, 13), (0, 81), (0, 82), (0, 83), (0, 84), (0, 85), (0, 86)]), (122, 5, 13, 1, 0, true, 0, [(0, 45), (0, 46), (0, 47), (0, 48), (0, 49), (0, 50), (0, 51), (0, 52), (0, 53), (0, 54), (0, 55), (2, 123), (0, 56)])]), (pj_as [(40, 11, 4, 2, true), (82, 11, 10, 2, true), (90, 11, 12, 0, false), (205, 5, 7, 0, false), (227, 9, 12, 0, false)]), (fun _ => none), (fun _ => none), (fun _ => none), ic_X, 2, 1, pj_mI, (pj_as [(40, ph_X11_mayHold), (43, ph_X9_feelButton)]), fun _ => false)
abbrev pk_X11_press : List (Nat × List (Nat × Instr × Nat)) := [(0, [(0, .iload_n 1, 1), (1, .ifCond .lt 8, 3)]), (4, [(4, .iload_n 1, 1), (5, .iconst 5, 1), (6, .if_icmp .le 13, 3)]), (9, [(9, .new 158, 3)]), (19, [(19, .aload_n 0, 1), (20, .getfield 90, 3), (23, .iconst 1, 1), (24, .if_icmp .ne 22, 3)]), (27, [(27, .aload_n 0, 1), (28, .getfield 40, 3), (31, .iload_n 1, 1), (32, .aload_n 0, 1), (33, .getfield 82, 3), (36, .getfield 205, 3), (39, .aload_n 0, 1), (40, .invokevirtual 219, 3), (43, .invokevirtual 223, 3)]), (46, [(46, .aload_n 0, 1), (47, .getfield 40, 3), (50, .getfield 227, 3), (53, .ireturn, 1)])]
set_option maxRecDepth 100000 in
theorem pq_X11_press_9   (s : Nat → Int32) (l : Nat → Int64) (x : Nat → Int32) (y : Nat → Int64) : pl_X11_press_9 s l x y = pj_bl px_X11_press (pj_rn px_X11_press (pj_as pk_X11_press) (fun _ => none) 60) [(9, .new 158, 3)] 9 [] [] (s, l, x, y) := rfl
set_option maxRecDepth 100000 in
theorem pq_X11_press_m  (a1 : Int32) (s : Nat → Int32) (l : Nat → Int64) (x : Nat → Int32) (y : Nat → Int64) : pf_X11_press a1 s l x y = pj_bl px_X11_press (pj_rn px_X11_press (pj_as pk_X11_press) (pj_as [(9, pe_X11_press_9 (pl_X11_press_9))]) 60) [(0, .iload_n 1, 1), (1, .ifCond .lt 8, 3)] 0 [(0, pj_O (0, 0)), (1, pj_I a1)] [] (s, l, x, y) := rfl
theorem pu_X11_press_9 {lf : pj_Z → mj_M} {a : Int32 × pj_Z} (f : pj_F (Int32 × pj_Z)) (hf : ∀  (s : Nat → Int32) (l : Nat → Int64) (x : Nat → Int32) (y : Nat → Int64), f  s l x y = some a → pm_Gd 2 11014 ie_X11_press.1 pm_rI lf 9 [] [] (s, l, x, y) a) : pm_Ex 2 11014 ie_X11_press.1 pm_rI lf a 9 (pe_X11_press_9 f) := by
  intro lv st z hd h
  obtain ⟨e9, h⟩ := pj_pe_inv h
  rw [e9]
  exact mj_wp_sub (mj_sub_nil hd) (hf  _ _ _ _ h)
set_option maxRecDepth 100000 in
theorem pz_X11_press {lf : pj_Z → mj_M} (hT : pj_Lt pj_TC lf) : pj_Cok ic_P (mj_R ic_P 2) 11014 ie_X11_press.1 (pm_OK lf pm_rI) lf px_X11_press := by
  exact pm_cok (c := px_X11_press) (pm_part hT (pj_as_all (p := fun b e => pj_TC b = some e) (List.forall_mem_cons.mpr ⟨rfl, (List.forall_mem_cons.mpr ⟨rfl, (List.forall_mem_cons.mpr ⟨rfl, (fun _ h => by cases h)⟩)⟩)⟩))) (pm_in_ok (L := [(40, 11, 4, 2, true), (82, 11, 10, 2, true), (90, 11, 12, 0, false), (205, 5, 7, 0, false), (227, 9, 12, 0, false)]) (f := mj_pF ic_P 11014) (by decide +kernel)) (fun _ _ h => by cases h) (fun _ _ h => by cases h) (fun _ _ h => by cases h) rfl rfl ⟨by decide, rfl⟩ pm_mI (pj_as_all (p := pm_Cl 2 11014 ie_X11_press.1 lf (pm_OK lf pm_rI)) (List.forall_mem_cons.mpr ⟨fun _ _ lv st z K a hK h => pc_X11_mayHold hT (by decide) (ix := 219) rfl rfl hK h, (List.forall_mem_cons.mpr ⟨fun _ _ lv st z K a hK h => pc_X9_feelButton hT (by decide) (ix := 223) rfl rfl hK h, (fun _ h => by cases h)⟩)⟩)) (fun _ h => by cases h)
set_option maxRecDepth 100000 in
theorem pb_X11_press : pm_bks ie_X11_press.1.2.2.2.2 pk_X11_press = true := by decide +kernel
set_option maxRecDepth 100000 in
theorem pg_X11_press_9 {lf : pj_Z → mj_M} (hT : pj_Lt pj_TC lf) : ∀  (s : Nat → Int32) (l : Nat → Int64) (x : Nat → Int32) (y : Nat → Int64) (a : Int32 × pj_Z), pl_X11_press_9 s l x y = some a → pm_Gd 2 11014 ie_X11_press.1 pm_rI lf 9 [] [] (s, l, x, y) a := by
  intro  s l x y a h
  exact pm_run ((pq_X11_press_9   s l x y).symm.trans h) (pz_X11_press hT) (pm_bks_ok pb_X11_press) (pm_bks_ok pb_X11_press _ _ rfl) (pm_ndb_ok rfl) (fun _ _ h => by cases h)
set_option maxRecDepth 100000 in
theorem pm_X11_press {lf : pj_Z → mj_M} (hT : pj_Lt pj_TC lf) (a1 : Int32) (s : Nat → Int32) (l : Nat → Int64) (x : Nat → Int32) (y : Nat → Int64) (a : Int32 × pj_Z) (h : pf_X11_press a1 s l x y = some a) : mj_R ic_P 3 11014 [.ref 0, .int a1] (lf (s, l, x, y)) (pm_rI a.1) (lf a.2) := by
  refine pm_main (Y := ie_X11_press.1) rfl (Nat.le_of_ble_eq_true rfl) ?_
  exact pm_run ((pq_X11_press_m a1 s l x y).symm.trans h) (pz_X11_press hT) (pm_bks_ok pb_X11_press) (pm_bks_ok pb_X11_press _ _ rfl) (pm_ndb_ok rfl) (pj_as_all (p := pm_Ex 2 11014 ie_X11_press.1 pm_rI lf a) (List.forall_mem_cons.mpr ⟨pu_X11_press_9 _ (fun  s l x y h => pg_X11_press_9 hT  s l x y _ h), (fun _ h => by cases h)⟩))
abbrev ph_X11_press {A : Type} : List pj_V → pj_Z → (List pj_V → pj_Z → Option A) → Option A := fun st z K => pj_pi st fun a1 st => pj_pr st 0 0 fun st => pj_ps st (pj_b (pf_X11_press a1 z.1 z.2.1 z.2.2.1 z.2.2.2) fun r s l x y => K (pj_I r :: st) (s, l, x, y))
set_option maxRecDepth 100000 in
theorem pc_X11_press {A : Type} {OK : A → Option Value → mj_M → Prop} {d j pc ix : Nat} {Y : mj_Y} {lf : pj_Z → mj_M} (hT : pj_Lt pj_TC lf) (hd : 3 ≤ d) (hl : mj_lk Y.2.2.2.2 pc = some (.invokevirtual ix, 3)) (hg : mj_pG ic_P j ix = some (11014, 1, some 11)) {lv : List (Nat × Value)} {st : List pj_V} {z : pj_Z} {K : List pj_V → pj_Z → Option A} {a : A} (hK : ∀ st z, K st z = some a → pj_Gd ic_P (mj_R ic_P d) j Y OK lf (pc + 3) lv (pj_es st) z a) (h : ph_X11_press st z K = some a) : pj_Gd ic_P (mj_R ic_P d) j Y OK lf pc lv (pj_es st) z a := by
  obtain ⟨a1, r1, e1, h⟩ := pj_pi_inv h
  obtain ⟨r0, e0, h⟩ := pj_pr_inv h
  obtain ⟨hs, h⟩ := pj_ps_inv h
  obtain ⟨q, hq, h⟩ := pj_b_inv h
  exact pm_cv (o := 0) hl hg [.int a1] rfl (by rw [e1, e0]; rfl) hs (by decide) ((hT.2 0 _ rfl).1.2 z 0 (by decide)) (pm_rI q.1) hd (pm_X11_press hT a1 z.1 z.2.1 z.2.2.1 z.2.2.2 q hq) rfl (hK _ _ h)
abbrev pe_X7_isPoint_14 (f : Int32 → Int32 → Int32 → pj_F (Int32 × pj_Z)) : pj_K (Int32 × pj_Z) := fun lv st z => pj_xi lv 1 fun a1 => pj_xi lv 2 fun a2 => pj_pi st fun b0 st => pj_pe st (f a1 a2 b0 z.1 z.2.1 z.2.2.1 z.2.2.2)
abbrev px_X7_isPoint : pj_C (Int32 × pj_Z) := ((fun _ => none), (fun _ => none), (fun _ => none), (fun _ => none), (fun _ => none), ic_X, 4, 2, pj_mI, (fun _ => none), fun _ => false)
abbrev pk_X7_isPoint : List (Nat × List (Nat × Instr × Nat)) := [(0, [(0, .iload_n 0, 1), (1, .bipush 12, 2), (3, .if_icmp .ne 8, 3)]), (6, [(6, .bipush 100, 2), (8, .goto 6, 3)]), (11, [(11, .sipush (-10000), 3)]), (14, [(14, .istore_n 3, 1), (15, .iload_n 1, 1), (16, .sipush (-10000), 3), (19, .if_icmp .lt 26, 3)]), (22, [(22, .iload_n 1, 1), (23, .sipush 30000, 3), (26, .if_icmp .gt 19, 3)]), (29, [(29, .iload_n 2, 1), (30, .iload_n 3, 1), (31, .if_icmp .lt 14, 3)]), (34, [(34, .iload_n 2, 1), (35, .sipush 30000, 3), (38, .if_icmp .gt 7, 3)]), (41, [(41, .iconst 1, 1), (42, .goto 4, 3)]), (45, [(45, .iconst 0, 1)]), (46, [(46, .ireturn, 1)])]
set_option maxRecDepth 100000 in
theorem pq_X7_isPoint_14  (a1 : Int32) (a2 : Int32) (b0 : Int32) (s : Nat → Int32) (l : Nat → Int64) (x : Nat → Int32) (y : Nat → Int64) : pl_X7_isPoint_14 a1 a2 b0 s l x y = pj_bl px_X7_isPoint (pj_rn px_X7_isPoint (pj_as pk_X7_isPoint) (fun _ => none) 60) [(14, .istore_n 3, 1), (15, .iload_n 1, 1), (16, .sipush (-10000), 3), (19, .if_icmp .lt 26, 3)] 14 [(1, pj_I a1), (2, pj_I a2)] [pj_I b0] (s, l, x, y) := rfl
set_option maxRecDepth 100000 in
theorem pq_X7_isPoint_m  (a0 : Int32) (a1 : Int32) (a2 : Int32) (s : Nat → Int32) (l : Nat → Int64) (x : Nat → Int32) (y : Nat → Int64) : pf_X7_isPoint a0 a1 a2 s l x y = pj_bl px_X7_isPoint (pj_rn px_X7_isPoint (pj_as pk_X7_isPoint) (pj_as [(14, pe_X7_isPoint_14 (pl_X7_isPoint_14))]) 60) [(0, .iload_n 0, 1), (1, .bipush 12, 2), (3, .if_icmp .ne 8, 3)] 0 [(0, pj_I a0), (1, pj_I a1), (2, pj_I a2)] [] (s, l, x, y) := rfl
theorem pu_X7_isPoint_14 {lf : pj_Z → mj_M} {a : Int32 × pj_Z} (f : Int32 → Int32 → Int32 → pj_F (Int32 × pj_Z)) (hf : ∀ (a1 : Int32) (a2 : Int32) (b0 : Int32) (s : Nat → Int32) (l : Nat → Int64) (x : Nat → Int32) (y : Nat → Int64), f a1 a2 b0 s l x y = some a → pm_Gd 0 7002 ie_X7_isPoint.1 pm_rI lf 14 [(1, .int a1), (2, .int a2)] [.int b0] (s, l, x, y) a) : pm_Ex 0 7002 ie_X7_isPoint.1 pm_rI lf a 14 (pe_X7_isPoint_14 f) := by
  intro lv st z hd h
  obtain ⟨a1, g1, h⟩ := pj_xi_inv h
  obtain ⟨a2, g2, h⟩ := pj_xi_inv h
  obtain ⟨b0, r0, e0, h⟩ := pj_pi_inv h
  obtain ⟨e9, h⟩ := pj_pe_inv h
  rw [e0, e9]
  exact mj_wp_sub (mj_sub_cons g1 (mj_sub_cons g2 (mj_sub_nil hd))) (hf _ _ _ _ _ _ _ h)
set_option maxRecDepth 100000 in
theorem pz_X7_isPoint {lf : pj_Z → mj_M} (hT : pj_Lt pj_TC lf) : pj_Cok ic_P (mj_R ic_P 0) 7002 ie_X7_isPoint.1 (pm_OK lf pm_rI) lf px_X7_isPoint := by
  exact pm_cok (c := px_X7_isPoint) (pm_none hT) (fun _ _ h => by cases h) (fun _ _ h => by cases h) (fun _ _ h => by cases h) (fun _ _ h => by cases h) rfl rfl ⟨by decide, rfl⟩ pm_mI (fun _ _ h => by cases h) (fun _ h => by cases h)
set_option maxRecDepth 100000 in
theorem pb_X7_isPoint : pm_bks ie_X7_isPoint.1.2.2.2.2 pk_X7_isPoint = true := by decide +kernel
set_option maxRecDepth 100000 in
theorem pg_X7_isPoint_14 {lf : pj_Z → mj_M} (hT : pj_Lt pj_TC lf) : ∀ (a1 : Int32) (a2 : Int32) (b0 : Int32) (s : Nat → Int32) (l : Nat → Int64) (x : Nat → Int32) (y : Nat → Int64) (a : Int32 × pj_Z), pl_X7_isPoint_14 a1 a2 b0 s l x y = some a → pm_Gd 0 7002 ie_X7_isPoint.1 pm_rI lf 14 [(1, .int a1), (2, .int a2)] [.int b0] (s, l, x, y) a := by
  intro a1 a2 b0 s l x y a h
  exact pm_run ((pq_X7_isPoint_14  a1 a2 b0 s l x y).symm.trans h) (pz_X7_isPoint hT) (pm_bks_ok pb_X7_isPoint) (pm_bks_ok pb_X7_isPoint _ _ rfl) (pm_ndb_ok rfl) (fun _ _ h => by cases h)
set_option maxRecDepth 100000 in
theorem pm_X7_isPoint {lf : pj_Z → mj_M} (hT : pj_Lt pj_TC lf) (a0 : Int32) (a1 : Int32) (a2 : Int32) (s : Nat → Int32) (l : Nat → Int64) (x : Nat → Int32) (y : Nat → Int64) (a : Int32 × pj_Z) (h : pf_X7_isPoint a0 a1 a2 s l x y = some a) : mj_R ic_P 1 7002 [.int a0, .int a1, .int a2] (lf (s, l, x, y)) (pm_rI a.1) (lf a.2) := by
  refine pm_main (Y := ie_X7_isPoint.1) rfl (Nat.le_of_ble_eq_true rfl) ?_
  exact pm_run ((pq_X7_isPoint_m a0 a1 a2 s l x y).symm.trans h) (pz_X7_isPoint hT) (pm_bks_ok pb_X7_isPoint) (pm_bks_ok pb_X7_isPoint _ _ rfl) (pm_ndb_ok rfl) (pj_as_all (p := pm_Ex 0 7002 ie_X7_isPoint.1 pm_rI lf a) (List.forall_mem_cons.mpr ⟨pu_X7_isPoint_14 _ (fun c0 c1 c2 s l x y h => pg_X7_isPoint_14 hT c0 c1 c2 s l x y _ h), (fun _ h => by cases h)⟩))
abbrev ph_X7_isPoint {A : Type} : List pj_V → pj_Z → (List pj_V → pj_Z → Option A) → Option A := fun st z K => pj_pi st fun a2 st => pj_pi st fun a1 st => pj_pi st fun a0 st => pj_ps st (pj_b (pf_X7_isPoint a0 a1 a2 z.1 z.2.1 z.2.2.1 z.2.2.2) fun r s l x y => K (pj_I r :: st) (s, l, x, y))
set_option maxRecDepth 100000 in
theorem pc_X7_isPoint {A : Type} {OK : A → Option Value → mj_M → Prop} {d j pc ix : Nat} {Y : mj_Y} {lf : pj_Z → mj_M} (hT : pj_Lt pj_TC lf) (hd : 1 ≤ d) (hl : mj_lk Y.2.2.2.2 pc = some (.invokestatic ix, 3)) (hg : mj_pG ic_P j ix = some (7002, 3, none)) {lv : List (Nat × Value)} {st : List pj_V} {z : pj_Z} {K : List pj_V → pj_Z → Option A} {a : A} (hK : ∀ st z, K st z = some a → pj_Gd ic_P (mj_R ic_P d) j Y OK lf (pc + 3) lv (pj_es st) z a) (h : ph_X7_isPoint st z K = some a) : pj_Gd ic_P (mj_R ic_P d) j Y OK lf pc lv (pj_es st) z a := by
  obtain ⟨a2, r2, e2, h⟩ := pj_pi_inv h
  obtain ⟨a1, r1, e1, h⟩ := pj_pi_inv h
  obtain ⟨a0, r0, e0, h⟩ := pj_pi_inv h
  obtain ⟨hs, h⟩ := pj_ps_inv h
  obtain ⟨q, hq, h⟩ := pj_b_inv h
  exact pm_cs hl hg [.int a0, .int a1, .int a2] rfl (by rw [e2, e1, e0]; rfl) hs (pm_rI q.1) hd (pm_X7_isPoint hT a0 a1 a2 z.1 z.2.1 z.2.2.1 z.2.2.2 q hq) rfl (hK _ _ h)

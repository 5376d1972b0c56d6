/-! METHODS 11, printed by gen_meth.py -/
abbrev px_X7_addPoint : pj_C (Unit × pj_Z) := ((pj_as [(20, 7, 11, 1, 0, true, 0, [(2, 21), (2, 35), (2, 49), (2, 50), (2, 51), (2, 52), (2, 53), (2, 54), (2, 55), (2, 56), (2, 57)]), (21, 103, 13, 1, 0, true, 22, []), (22, 100, 8, 13, 1, true, 26000, []), (35, 103, 13, 1, 0, true, 36, []), (36, 100, 8, 13, 1, true, 27000, []), (49, 100, 13, 1, 0, true, 28000, [])]), (pj_as [(13, 7, 0, 2, true), (16, 7, 1, 2, true), (19, 7, 2, 2, true)]), (fun _ => none), (fun _ => none), (fun _ => none), ic_X, 5, 0, pj_mU, (fun _ => none), fun _ => false)
abbrev pk_X7_addPoint : List (Nat × List (Nat × Instr × Nat)) := [(0, [(0, .aload_n 0, 1), (1, .getfield 19, 3), (4, .iload_n 1, 1), (5, .iaload, 1), (6, .istore 4, 2), (8, .iload 4, 2), (10, .bipush 8, 2), (12, .if_icmp .ge 33, 3)]), (15, [(15, .aload_n 0, 1), (16, .getfield 13, 3), (19, .iload_n 1, 1), (20, .aaload, 1), (21, .iload 4, 2), (23, .iload_n 2, 1), (24, .iastore, 1), (25, .aload_n 0, 1), (26, .getfield 16, 3), (29, .iload_n 1, 1), (30, .aaload, 1), (31, .iload 4, 2), (33, .iload_n 3, 1), (34, .iastore, 1), (35, .aload_n 0, 1), (36, .getfield 19, 3), (39, .iload_n 1, 1), (40, .iload 4, 2), (42, .iconst 1, 1), (43, .iadd, 1), (44, .iastore, 1)]), (45, [(45, .return_, 1)])]
set_option maxRecDepth 100000 in
theorem pq_X7_addPoint_m  (a1 : Int32) (a2 : Int32) (a3 : Int32) (s : Nat → Int32) (l : Nat → Int64) (x : Nat → Int32) (y : Nat → Int64) : pf_X7_addPoint a1 a2 a3 s l x y = pj_bl px_X7_addPoint (pj_rn px_X7_addPoint (pj_as pk_X7_addPoint) (fun _ => none) 60) [(0, .aload_n 0, 1), (1, .getfield 19, 3), (4, .iload_n 1, 1), (5, .iaload, 1), (6, .istore 4, 2), (8, .iload 4, 2), (10, .bipush 8, 2), (12, .if_icmp .ge 33, 3)] 0 [(0, pj_O (20, 0)), (1, pj_I a1), (2, pj_I a2), (3, pj_I a3)] [] (s, l, x, y) := rfl
set_option maxRecDepth 100000 in
theorem pz_X7_addPoint {lf : pj_Z → mj_M} (hT : pj_Lt pj_TC lf) : pj_Cok ic_P (mj_R ic_P 0) 7004 ie_X7_addPoint.1 (pm_OK lf pm_rU) lf px_X7_addPoint := by
  exact pm_cok (c := px_X7_addPoint) (pm_part hT (pj_as_all (p := fun b e => pj_TC b = some e) (List.forall_mem_cons.mpr ⟨rfl, (List.forall_mem_cons.mpr ⟨rfl, (List.forall_mem_cons.mpr ⟨rfl, (List.forall_mem_cons.mpr ⟨rfl, (List.forall_mem_cons.mpr ⟨rfl, (List.forall_mem_cons.mpr ⟨rfl, (fun _ h => by cases h)⟩)⟩)⟩)⟩)⟩)⟩))) (pm_in_ok (L := [(13, 7, 0, 2, true), (16, 7, 1, 2, true), (19, 7, 2, 2, true)]) (f := mj_pF ic_P 7004) (by decide +kernel)) (fun _ _ h => by cases h) (fun _ _ h => by cases h) (fun _ _ h => by cases h) rfl rfl ⟨by decide, rfl⟩ pm_mU (fun _ _ h => by cases h) (fun _ h => by cases h)
set_option maxRecDepth 100000 in
theorem pb_X7_addPoint : pm_bks ie_X7_addPoint.1.2.2.2.2 pk_X7_addPoint = true := by decide +kernel
set_option maxRecDepth 100000 in
theorem pm_X7_addPoint {lf : pj_Z → mj_M} (hT : pj_Lt pj_TC lf) (a1 : Int32) (a2 : Int32) (a3 : Int32) (s : Nat → Int32) (l : Nat → Int64) (x : Nat → Int32) (y : Nat → Int64) (a : Unit × pj_Z) (h : pf_X7_addPoint a1 a2 a3 s l x y = some a) : mj_R ic_P 1 7004 [.ref 20, .int a1, .int a2, .int a3] (lf (s, l, x, y)) (pm_rU a.1) (lf a.2) := by
  refine pm_main (Y := ie_X7_addPoint.1) rfl (Nat.le_of_ble_eq_true rfl) ?_
  exact pm_run ((pq_X7_addPoint_m a1 a2 a3 s l x y).symm.trans h) (pz_X7_addPoint hT) (pm_bks_ok pb_X7_addPoint) (pm_bks_ok pb_X7_addPoint _ _ rfl) (pm_ndb_ok rfl) (fun _ _ h => by cases h)
abbrev ph_X7_addPoint {A : Type} : List pj_V → pj_Z → (List pj_V → pj_Z → Option A) → Option A := fun st z K => pj_pi st fun a3 st => pj_pi st fun a2 st => pj_pi st fun a1 st => pj_pr st 20 0 fun st => pj_ps st (pj_b (pf_X7_addPoint a1 a2 a3 z.1 z.2.1 z.2.2.1 z.2.2.2) fun r s l x y => K st (s, l, x, y))
set_option maxRecDepth 100000 in
theorem pc_X7_addPoint {A : Type} {OK : A → Option Value → mj_M → Prop} {d j pc ix : Nat} {Y : mj_Y} {lf : pj_Z → mj_M} (hT : pj_Lt pj_TC lf) (hd : 1 ≤ d) (hl : mj_lk Y.2.2.2.2 pc = some (.invokevirtual ix, 3)) (hg : mj_pG ic_P j ix = some (7004, 3, some 7)) {lv : List (Nat × Value)} {st : List pj_V} {z : pj_Z} {K : List pj_V → pj_Z → Option A} {a : A} (hK : ∀ st z, K st z = some a → pj_Gd ic_P (mj_R ic_P d) j Y OK lf (pc + 3) lv (pj_es st) z a) (h : ph_X7_addPoint st z K = some a) : pj_Gd ic_P (mj_R ic_P d) j Y OK lf pc lv (pj_es st) z a := by
  obtain ⟨a3, r3, e3, h⟩ := pj_pi_inv h
  obtain ⟨a2, r2, e2, h⟩ := pj_pi_inv h
  obtain ⟨a1, r1, e1, h⟩ := pj_pi_inv h
  obtain ⟨r0, e0, h⟩ := pj_pr_inv h
  obtain ⟨hs, h⟩ := pj_ps_inv h
  obtain ⟨q, hq, h⟩ := pj_b_inv h
  exact pm_cv (o := 20) hl hg [.int a1, .int a2, .int a3] rfl (by rw [e3, e2, e1, e0]; rfl) hs (by decide) ((hT.2 20 _ rfl).1.2 z 0 (by decide)) (pm_rU q.1) hd (pm_X7_addPoint hT a1 a2 a3 z.1 z.2.1 z.2.2.1 z.2.2.2 q hq) rfl (hK _ _ h)
abbrev pe_X11_line_10 (f : pj_F (Unit × pj_Z)) : pj_K (Unit × pj_Z) := fun lv st z => pj_pe st (f  z.1 z.2.1 z.2.2.1 z.2.2.2)
abbrev pe_X11_line_46 (f : pj_F (Unit × pj_Z)) : pj_K (Unit × pj_Z) := fun lv st z => pj_pe st (f  z.1 z.2.1 z.2.2.1 z.2.2.2)
abbrev px_X11_line : pj_C (Unit × pj_Z) := ((pj_as [(0, 11, 17, 1, 0, true, 0, [(2, 1), (2, 20), (2, 58), (2, 68), (2, 82), (2, 83), (2, 85), (2, 96), (2, 102), (2, 106), (2, 122), (0, 93), (0, 94), (0, 95), (1, 1), (1, 2), (0, 96)]), (20, 7, 11, 1, 0, true, 0, [(2, 21), (2, 35), (2, 49), (2, 50), (2, 51), (2, 52), (2, 53), (2, 54), (2, 55), (2, 56), (2, 57)]), (49, 100, 13, 1, 0, true, 28000, [])]), (pj_as [(19, 11, 1, 2, true), (90, 11, 12, 0, false), (238, 7, 2, 2, true)]), (fun _ => none), (fun _ => none), (fun _ => none), ic_X, 6, 0, pj_mU, (pj_as [(23, ph_X7_isPoint), (34, ph_X7_isPoint), (90, ph_X7_addPoint), (102, ph_X7_addPoint)]), fun _ => false)
abbrev pk_X11_line : List (Nat × List (Nat × Instr × Nat)) := [(0, [(0, .iload_n 1, 1), (1, .ifCond .lt 9, 3)]), (4, [(4, .iload_n 1, 1), (5, .bipush 13, 2), (7, .if_icmp .lt 13, 3)]), (10, [(10, .new 158, 3)]), (20, [(20, .iload_n 1, 1), (21, .iload_n 2, 1), (22, .iload_n 3, 1), (23, .invokestatic 232, 3), (26, .ifCond .eq 20, 3)]), (29, [(29, .iload_n 1, 1), (30, .iload 4, 2), (32, .iload 5, 2), (34, .invokestatic 232, 3), (37, .ifCond .eq 9, 3)]), (40, [(40, .iload_n 2, 1), (41, .iload 4, 2), (43, .if_icmp .lt 13, 3)]), (46, [(46, .new 107, 3)]), (56, [(56, .aload_n 0, 1), (57, .getfield 90, 3), (60, .ifCond .eq 13, 3)]), (63, [(63, .new 189, 3)]), (73, [(73, .aload_n 0, 1), (74, .getfield 19, 3), (77, .getfield 238, 3), (80, .iload_n 1, 1), (81, .iconst 0, 1), (82, .iastore, 1), (83, .aload_n 0, 1), (84, .getfield 19, 3), (87, .iload_n 1, 1), (88, .iload_n 2, 1), (89, .iload_n 3, 1), (90, .invokevirtual 241, 3), (93, .aload_n 0, 1), (94, .getfield 19, 3), (97, .iload_n 1, 1), (98, .iload 4, 2), (100, .iload 5, 2), (102, .invokevirtual 241, 3), (105, .return_, 1)])]
set_option maxRecDepth 100000 in
theorem pq_X11_line_10   (s : Nat → Int32) (l : Nat → Int64) (x : Nat → Int32) (y : Nat → Int64) : pl_X11_line_10 s l x y = pj_bl px_X11_line (pj_rn px_X11_line (pj_as pk_X11_line) (fun _ => none) 60) [(10, .new 158, 3)] 10 [] [] (s, l, x, y) := rfl
set_option maxRecDepth 100000 in
theorem pq_X11_line_46   (s : Nat → Int32) (l : Nat → Int64) (x : Nat → Int32) (y : Nat → Int64) : pl_X11_line_46 s l x y = pj_bl px_X11_line (pj_rn px_X11_line (pj_as pk_X11_line) (fun _ => none) 60) [(46, .new 107, 3)] 46 [] [] (s, l, x, y) := rfl
set_option maxRecDepth 100000 in
theorem pq_X11_line_m  (a1 : Int32) (a2 : Int32) (a3 : Int32) (a4 : Int32) (a5 : Int32) (s : Nat → Int32) (l : Nat → Int64) (x : Nat → Int32) (y : Nat → Int64) : pf_X11_line a1 a2 a3 a4 a5 s l x y = pj_bl px_X11_line (pj_rn px_X11_line (pj_as pk_X11_line) (pj_as [(10, pe_X11_line_10 (pl_X11_line_10)), (46, pe_X11_line_46 (pl_X11_line_46))]) 60) [(0, .iload_n 1, 1), (1, .ifCond .lt 9, 3)] 0 [(0, pj_O (0, 0)), (1, pj_I a1), (2, pj_I a2), (3, pj_I a3), (4, pj_I a4), (5, pj_I a5)] [] (s, l, x, y) := rfl
theorem pu_X11_line_10 {lf : pj_Z → mj_M} {a : Unit × pj_Z} (f : pj_F (Unit × pj_Z)) (hf : ∀  (s : Nat → Int32) (l : Nat → Int64) (x : Nat → Int32) (y : Nat → Int64), f  s l x y = some a → pm_Gd 1 11015 ie_X11_line.1 pm_rU lf 10 [] [] (s, l, x, y) a) : pm_Ex 1 11015 ie_X11_line.1 pm_rU lf a 10 (pe_X11_line_10 f) := by
  intro lv st z hd h
  obtain ⟨e9, h⟩ := pj_pe_inv h
  rw [e9]
  exact mj_wp_sub (mj_sub_nil hd) (hf  _ _ _ _ h)
theorem pu_X11_line_46 {lf : pj_Z → mj_M} {a : Unit × pj_Z} (f : pj_F (Unit × pj_Z)) (hf : ∀  (s : Nat → Int32) (l : Nat → Int64) (x : Nat → Int32) (y : Nat → Int64), f  s l x y = some a → pm_Gd 1 11015 ie_X11_line.1 pm_rU lf 46 [] [] (s, l, x, y) a) : pm_Ex 1 11015 ie_X11_line.1 pm_rU lf a 46 (pe_X11_line_46 f) := by
  intro lv st z hd h
  obtain ⟨e9, h⟩ := pj_pe_inv h
  rw [e9]
  exact mj_wp_sub (mj_sub_nil hd) (hf  _ _ _ _ h)
set_option maxRecDepth 100000 in
theorem pz_X11_line {lf : pj_Z → mj_M} (hT : pj_Lt pj_TC lf) : pj_Cok ic_P (mj_R ic_P 1) 11015 ie_X11_line.1 (pm_OK lf pm_rU) lf px_X11_line := by
  exact pm_cok (c := px_X11_line) (pm_part hT (pj_as_all (p := fun b e => pj_TC b = some e) (List.forall_mem_cons.mpr ⟨rfl, (List.forall_mem_cons.mpr ⟨rfl, (List.forall_mem_cons.mpr ⟨rfl, (fun _ h => by cases h)⟩)⟩)⟩))) (pm_in_ok (L := [(19, 11, 1, 2, true), (90, 11, 12, 0, false), (238, 7, 2, 2, true)]) (f := mj_pF ic_P 11015) (by decide +kernel)) (fun _ _ h => by cases h) (fun _ _ h => by cases h) (fun _ _ h => by cases h) rfl rfl ⟨by decide, rfl⟩ pm_mU (pj_as_all (p := pm_Cl 1 11015 ie_X11_line.1 lf (pm_OK lf pm_rU)) (List.forall_mem_cons.mpr ⟨fun _ _ lv st z K a hK h => pc_X7_isPoint hT (by decide) (ix := 232) rfl rfl hK h, (List.forall_mem_cons.mpr ⟨fun _ _ lv st z K a hK h => pc_X7_isPoint hT (by decide) (ix := 232) rfl rfl hK h, (List.forall_mem_cons.mpr ⟨fun _ _ lv st z K a hK h => pc_X7_addPoint hT (by decide) (ix := 241) rfl rfl hK h, (List.forall_mem_cons.mpr ⟨fun _ _ lv st z K a hK h => pc_X7_addPoint hT (by decide) (ix := 241) rfl rfl hK h, (fun _ h => by cases h)⟩)⟩)⟩)⟩)) (fun _ h => by cases h)
set_option maxRecDepth 100000 in
theorem pb_X11_line : pm_bks ie_X11_line.1.2.2.2.2 pk_X11_line = true := by decide +kernel
set_option maxRecDepth 100000 in
theorem pg_X11_line_10 {lf : pj_Z → mj_M} (hT : pj_Lt pj_TC lf) : ∀  (s : Nat → Int32) (l : Nat → Int64) (x : Nat → Int32) (y : Nat → Int64) (a : Unit × pj_Z), pl_X11_line_10 s l x y = some a → pm_Gd 1 11015 ie_X11_line.1 pm_rU lf 10 [] [] (s, l, x, y) a := by
  intro  s l x y a h
  exact pm_run ((pq_X11_line_10   s l x y).symm.trans h) (pz_X11_line hT) (pm_bks_ok pb_X11_line) (pm_bks_ok pb_X11_line _ _ rfl) (pm_ndb_ok rfl) (fun _ _ h => by cases h)
set_option maxRecDepth 100000 in
theorem pg_X11_line_46 {lf : pj_Z → mj_M} (hT : pj_Lt pj_TC lf) : ∀  (s : Nat → Int32) (l : Nat → Int64) (x : Nat → Int32) (y : Nat → Int64) (a : Unit × pj_Z), pl_X11_line_46 s l x y = some a → pm_Gd 1 11015 ie_X11_line.1 pm_rU lf 46 [] [] (s, l, x, y) a := by
  intro  s l x y a h
  exact pm_run ((pq_X11_line_46   s l x y).symm.trans h) (pz_X11_line hT) (pm_bks_ok pb_X11_line) (pm_bks_ok pb_X11_line _ _ rfl) (pm_ndb_ok rfl) (fun _ _ h => by cases h)
set_option maxRecDepth 100000 in
theorem pm_X11_line {lf : pj_Z → mj_M} (hT : pj_Lt pj_TC lf) (a1 : Int32) (a2 : Int32) (a3 : Int32) (a4 : Int32) (a5 : Int32) (s : Nat → Int32) (l : Nat → Int64) (x : Nat → Int32) (y : Nat → Int64) (a : Unit × pj_Z) (h : pf_X11_line a1 a2 a3 a4 a5 s l x y = some a) : mj_R ic_P 2 11015 [.ref 0, .int a1, .int a2, .int a3, .int a4, .int a5] (lf (s, l, x, y)) (pm_rU a.1) (lf a.2) := by
  refine pm_main (Y := ie_X11_line.1) rfl (Nat.le_of_ble_eq_true rfl) ?_
  exact pm_run ((pq_X11_line_m a1 a2 a3 a4 a5 s l x y).symm.trans h) (pz_X11_line hT) (pm_bks_ok pb_X11_line) (pm_bks_ok pb_X11_line _ _ rfl) (pm_ndb_ok rfl) (pj_as_all (p := pm_Ex 1 11015 ie_X11_line.1 pm_rU lf a) (List.forall_mem_cons.mpr ⟨pu_X11_line_10 _ (fun  s l x y h => pg_X11_line_10 hT  s l x y _ h), (List.forall_mem_cons.mpr ⟨pu_X11_line_46 _ (fun  s l x y h => pg_X11_line_46 hT  s l x y _ h), (fun _ h => by cases h)⟩)⟩))
abbrev ph_X11_line {A : Type} : List pj_V → pj_Z → (List pj_V → pj_Z → Option A) → Option A := fun st z K => pj_pi st fun a5 st => pj_pi st fun a4 st => pj_pi st fun a3 st => pj_pi st fun a2 st => pj_pi st fun a1 st => pj_pr st 0 0 fun st => pj_ps st (pj_b (pf_X11_line a1 a2 a3 a4 a5 z.1 z.2.1 z.2.2.1 z.2.2.2) fun r s l x y => K st (s, l, x, y))
set_option maxRecDepth 100000 in
theorem pc_X11_line {A : Type} {OK : A → Option Value → mj_M → Prop} {d j pc ix : Nat} {Y : mj_Y} {lf : pj_Z → mj_M} (hT : pj_Lt pj_TC lf) (hd : 2 ≤ d) (hl : mj_lk Y.2.2.2.2 pc = some (.invokevirtual ix, 3)) (hg : mj_pG ic_P j ix = some (11015, 5, some 11)) {lv : List (Nat × Value)} {st : List pj_V} {z : pj_Z} {K : List pj_V → pj_Z → Option A} {a : A} (hK : ∀ st z, K st z = some a → pj_Gd ic_P (mj_R ic_P d) j Y OK lf (pc + 3) lv (pj_es st) z a) (h : ph_X11_line st z K = some a) : pj_Gd ic_P (mj_R ic_P d) j Y OK lf pc lv (pj_es st) z a := by
  obtain ⟨a5, r5, e5, h⟩ := pj_pi_inv h
  obtain ⟨a4, r4, e4, h⟩ := pj_pi_inv h
  obtain ⟨a3, r3, e3, h⟩ := pj_pi_inv h
  obtain ⟨a2, r2, e2, h⟩ := pj_pi_inv h
  obtain ⟨a1, r1, e1, h⟩ := pj_pi_inv h
  obtain ⟨r0, e0, h⟩ := pj_pr_inv h
  obtain ⟨hs, h⟩ := pj_ps_inv h
  obtain ⟨q, hq, h⟩ := pj_b_inv h
  exact pm_cv (o := 0) hl hg [.int a1, .int a2, .int a3, .int a4, .int a5] rfl (by rw [e5, e4, e3, e2, e1, e0]; rfl) hs (by decide) ((hT.2 0 _ rfl).1.2 z 0 (by decide)) (pm_rU q.1) hd (pm_X11_line hT a1 a2 a3 a4 a5 z.1 z.2.1 z.2.2.1 z.2.2.2 q hq) rfl (hK _ _ h)
abbrev pe_X7_lastX_30 (f : pj_F (Int32 × pj_Z)) : pj_K (Int32 × pj_Z) := fun lv st z => pj_pe st (f  z.1 z.2.1 z.2.2.1 z.2.2.2)
abbrev px_X7_lastX : pj_C (Int32 × pj_Z) := ((pj_as [(20, 7, 11, 1, 0, true, 0, [(2, 21), (2, 35), (2, 49), (2, 50), (2, 51), (2, 52), (2, 53), (2, 54), (2, 55), (2, 56), (2, 57)]), (21, 103, 13, 1, 0, true, 22, []), (22, 100, 8, 13, 1, true, 26000, []), (49, 100, 13, 1, 0, true, 28000, [])]), (pj_as [(13, 7, 0, 2, true), (19, 7, 2, 2, true)]), (fun _ => none), (fun _ => none), (fun _ => none), ic_X, 3, 1, pj_mI, (fun _ => none), fun _ => false)
abbrev pk_X7_lastX : List (Nat × List (Nat × Instr × Nat)) := [(0, [(0, .aload_n 0, 1), (1, .getfield 19, 3), (4, .iload_n 1, 1), (5, .iaload, 1), (6, .iconst 1, 1), (7, .isub, 1), (8, .istore_n 2, 1), (9, .iload_n 2, 1), (10, .ifCond .lt 20, 3)]), (13, [(13, .iload_n 2, 1), (14, .bipush 8, 2), (16, .if_icmp .ge 14, 3)]), (19, [(19, .aload_n 0, 1), (20, .getfield 13, 3), (23, .iload_n 1, 1), (24, .aaload, 1), (25, .iload_n 2, 1), (26, .iaload, 1), (27, .goto 6, 3)]), (30, [(30, .sipush (-10001), 3)]), (33, [(33, .ireturn, 1)])]
set_option maxRecDepth 100000 in
theorem pq_X7_lastX_30   (s : Nat → Int32) (l : Nat → Int64) (x : Nat → Int32) (y : Nat → Int64) : pl_X7_lastX_30 s l x y = pj_bl px_X7_lastX (pj_rn px_X7_lastX (pj_as pk_X7_lastX) (fun _ => none) 60) [(30, .sipush (-10001), 3)] 30 [] [] (s, l, x, y) := rfl
set_option maxRecDepth 100000 in
theorem pq_X7_lastX_m  (a1 : Int32) (s : Nat → Int32) (l : Nat → Int64) (x : Nat → Int32) (y : Nat → Int64) : pf_X7_lastX a1 s l x y = pj_bl px_X7_lastX (pj_rn px_X7_lastX (pj_as pk_X7_lastX) (pj_as [(30, pe_X7_lastX_30 (pl_X7_lastX_30))]) 60) [(0, .aload_n 0, 1), (1, .getfield 19, 3), (4, .iload_n 1, 1), (5, .iaload, 1), (6, .iconst 1, 1), (7, .isub, 1), (8, .istore_n 2, 1), (9, .iload_n 2, 1), (10, .ifCond .lt 20, 3)] 0 [(0, pj_O (20, 0)), (1, pj_I a1)] [] (s, l, x, y) := rfl
theorem pu_X7_lastX_30 {lf : pj_Z → mj_M} {a : Int32 × pj_Z} (f : pj_F (Int32 × pj_Z)) (hf : ∀  (s : Nat → Int32) (l : Nat → Int64) (x : Nat → Int32) (y : Nat → Int64), f  s l x y = some a → pm_Gd 0 7003 ie_X7_lastX.1 pm_rI lf 30 [] [] (s, l, x, y) a) : pm_Ex 0 7003 ie_X7_lastX.1 pm_rI lf a 30 (pe_X7_lastX_30 f) := by
  intro lv st z hd h
  obtain ⟨e9, h⟩ := pj_pe_inv h
  rw [e9]
  exact mj_wp_sub (mj_sub_nil hd) (hf  _ _ _ _ h)
set_option maxRecDepth 100000 in
theorem pz_X7_lastX {lf : pj_Z → mj_M} (hT : pj_Lt pj_TC lf) : pj_Cok ic_P (mj_R ic_P 0) 7003 ie_X7_lastX.1 (pm_OK lf pm_rI) lf px_X7_lastX := by
  exact pm_cok (c := px_X7_lastX) (pm_part hT (pj_as_all (p := fun b e => pj_TC b = some e) (List.forall_mem_cons.mpr ⟨rfl, (List.forall_mem_cons.mpr ⟨rfl, (List.forall_mem_cons.mpr ⟨rfl, (List.forall_mem_cons.mpr ⟨rfl, (fun _ h => by cases h)⟩)⟩)⟩)⟩))) (pm_in_ok (L := [(13, 7, 0, 2, true), (19, 7, 2, 2, true)]) (f := mj_pF ic_P 7003) (by decide +kernel)) (fun _ _ h => by cases h) (fun _ _ h => by cases h) (fun _ _ h => by cases h) rfl rfl ⟨by decide, rfl⟩ pm_mI (fun _ _ h => by cases h) (fun _ h => by cases h)
set_option maxRecDepth 100000 in
theorem pb_X7_lastX : pm_bks ie_X7_lastX.1.2.2.2.2 pk_X7_lastX = true := by decide +kernel
set_option maxRecDepth 100000 in
theorem pg_X7_lastX_30 {lf : pj_Z → mj_M} (hT : pj_Lt pj_TC lf) : ∀  (s : Nat → Int32) (l : Nat → Int64) (x : Nat → Int32) (y : Nat → Int64) (a : Int32 × pj_Z), pl_X7_lastX_30 s l x y = some a → pm_Gd 0 7003 ie_X7_lastX.1 pm_rI lf 30 [] [] (s, l, x, y) a := by
  intro  s l x y a h
  exact pm_run ((pq_X7_lastX_30   s l x y).symm.trans h) (pz_X7_lastX hT) (pm_bks_ok pb_X7_lastX) (pm_bks_ok pb_X7_lastX _ _ rfl) (pm_ndb_ok rfl) (fun _ _ h => by cases h)
set_option maxRecDepth 100000 in
theorem pm_X7_lastX {lf : pj_Z → mj_M} (hT : pj_Lt pj_TC lf) (a1 : Int32) (s : Nat → Int32) (l : Nat → Int64) (x : Nat → Int32) (y : Nat → Int64) (a : Int32 × pj_Z) (h : pf_X7_lastX a1 s l x y = some a) : mj_R ic_P 1 7003 [.ref 20, .int a1] (lf (s, l, x, y)) (pm_rI a.1) (lf a.2) := by
  refine pm_main (Y := ie_X7_lastX.1) rfl (Nat.le_of_ble_eq_true rfl) ?_
  exact pm_run ((pq_X7_lastX_m a1 s l x y).symm.trans h) (pz_X7_lastX hT) (pm_bks_ok pb_X7_lastX) (pm_bks_ok pb_X7_lastX _ _ rfl) (pm_ndb_ok rfl) (pj_as_all (p := pm_Ex 0 7003 ie_X7_lastX.1 pm_rI lf a) (List.forall_mem_cons.mpr ⟨pu_X7_lastX_30 _ (fun  s l x y h => pg_X7_lastX_30 hT  s l x y _ h), (fun _ h => by cases h)⟩))
abbrev ph_X7_lastX {A : Type} : List pj_V → pj_Z → (List pj_V → pj_Z → Option A) → Option A := fun st z K => pj_pi st fun a1 st => pj_pr st 20 0 fun st => pj_ps st (pj_b (pf_X7_lastX a1 z.1 z.2.1 z.2.2.1 z.2.2.2) fun r s l x y => K (pj_I r :: st) (s, l, x, y))
set_option maxRecDepth 100000 in
theorem pc_X7_lastX {A : Type} {OK : A → Option Value → mj_M → Prop} {d j pc ix : Nat} {Y : mj_Y} {lf : pj_Z → mj_M} (hT : pj_Lt pj_TC lf) (hd : 1 ≤ d) (hl : mj_lk Y.2.2.2.2 pc = some (.invokevirtual ix, 3)) (hg : mj_pG ic_P j ix = some (7003, 1, some 7)) {lv : List (Nat × Value)} {st : List pj_V} {z : pj_Z} {K : List pj_V → pj_Z → Option A} {a : A} (hK : ∀ st z, K st z = some a → pj_Gd ic_P (mj_R ic_P d) j Y OK lf (pc + 3) lv (pj_es st) z a) (h : ph_X7_lastX st z K = some a) : pj_Gd ic_P (mj_R ic_P d) j Y OK lf pc lv (pj_es st) z a := by
  obtain ⟨a1, r1, e1, h⟩ := pj_pi_inv h
  obtain ⟨r0, e0, h⟩ := pj_pr_inv h
  obtain ⟨hs, h⟩ := pj_ps_inv h
  obtain ⟨q, hq, h⟩ := pj_b_inv h
  exact pm_cv (o := 20) hl hg [.int a1] rfl (by rw [e1, e0]; rfl) hs (by decide) ((hT.2 20 _ rfl).1.2 z 0 (by decide)) (pm_rI q.1) hd (pm_X7_lastX hT a1 z.1 z.2.1 z.2.2.1 z.2.2.2 q hq) rfl (hK _ _ h)
abbrev pe_X11_point_10 (f : pj_F (Int32 × pj_Z)) : pj_K (Int32 × pj_Z) := fun lv st z => pj_pe st (f  z.1 z.2.1 z.2.2.1 z.2.2.2)
abbrev pe_X11_point_41 (f : pj_F (Int32 × pj_Z)) : pj_K (Int32 × pj_Z) := fun lv st z => pj_pe st (f  z.1 z.2.1 z.2.2.1 z.2.2.2)
abbrev pe_X11_point_72 (f : pj_F (Int32 × pj_Z)) : pj_K (Int32 × pj_Z) := fun lv st z => pj_pe st (f  z.1 z.2.1 z.2.2.1 z.2.2.2)
abbrev px_X11_point : pj_C (Int32 × pj_Z) := ((pj_as [(0, 11, 17, 1, 0, true, 0, [(2, 1), (2, 20), (2, 58), (2, 68), (2, 82), (2, 83), (2, 85), (2, 96), (2, 102), (2, 106), (2, 122), (0, 93), (0, 94), (0, 95), (1, 1), (1, 2), (0, 96)]), (20, 7, 11, 1, 0, true, 0, [(2, 21), (2, 35), (2, 49), (2, 50), (2, 51), (2, 52), (2, 53), (2, 54), (2, 55), (2, 56), (2, 57)]), (49, 100, 13, 1, 0, true, 28000, [])]), (pj_as [(19, 11, 1, 2, true), (90, 11, 12, 0, false), (238, 7, 2, 2, true)]), (fun _ => none), (fun _ => none), (fun _ => none), ic_X, 4, 1, pj_mI, (pj_as [(23, ph_X7_isPoint), (35, ph_X7_lastX), (89, ph_X7_addPoint)]), fun _ => false)
abbrev pk_X11_point : List (Nat × List (Nat × Instr × Nat)) := [(0, [(0, .iload_n 1, 1), (1, .ifCond .lt 9, 3)]), (4, [(4, .iload_n 1, 1), (5, .bipush 13, 2), (7, .if_icmp .lt 13, 3)]), (10, [(10, .new 158, 3)]), (20, [(20, .iload_n 1, 1), (21, .iload_n 2, 1), (22, .iload_n 3, 1), (23, .invokestatic 232, 3), (26, .ifCond .eq 15, 3)]), (29, [(29, .iload_n 2, 1), (30, .aload_n 0, 1), (31, .getfield 19, 3), (34, .iload_n 1, 1), (35, .invokevirtual 245, 3), (38, .if_icmp .gt 13, 3)]), (41, [(41, .new 107, 3)]), (51, [(51, .aload_n 0, 1), (52, .getfield 90, 3), (55, .ifCond .ne 17, 3)]), (58, [(58, .aload_n 0, 1), (59, .getfield 19, 3), (62, .getfield 238, 3), (65, .iload_n 1, 1), (66, .iaload, 1), (67, .bipush 8, 2), (69, .if_icmp .lt 13, 3)]), (72, [(72, .new 189, 3)]), (82, [(82, .aload_n 0, 1), (83, .getfield 19, 3), (86, .iload_n 1, 1), (87, .iload_n 2, 1), (88, .iload_n 3, 1), (89, .invokevirtual 241, 3), (92, .aload_n 0, 1), (93, .getfield 19, 3), (96, .getfield 238, 3), (99, .iload_n 1, 1), (100, .iaload, 1), (101, .ireturn, 1)])]
set_option maxRecDepth 100000 in
theorem pq_X11_point_10   (s : Nat → Int32) (l : Nat → Int64) (x : Nat → Int32) (y : Nat → Int64) : pl_X11_point_10 s l x y = pj_bl px_X11_point (pj_rn px_X11_point (pj_as pk_X11_point) (fun _ => none) 60) [(10, .new 158, 3)] 10 [] [] (s, l, x, y) := rfl
set_option maxRecDepth 100000 in
theorem pq_X11_point_41   (s : Nat → Int32) (l : Nat → Int64) (x : Nat → Int32) (y : Nat → Int64) : pl_X11_point_41 s l x y = pj_bl px_X11_point (pj_rn px_X11_point (pj_as pk_X11_point) (fun _ => none) 60) [(41, .new 107, 3)] 41 [] [] (s, l, x, y) := rfl
set_option maxRecDepth 100000 in
theorem pq_X11_point_72   (s : Nat → Int32) (l : Nat → Int64) (x : Nat → Int32) (y : Nat → Int64) : pl_X11_point_72 s l x y = pj_bl px_X11_point (pj_rn px_X11_point (pj_as pk_X11_point) (fun _ => none) 60) [(72, .new 189, 3)] 72 [] [] (s, l, x, y) := rfl
set_option maxRecDepth 100000 in
theorem pq_X11_point_m  (a1 : Int32) (a2 : Int32) (a3 : Int32) (s : Nat → Int32) (l : Nat → Int64) (x : Nat → Int32) (y : Nat → Int64) : pf_X11_point a1 a2 a3 s l x y = pj_bl px_X11_point (pj_rn px_X11_point (pj_as pk_X11_point) (pj_as [(10, pe_X11_point_10 (pl_X11_point_10)), (41, pe_X11_point_41 (pl_X11_point_41)), (72, pe_X11_point_72 (pl_X11_point_72))]) 60) [(0, .iload_n 1, 1), (1, .ifCond .lt 9, 3)] 0 [(0, pj_O (0, 0)), (1, pj_I a1), (2, pj_I a2), (3, pj_I a3)] [] (s, l, x, y) := rfl
theorem pu_X11_point_10 {lf : pj_Z → mj_M} {a : Int32 × pj_Z} (f : pj_F (Int32 × pj_Z)) (hf : ∀  (s : Nat → Int32) (l : Nat → Int64) (x : Nat → Int32) (y : Nat → Int64), f  s l x y = some a → pm_Gd 1 11016 ie_X11_point.1 pm_rI lf 10 [] [] (s, l, x, y) a) : pm_Ex 1 11016 ie_X11_point.1 pm_rI lf a 10 (pe_X11_point_10 f) := by
  intro lv st z hd h
  obtain ⟨e9, h⟩ := pj_pe_inv h
  rw [e9]
  exact mj_wp_sub (mj_sub_nil hd) (hf  _ _ _ _ h)
theorem pu_X11_point_41 {lf : pj_Z → mj_M} {a : Int32 × pj_Z} (f : pj_F (Int32 × pj_Z)) (hf : ∀  (s : Nat → Int32) (l : Nat → Int64) (x : Nat → Int32) (y : Nat → Int64), f  s l x y = some a → pm_Gd 1 11016 ie_X11_point.1 pm_rI lf 41 [] [] (s, l, x, y) a) : pm_Ex 1 11016 ie_X11_point.1 pm_rI lf a 41 (pe_X11_point_41 f) := by
  intro lv st z hd h
  obtain ⟨e9, h⟩ := pj_pe_inv h
  rw [e9]
  exact mj_wp_sub (mj_sub_nil hd) (hf  _ _ _ _ h)
theorem pu_X11_point_72 {lf : pj_Z → mj_M} {a : Int32 × pj_Z} (f : pj_F (Int32 × pj_Z)) (hf : ∀  (s : Nat → Int32) (l : Nat → Int64) (x : Nat → Int32) (y : Nat → Int64), f  s l x y = some a → pm_Gd 1 11016 ie_X11_point.1 pm_rI lf 72 [] [] (s, l, x, y) a) : pm_Ex 1 11016 ie_X11_point.1 pm_rI lf a 72 (pe_X11_point_72 f) := by
  intro lv st z hd h
  obtain ⟨e9, h⟩ := pj_pe_inv h
  rw [e9]
  exact mj_wp_sub (mj_sub_nil hd) (hf  _ _ _ _ h)
set_option maxRecDepth 100000 in
theorem pz_X11_point {lf : pj_Z → mj_M} (hT : pj_Lt pj_TC lf) : pj_Cok ic_P (mj_R ic_P 1) 11016 ie_X11_point.1 (pm_OK lf pm_rI) lf px_X11_point := by
  exact pm_cok (c := px_X11_point) (pm_part hT (pj_as_all (p := fun b e => pj_TC b = some e) (List.forall_mem_cons.mpr ⟨rfl, (List.forall_mem_cons.mpr ⟨rfl, (List.forall_mem_cons.mpr ⟨rfl, (fun _ h => by cases h)⟩)⟩)⟩))) (pm_in_ok (L := [(19, 11, 1, 2, true), (90, 11, 12, 0, false), (238, 7, 2, 2, true)]) (f := mj_pF ic_P 11016) (by decide +kernel)) (fun _ _ h => by cases h) (fun _ _ h => by cases h) (fun _ _ h => by cases h) rfl rfl ⟨by decide, rfl⟩ pm_mI (pj_as_all (p := pm_Cl 1 11016 ie_X11_point.1 lf (pm_OK lf pm_rI)) (List.forall_mem_cons.mpr ⟨fun _ _ lv st z K a hK h => pc_X7_isPoint hT (by decide) (ix := 232) rfl rfl hK h, (List.forall_mem_cons.mpr ⟨fun _ _ lv st z K a hK h => pc_X7_lastX hT (by decide) (ix := 245) rfl rfl hK h, (List.forall_mem_cons.mpr ⟨fun _ _ lv st z K a hK h => pc_X7_addPoint hT (by decide) (ix := 241) rfl rfl hK h, (fun _ h => by cases h)⟩)⟩)⟩)) (fun _ h => by cases h)
set_option maxRecDepth 100000 in
theorem pb_X11_point : pm_bks ie_X11_point.1.2.2.2.2 pk_X11_point = true := by decide +kernel
set_option maxRecDepth 100000 in
theorem pg_X11_point_10 {lf : pj_Z → mj_M} (hT : pj_Lt pj_TC lf) : ∀  (s : Nat → Int32) (l : Nat → Int64) (x : Nat → Int32) (y : Nat → Int64) (a : Int32 × pj_Z), pl_X11_point_10 s l x y = some a → pm_Gd 1 11016 ie_X11_point.1 pm_rI lf 10 [] [] (s, l, x, y) a := by
  intro  s l x y a h
  exact pm_run ((pq_X11_point_10   s l x y).symm.trans h) (pz_X11_point hT) (pm_bks_ok pb_X11_point) (pm_bks_ok pb_X11_point _ _ rfl) (pm_ndb_ok rfl) (fun _ _ h => by cases h)
set_option maxRecDepth 100000 in
theorem pg_X11_point_41 {lf : pj_Z → mj_M} (hT : pj_Lt pj_TC lf) : ∀  (s : Nat → Int32) (l : Nat → Int64) (x : Nat → Int32) (y : Nat → Int64) (a : Int32 × pj_Z), pl_X11_point_41 s l x y = some a → pm_Gd 1 11016 ie_X11_point.1 pm_rI lf 41 [] [] (s, l, x, y) a := by
  intro  s l x y a h
  exact pm_run ((pq_X11_point_41   s l x y).symm.trans h) (pz_X11_point hT) (pm_bks_ok pb_X11_point) (pm_bks_ok pb_X11_point _ _ rfl) (pm_ndb_ok rfl) (fun _ _ h => by cases h)
set_option maxRecDepth 100000 in
theorem pg_X11_point_72 {lf : pj_Z → mj_M} (hT : pj_Lt pj_TC lf) : ∀  (s : Nat → Int32) (l : Nat → Int64) (x : Nat → Int32) (y : Nat → Int64) (a : Int32 × pj_Z), pl_X11_point_72 s l x y = some a → pm_Gd 1 11016 ie_X11_point.1 pm_rI lf 72 [] [] (s, l, x, y) a := by
  intro  s l x y a h
  exact pm_run ((pq_X11_point_72   s l x y).symm.trans h) (pz_X11_point hT) (pm_bks_ok pb_X11_point) (pm_bks_ok pb_X11_point _ _ rfl) (pm_ndb_ok rfl) (fun _ _ h => by cases h)
set_option maxRecDepth 100000 in
theorem pm_X11_point {lf : pj_Z → mj_M} (hT : pj_Lt pj_TC lf) (a1 : Int32) (a2 : Int32) (a3 : Int32) (s : Nat → Int32) (l : Nat → Int64) (x : Nat → Int32) (y : Nat → Int64) (a : Int32 × pj_Z) (h : pf_X11_point a1 a2 a3 s l x y = some a) : mj_R ic_P 2 11016 [.ref 0, .int a1, .int a2, .int a3] (lf (s, l, x, y)) (pm_rI a.1) (lf a.2) := by
  refine pm_main (Y := ie_X11_point.1) rfl (Nat.le_of_ble_eq_true rfl) ?_
  exact pm_run ((pq_X11_point_m a1 a2 a3 s l x y).symm.trans h) (pz_X11_point hT) (pm_bks_ok pb_X11_point) (pm_bks_ok pb_X11_point _ _ rfl) (pm_ndb_ok rfl) (pj_as_all (p := pm_Ex 1 11016 ie_X11_point.1 pm_rI lf a) (List.forall_mem_cons.mpr ⟨pu_X11_point_10 _ (fun  s l x y h => pg_X11_point_10 hT  s l x y _ h), (List.forall_mem_cons.mpr ⟨pu_X11_point_41 _ (fun  s l x y h => pg_X11_point_41 hT  s l x y _ h), (List.forall_mem_cons.mpr ⟨pu_X11_point_72 _ (fun  s l x y h => pg_X11_point_72 hT  s l x y _ h), (fun _ h => by cases h)⟩)⟩)⟩))
abbrev ph_X11_point {A : Type} : List pj_V → pj_Z → (List pj_V → pj_Z → Option A) → Option A := fun st z K => pj_pi st fun a3 st => pj_pi st fun a2 st => pj_pi st fun a1 st => pj_pr st 0 0 fun st => pj_ps st (pj_b (pf_X11_point a1 a2 a3 z.1 z.2.1 z.2.2.1 z.2.2.2) fun r s l x y => K (pj_I r :: st) (s, l, x, y))
set_option maxRecDepth 100000 in
theorem pc_X11_point {A : Type} {OK : A → Option Value → mj_M → Prop} {d j pc ix : Nat} {Y : mj_Y} {lf : pj_Z → mj_M} (hT : pj_Lt pj_TC lf) (hd : 2 ≤ d) (hl : mj_lk Y.2.2.2.2 pc = some (.invokevirtual ix, 3)) (hg : mj_pG ic_P j ix = some (11016, 3, some 11)) {lv : List (Nat × Value)} {st : List pj_V} {z : pj_Z} {K : List pj_V → pj_Z → Option A} {a : A} (hK : ∀ st z, K st z = some a → pj_Gd ic_P (mj_R ic_P d) j Y OK lf (pc + 3) lv (pj_es st) z a) (h : ph_X11_point st z K = some a) : pj_Gd ic_P (mj_R ic_P d) j Y OK lf pc lv (pj_es st) z a := by
  obtain ⟨a3, r3, e3, h⟩ := pj_pi_inv h
  obtain ⟨a2, r2, e2, h⟩ := pj_pi_inv h
  obtain ⟨a1, r1, e1, h⟩ := pj_pi_inv h
  obtain ⟨r0, e0, h⟩ := pj_pr_inv h
  obtain ⟨hs, h⟩ := pj_ps_inv h
  obtain ⟨q, hq, h⟩ := pj_b_inv h
  exact pm_cv (o := 0) hl hg [.int a1, .int a2, .int a3] rfl (by rw [e3, e2, e1, e0]; rfl) hs (by decide) ((hT.2 0 _ rfl).1.2 z 0 (by decide)) (pm_rI q.1) hd (pm_X11_point hT a1 a2 a3 z.1 z.2.1 z.2.2.1 z.2.2.2 q hq) rfl (hK _ _ h)
abbrev pe_X11_lineAt_10 (f : pj_F (Int32 × pj_Z)) : pj_K (Int32 × pj_Z) := fun lv st z => pj_pe st (f  z.1 z.2.1 z.2.2.1 z.2.2.2)
abbrev px_X11_lineAt : pj_C (Int32 × pj_Z) := ((pj_as [(0, 11, 17, 1, 0, true, 0, [(2, 1), (2, 20), (2, 58), (2, 68), (2, 82), (2, 83), (2, 85), (2, 96), (2, 102), (2, 106), (2, 122), (0, 93), (0, 94), (0, 95), (1, 1), (1, 2), (0, 96)])]), (pj_as [(19, 11, 1, 2, true)]), (fun _ => none), (fun _ => none), (fun _ => none), ic_X, 3, 1, pj_mI, (pj_as [(26, ph_X7_lineValue)]), fun _ => false)
abbrev pk_X11_lineAt : List (Nat × List (Nat × Instr × Nat)) := [(0, [(0, .iload_n 1, 1), (1, .ifCond .lt 9, 3)]), (4, [(4, .iload_n 1, 1), (5, .bipush 13, 2), (7, .if_icmp .lt 13, 3)]), (10, [(10, .new 158, 3)]), (20, [(20, .aload_n 0, 1), (21, .getfield 19, 3), (24, .iload_n 1, 1), (25, .iload_n 2, 1), (26, .invokevirtual 251, 3), (29, .ireturn, 1)])]
set_option maxRecDepth 100000 in
theorem pq_X11_lineAt_10   (s : Nat → Int32) (l : Nat → Int64) (x : Nat → Int32) (y : Nat → Int64) : pl_X11_lineAt_10 s l x y = pj_bl px_X11_lineAt (pj_rn px_X11_lineAt (pj_as pk_X11_lineAt) (fun _ => none) 60) [(10, .new 158, 3)] 10 [] [] (s, l, x, y) := rfl
set_option maxRecDepth 100000 in
theorem pq_X11_lineAt_m  (a1 : Int32) (a2 : Int32) (s : Nat → Int32) (l : Nat → Int64) (x : Nat → Int32) (y : Nat → Int64) : pf_X11_lineAt a1 a2 s l x y = pj_bl px_X11_lineAt (pj_rn px_X11_lineAt (pj_as pk_X11_lineAt) (pj_as [(10, pe_X11_lineAt_10 (pl_X11_lineAt_10))]) 60) [(0, .iload_n 1, 1), (1, .ifCond .lt 9, 3)] 0 [(0, pj_O (0, 0)), (1, pj_I a1), (2, pj_I a2)] [] (s, l, x, y) := rfl
theorem pu_X11_lineAt_10 {lf : pj_Z → mj_M} {a : Int32 × pj_Z} (f : pj_F (Int32 × pj_Z)) (hf : ∀  (s : Nat → Int32) (l : Nat → Int64) (x : Nat → Int32) (y : Nat → Int64), f  s l x y = some a → pm_Gd 2 11017 ie_X11_lineAt.1 pm_rI lf 10 [] [] (s, l, x, y) a) : pm_Ex 2 11017 ie_X11_lineAt.1 pm_rI lf a 10 (pe_X11_lineAt_10 f) := by
  intro lv st z hd h
  obtain ⟨e9, h⟩ := pj_pe_inv h
  rw [e9]
  exact mj_wp_sub (mj_sub_nil hd) (hf  _ _ _ _ h)
set_option maxRecDepth 100000 in
theorem pz_X11_lineAt {lf : pj_Z → mj_M} (hT : pj_Lt pj_TC lf) : pj_Cok ic_P (mj_R ic_P 2) 11017 ie_X11_lineAt.1 (pm_OK lf pm_rI) lf px_X11_lineAt := by
  exact pm_cok (c := px_X11_lineAt) (pm_part hT (pj_as_all (p := fun b e => pj_TC b = some e) (List.forall_mem_cons.mpr ⟨rfl, (fun _ h => by cases h)⟩))) (pm_in_ok (L := [(19, 11, 1, 2, true)]) (f := mj_pF ic_P 11017) (by decide +kernel)) (fun _ _ h => by cases h) (fun _ _ h => by cases h) (fun _ _ h => by cases h) rfl rfl ⟨by decide, rfl⟩ pm_mI (pj_as_all (p := pm_Cl 2 11017 ie_X11_lineAt.1 lf (pm_OK lf pm_rI)) (List.forall_mem_cons.mpr ⟨fun _ _ lv st z K a hK h => pc_X7_lineValue hT (by decide) (ix := 251) rfl rfl hK h, (fun _ h => by cases h)⟩)) (fun _ h => by cases h)
set_option maxRecDepth 100000 in
theorem pb_X11_lineAt : pm_bks ie_X11_lineAt.1.2.2.2.2 pk_X11_lineAt = true := by decide +kernel
set_option maxRecDepth 100000 in
theorem pg_X11_lineAt_10 {lf : pj_Z → mj_M} (hT : pj_Lt pj_TC lf) : ∀  (s : Nat → Int32) (l : Nat → Int64) (x : Nat → Int32) (y : Nat → Int64) (a : Int32 × pj_Z), pl_X11_lineAt_10 s l x y = some a → pm_Gd 2 11017 ie_X11_lineAt.1 pm_rI lf 10 [] [] (s, l, x, y) a := by
  intro  s l x y a h
  exact pm_run ((pq_X11_lineAt_10   s l x y).symm.trans h) (pz_X11_lineAt hT) (pm_bks_ok pb_X11_lineAt) (pm_bks_ok pb_X11_lineAt _ _ rfl) (pm_ndb_ok rfl) (fun _ _ h => by cases h)
set_option maxRecDepth 100000 in
theorem pm_X11_lineAt {lf : pj_Z → mj_M} (hT : pj_Lt pj_TC lf) (a1 : Int32) (a2 : Int32) (s : Nat → Int32) (l : Nat → Int64) (x : Nat → Int32) (y : Nat → Int64) (a : Int32 × pj_Z) (h : pf_X11_lineAt a1 a2 s l x y = some a) : mj_R ic_P 3 11017 [.ref 0, .int a1, .int a2] (lf (s, l, x, y)) (pm_rI a.1) (lf a.2) := by
  refine pm_main (Y := ie_X11_lineAt.1) rfl (Nat.le_of_ble_eq_true rfl) ?_
  exact pm_run ((pq_X11_lineAt_m a1 a2 s l x y).symm.trans h) (pz_X11_lineAt hT) (pm_bks_ok pb_X11_lineAt) (pm_bks_ok pb_X11_lineAt _ _ rfl) (pm_ndb_ok rfl) (pj_as_all (p := pm_Ex 2 11017 ie_X11_lineAt.1 pm_rI lf a) (List.forall_mem_cons.mpr ⟨pu_X11_lineAt_10 _ (fun  s l x y h => pg_X11_lineAt_10 hT  s l x y _ h), (fun _ h => by cases h)⟩))
abbrev ph_X11_lineAt {A : Type} : List pj_V → pj_Z → (List pj_V → pj_Z → Option A) → Option A := fun st z K => pj_pi st fun a2 st => pj_pi st fun a1 st => pj_pr st 0 0 fun st => pj_ps st (pj_b (pf_X11_lineAt a1 a2 z.1 z.2.1 z.2.2.1 z.2.2.2) fun r s l x y => K (pj_I r :: st) (s, l, x, y))
set_option maxRecDepth 100000 in
theorem pc_X11_lineAt {A : Type} {OK : A → Option Value → mj_M → Prop} {d j pc ix : Nat} {Y : mj_Y} {lf : pj_Z → mj_M} (hT : pj_Lt pj_TC lf) (hd : 3 ≤ d) (hl : mj_lk Y.2.2.2.2 pc = some (.invokevirtual ix, 3)) (hg : mj_pG ic_P j ix = some (11017, 2, some 11)) {lv : List (Nat × Value)} {st : List pj_V} {z : pj_Z} {K : List pj_V → pj_Z → Option A} {a : A} (hK : ∀ st z, K st z = some a → pj_Gd ic_P (mj_R ic_P d) j Y OK lf (pc + 3) lv (pj_es st) z a) (h : ph_X11_lineAt st z K = some a) : pj_Gd ic_P (mj_R ic_P d) j Y OK lf pc lv (pj_es st) z a := by
  obtain ⟨a2, r2, e2, h⟩ := pj_pi_inv h
  obtain ⟨a1, r1, e1, h⟩ := pj_pi_inv h
  obtain ⟨r0, e0, h⟩ := pj_pr_inv h
  obtain ⟨hs, h⟩ := pj_ps_inv h
  obtain ⟨q, hq, h⟩ := pj_b_inv h
  exact pm_cv (o := 0) hl hg [.int a1, .int a2] rfl (by rw [e2, e1, e0]; rfl) hs (by decide) ((hT.2 0 _ rfl).1.2 z 0 (by decide)) (pm_rI q.1) hd (pm_X11_lineAt hT a1 a2 z.1 z.2.1 z.2.2.1 z.2.2.2 q hq) rfl (hK _ _ h)
abbrev pe_X11_axis_18 (f : pj_F (Unit × pj_Z)) : pj_K (Unit × pj_Z) := fun lv st z => pj_pe st (f  z.1 z.2.1 z.2.2.1 z.2.2.2)
abbrev pe_X11_axis_60 (f : pj_F (Unit × pj_Z)) : pj_K (Unit × pj_Z) := fun lv st z => pj_pe st (f  z.1 z.2.1 z.2.2.1 z.2.2.2)
abbrev px_X11_axis : pj_C (Unit × pj_Z) := ((pj_as [(0, 11, 17, 1, 0, true, 0, [(2, 1), (2, 20), (2, 58), (2, 68), (2, 82), (2, 83), (2, 85), (2, 96), (2, 102), (2, 106), (2, 122), (0, 93), (0, 94), (0, 95), (1, 1), (1, 2), (0, 96)]), (1, 4, 10, 1, 0, true, 0, [(2, 2), (2, 3), (2, 8), (2, 11), (2, 14), (2, 17), (2, 18), (2, 19), (0, 44), (1, 3)]), (3, 103, 4, 1, 0, true, 4, []), (4, 100, 4, 4, 1, true, 11000, [])]), (pj_as [(10, 11, 0, 2, true), (90, 11, 12, 0, false), (259, 4, 1, 2, true)]), (fun _ => none), (fun _ => none), (fun _ => none), ic_X, 8, 0, pj_mU, (fun _ => none), fun _ => false)
abbrev pk_X11_axis : List (Nat × List (Nat × Instr × Nat)) := [(0, [(0, .iload_n 1, 1), (1, .ifCond .lt 17, 3)]), (4, [(4, .iload_n 1, 1), (5, .iconst 1, 1), (6, .if_icmp .gt 12, 3)]), (9, [(9, .iload_n 2, 1), (10, .ifCond .lt 8, 3)]), (13, [(13, .iload_n 2, 1), (14, .iconst 1, 1), (15, .if_icmp .le 13, 3)]), (18, [(18, .new 158, 3)]), (28, [(28, .iload_n 3, 1), (29, .ifCond .lt 31, 3)]), (32, [(32, .iload 6, 2), (34, .sipush 10000, 3), (37, .if_icmp .gt 23, 3)]), (40, [(40, .iload_n 3, 1), (41, .iload 4, 2), (43, .if_icmp .ge 17, 3)]), (46, [(46, .iload 4, 2), (48, .iload 5, 2), (50, .if_icmp .ge 10, 3)]), (53, [(53, .iload 5, 2), (55, .iload 6, 2), (57, .if_icmp .lt 14, 3)]), (60, [(60, .new 107, 3)]), (71, [(71, .aload_n 0, 1), (72, .getfield 90, 3), (75, .ifCond .eq 13, 3)]), (78, [(78, .new 189, 3)]), (88, [(88, .aload_n 0, 1), (89, .getfield 10, 3), (92, .getfield 259, 3), (95, .iconst 2, 1), (96, .iload_n 1, 1), (97, .imul, 1), (98, .iload_n 2, 1), (99, .iadd, 1), (100, .aaload, 1), (101, .astore 7, 2), (103, .aload 7, 2), (105, .iconst 0, 1), (106, .iload_n 3, 1), (107, .iastore, 1), (108, .aload 7, 2), (110, .iconst 1, 1), (111, .iload 4, 2), (113, .iastore, 1), (114, .aload 7, 2), (116, .iconst 2, 1), (117, .iload 5, 2), (119, .iastore, 1), (120, .aload 7, 2), (122, .iconst 3, 1), (123, .iload 6, 2), (125, .iastore, 1), (126, .return_, 1)])]
set_option maxRecDepth 100000 in
theorem pq_X11_axis_18   (s : Nat → Int32) (l : Nat → Int64) (x : Nat → Int32) (y : Nat → Int64) : pl_X11_axis_18 s l x y = pj_bl px_X11_axis (pj_rn px_X11_axis (pj_as pk_X11_axis) (fun _ => none) 60) [(18, .new 158, 3)] 18 [] [] (s, l, x, y) := rfl
set_option maxRecDepth 100000 in
theorem pq_X11_axis_60   (s : Nat → Int32) (l : Nat → Int64) (x : Nat → Int32) (y : Nat → Int64) : pl_X11_axis_60 s l x y = pj_bl px_X11_axis (pj_rn px_X11_axis (pj_as pk_X11_axis) (fun _ => none) 60) [(60, .new 107, 3)] 60 [] [] (s, l, x, y) := rfl
set_option maxRecDepth 100000 in
theorem pq_X11_axis_m  (a1 : Int32) (a2 : Int32) (a3 : Int32) (a4 : Int32) (a5 : Int32) (a6 : Int32) (s : Nat → Int32) (l : Nat → Int64) (x : Nat → Int32) (y : Nat → Int64) : pf_X11_axis a1 a2 a3 a4 a5 a6 s l x y = pj_bl px_X11_axis (pj_rn px_X11_axis (pj_as pk_X11_axis) (pj_as [(18, pe_X11_axis_18 (pl_X11_axis_18)), (60, pe_X11_axis_60 (pl_X11_axis_60))]) 60) [(0, .iload_n 1, 1), (1, .ifCond .lt 17, 3)] 0 [(0, pj_O (0, 0)), (1, pj_I a1), (2, pj_I a2), (3, pj_I a3), (4, pj_I a4), (5, pj_I a5), (6, pj_I a6)] [] (s, l, x, y) := rfl
theorem pu_X11_axis_18 {lf : pj_Z → mj_M} {a : Unit × pj_Z} (f : pj_F (Unit × pj_Z)) (hf : ∀  (s : Nat → Int32) (l : Nat → Int64) (x : Nat → Int32) (y : Nat → Int64), f  s l x y = some a → pm_Gd 0 11018 ie_X11_axis.1 pm_rU lf 18 [] [] (s, l, x, y) a) : pm_Ex 0 11018 ie_X11_axis.1 pm_rU lf a 18 (pe_X11_axis_18 f) := by
  intro lv st z hd h
  obtain ⟨e9, h⟩ := pj_pe_inv h
  rw [e9]
  exact mj_wp_sub (mj_sub_nil hd) (hf  _ _ _ _ h)
theorem pu_X11_axis_60 {lf : pj_Z → mj_M} {a : Unit × pj_Z} (f : pj_F (Unit × pj_Z)) (hf : ∀  (s : Nat → Int32) (l : Nat → Int64) (x : Nat → Int32) (y : Nat → Int64), f  s l x y = some a → pm_Gd 0 11018 ie_X11_axis.1 pm_rU lf 60 [] [] (s, l, x, y) a) : pm_Ex 0 11018 ie_X11_axis.1 pm_rU lf a 60 (pe_X11_axis_60 f) := by
  intro lv st z hd h
  obtain ⟨e9, h⟩ := pj_pe_inv h
  rw [e9]
  exact mj_wp_sub (mj_sub_nil hd) (hf  _ _ _ _ h)
set_option maxRecDepth 100000 in
theorem pz_X11_axis {lf : pj_Z → mj_M} (hT : pj_Lt pj_TC lf) : pj_Cok ic_P (mj_R ic_P 0) 11018 ie_X11_axis.1 (pm_OK lf pm_rU) lf px_X11_axis := by
  exact pm_cok (c := px_X11_axis) (pm_part hT (pj_as_all (p := fun b e => pj_TC b = some e) (List.forall_mem_cons.mpr ⟨rfl, (List.forall_mem_cons.mpr ⟨rfl, (List.forall_mem_cons.mpr ⟨rfl, (List.forall_mem_cons.mpr ⟨rfl, (fun _ h => by cases h)⟩)⟩)⟩)⟩))) (pm_in_ok (L := [(10, 11, 0, 2, true), (90, 11, 12, 0, false), (259, 4, 1, 2, true)]) (f := mj_pF ic_P 11018) (by decide +kernel)) (fun _ _ h => by cases h) (fun _ _ h => by cases h) (fun _ _ h => by cases h) rfl rfl ⟨by decide, rfl⟩ pm_mU (fun _ _ h => by cases h) (fun _ h => by cases h)
set_option maxRecDepth 100000 in
theorem pb_X11_axis : pm_bks ie_X11_axis.1.2.2.2.2 pk_X11_axis = true := by decide +kernel
set_option maxRecDepth 100000 in
theorem pg_X11_axis_18 {lf : pj_Z → mj_M} (hT : pj_Lt pj_TC lf) : ∀  (s : Nat → Int32) (l : Nat → Int64) (x : Nat → Int32) (y : Nat → Int64) (a : Unit × pj_Z), pl_X11_axis_18 s l x y = some a → pm_Gd 0 11018 ie_X11_axis.1 pm_rU lf 18 [] [] (s, l, x, y) a := by
  intro  s l x y a h
  exact pm_run ((pq_X11_axis_18   s l x y).symm.trans h) (pz_X11_axis hT) (pm_bks_ok pb_X11_axis) (pm_bks_ok pb_X11_axis _ _ rfl) (pm_ndb_ok rfl) (fun _ _ h => by cases h)
set_option maxRecDepth 100000 in
theorem pg_X11_axis_60 {lf : pj_Z → mj_M} (hT : pj_Lt pj_TC lf) : ∀  (s : Nat → Int32) (l : Nat → Int64) (x : Nat → Int32) (y : Nat → Int64) (a : Unit × pj_Z), pl_X11_axis_60 s l x y = some a → pm_Gd 0 11018 ie_X11_axis.1 pm_rU lf 60 [] [] (s, l, x, y) a := by
  intro  s l x y a h
  exact pm_run ((pq_X11_axis_60   s l x y).symm.trans h) (pz_X11_axis hT) (pm_bks_ok pb_X11_axis) (pm_bks_ok pb_X11_axis _ _ rfl) (pm_ndb_ok rfl) (fun _ _ h => by cases h)
set_option maxRecDepth 100000 in
theorem pm_X11_axis {lf : pj_Z → mj_M} (hT : pj_Lt pj_TC lf) (a1 : Int32) (a2 : Int32) (a3 : Int32) (a4 : Int32) (a5 : Int32) (a6 : Int32) (s : Nat → Int32) (l : Nat → Int64) (x : Nat → Int32) (y : Nat → Int64) (a : Unit × pj_Z) (h : pf_X11_axis a1 a2 a3 a4 a5 a6 s l x y = some a) : mj_R ic_P 1 11018 [.ref 0, .int a1, .int a2, .int a3, .int a4, .int a5, .int a6] (lf (s, l, x, y)) (pm_rU a.1) (lf a.2) := by
  refine pm_main (Y := ie_X11_axis.1) rfl (Nat.le_of_ble_eq_true rfl) ?_
  exact pm_run ((pq_X11_axis_m a1 a2 a3 a4 a5 a6 s l x y).symm.trans h) (pz_X11_axis hT) (pm_bks_ok pb_X11_axis) (pm_bks_ok pb_X11_axis _ _ rfl) (pm_ndb_ok rfl) (pj_as_all (p := pm_Ex 0 11018 ie_X11_axis.1 pm_rU lf a) (List.forall_mem_cons.mpr ⟨pu_X11_axis_18 _ (fun  s l x y h => pg_X11_axis_18 hT  s l x y _ h), (List.forall_mem_cons.mpr ⟨pu_X11_axis_60 _ (fun  s l x y h => pg_X11_axis_60 hT  s l x y _ h), (fun _ h => by cases h)⟩)⟩))
abbrev ph_X11_axis {A : Type} : List pj_V → pj_Z → (List pj_V → pj_Z → Option A) → Option A := fun st z K => pj_pi st fun a6 st => pj_pi st fun a5 st => pj_pi st fun a4 st => pj_pi st fun a3 st => pj_pi st fun a2 st => pj_pi st fun a1 st => pj_pr st 0 0 fun st => pj_ps st (pj_b (pf_X11_axis a1 a2 a3 a4 a5 a6 z.1 z.2.1 z.2.2.1 z.2.2.2) fun r s l x y => K st (s, l, x, y))
set_option maxRecDepth 100000 in
theorem pc_X11_axis {A : Type} {OK : A → Option Value → mj_M → Prop} {d j pc ix : Nat} {Y : mj_Y} {lf : pj_Z → mj_M} (hT : pj_Lt pj_TC lf) (hd : 1 ≤ d) (hl : mj_lk Y.2.2.2.2 pc = some (.invokevirtual ix, 3)) (hg : mj_pG ic_P j ix = some (11018, 6, some 11)) {lv : List (Nat × Value)} {st : List pj_V} {z : pj_Z} {K : List pj_V → pj_Z → Option A} {a : A} (hK : ∀ st z, K st z = some a → pj_Gd ic_P (mj_R ic_P d) j Y OK lf (pc + 3) lv (pj_es st) z a) (h : ph_X11_axis st z K = some a) : pj_Gd ic_P (mj_R ic_P d) j Y OK lf pc lv (pj_es st) z a := by
  obtain ⟨a6, r6, e6, h⟩ := pj_pi_inv h
  obtain ⟨a5, r5, e5, h⟩ := pj_pi_inv h
  obtain ⟨a4, r4, e4, h⟩ := pj_pi_inv h
  obtain ⟨a3, r3, e3, h⟩ := pj_pi_inv h
  obtain ⟨a2, r2, e2, h⟩ := pj_pi_inv h
  obtain ⟨a1, r1, e1, h⟩ := pj_pi_inv h
  obtain ⟨r0, e0, h⟩ := pj_pr_inv h
  obtain ⟨hs, h⟩ := pj_ps_inv h
  obtain ⟨q, hq, h⟩ := pj_b_inv h
  exact pm_cv (o := 0) hl hg [.int a1, .int a2, .int a3, .int a4, .int a5, .int a6] rfl (by rw [e6, e5, e4, e3, e2, e1, e0]; rfl) hs (by decide) ((hT.2 0 _ rfl).1.2 z 0 (by decide)) (pm_rU q.1) hd (pm_X11_axis hT a1 a2 a3 a4 a5 a6 z.1 z.2.1 z.2.2.1 z.2.2.2 q hq) rfl (hK _ _ h)
abbrev pe_X4_isCell_19 (f : pj_F (Int32 × pj_Z)) : pj_K (Int32 × pj_Z) := fun lv st z => pj_pe st (f  z.1 z.2.1 z.2.2.1 z.2.2.2)
abbrev px_X4_isCell : pj_C (Int32 × pj_Z) := ((fun _ => none), (fun _ => none), (fun _ => none), (fun _ => none), (fun _ => none), ic_X, 2, 2, pj_mI, (fun _ => none), fun _ => false)
abbrev pk_X4_isCell : List (Nat × List (Nat × Instr × Nat)) := [(0, [(0, .iload_n 0, 1), (1, .ifCond .ne 22, 3)]), (4, [(4, .iload_n 1, 1), (5, .ifCond .lt 14, 3)]), (8, [(8, .iload_n 1, 1), (9, .sipush 20000, 3), (12, .if_icmp .gt 7, 3)]), (15, [(15, .iconst 1, 1), (16, .goto 25, 3)]), (19, [(19, .iconst 0, 1), (20, .goto 21, 3)]), (23, [(23, .iload_n 1, 1), (24, .bipush (-100), 2), (26, .if_icmp .lt 14, 3)]), (29, [(29, .iload_n 1, 1), (30, .sipush 450, 3), (33, .if_icmp .gt 7, 3)]), (36, [(36, .iconst 1, 1), (37, .goto 4, 3)]), (40, [(40, .iconst 0, 1)]), (41, [(41, .ireturn, 1)])]
set_option maxRecDepth 100000 in
theorem pq_X4_isCell_19   (s : Nat → Int32) (l : Nat → Int64) (x : Nat → Int32) (y : Nat → Int64) : pl_X4_isCell_19 s l x y = pj_bl px_X4_isCell (pj_rn px_X4_isCell (pj_as pk_X4_isCell) (fun _ => none) 60) [(19, .iconst 0, 1), (20, .goto 21, 3)] 19 [] [] (s, l, x, y) := rfl
set_option maxRecDepth 100000 in
theorem pq_X4_isCell_m  (a0 : Int32) (a1 : Int32) (s : Nat → Int32) (l : Nat → Int64) (x : Nat → Int32) (y : Nat → Int64) : pf_X4_isCell a0 a1 s l x y = pj_bl px_X4_isCell (pj_rn px_X4_isCell (pj_as pk_X4_isCell) (pj_as [(19, pe_X4_isCell_19 (pl_X4_isCell_19))]) 60) [(0, .iload_n 0, 1), (1, .ifCond .ne 22, 3)] 0 [(0, pj_I a0), (1, pj_I a1)] [] (s, l, x, y) := rfl
theorem pu_X4_isCell_19 {lf : pj_Z → mj_M} {a : Int32 × pj_Z} (f : pj_F (Int32 × pj_Z)) (hf : ∀  (s : Nat → Int32) (l : Nat → Int64) (x : Nat → Int32) (y : Nat → Int64), f  s l x y = some a → pm_Gd 0 4002 ie_X4_isCell.1 pm_rI lf 19 [] [] (s, l, x, y) a) : pm_Ex 0 4002 ie_X4_isCell.1 pm_rI lf a 19 (pe_X4_isCell_19 f) := by
  intro lv st z hd h
  obtain ⟨e9, h⟩ := pj_pe_inv h
  rw [e9]
  exact mj_wp_sub (mj_sub_nil hd) (hf  _ _ _ _ h)
set_option maxRecDepth 100000 in
theorem pz_X4_isCell {lf : pj_Z → mj_M} (hT : pj_Lt pj_TC lf) : pj_Cok ic_P (mj_R ic_P 0) 4002 ie_X4_isCell.1 (pm_OK lf pm_rI) lf px_X4_isCell := by
  exact pm_cok (c := px_X4_isCell) (pm_none hT) (fun _ _ h => by cases h) (fun _ _ h => by cases h) (fun _ _ h => by cases h) (fun _ _ h => by cases h) rfl rfl ⟨by decide, rfl⟩ pm_mI (fun _ _ h => by cases h) (fun _ h => by cases h)
set_option maxRecDepth 100000 in
theorem pb_X4_isCell : pm_bks ie_X4_isCell.1.2.2.2.2 pk_X4_isCell = true := by decide +kernel
set_option maxRecDepth 100000 in
theorem pg_X4_isCell_19 {lf : pj_Z → mj_M} (hT : pj_Lt pj_TC lf) : ∀  (s : Nat → Int32) (l : Nat → Int64) (x : Nat → Int32) (y : Nat → Int64) (a : Int32 × pj_Z), pl_X4_isCell_19 s l x y = some a → pm_Gd 0 4002 ie_X4_isCell.1 pm_rI lf 19 [] [] (s, l, x, y) a := by
  intro  s l x y a h
  exact pm_run ((pq_X4_isCell_19   s l x y).symm.trans h) (pz_X4_isCell hT) (pm_bks_ok pb_X4_isCell) (pm_bks_ok pb_X4_isCell _ _ rfl) (pm_ndb_ok rfl) (fun _ _ h => by cases h)
set_option maxRecDepth 100000 in
theorem pm_X4_isCell {lf : pj_Z → mj_M} (hT : pj_Lt pj_TC lf) (a0 : Int32) (a1 : Int32) (s : Nat → Int32) (l : Nat → Int64) (x : Nat → Int32) (y : Nat → Int64) (a : Int32 × pj_Z) (h : pf_X4_isCell a0 a1 s l x y = some a) : mj_R ic_P 1 4002 [.int a0, .int a1] (lf (s, l, x, y)) (pm_rI a.1) (lf a.2) := by
  refine pm_main (Y := ie_X4_isCell.1) rfl (Nat.le_of_ble_eq_true rfl) ?_
  exact pm_run ((pq_X4_isCell_m a0 a1 s l x y).symm.trans h) (pz_X4_isCell hT) (pm_bks_ok pb_X4_isCell) (pm_bks_ok pb_X4_isCell _ _ rfl) (pm_ndb_ok rfl) (pj_as_all (p := pm_Ex 0 4002 ie_X4_isCell.1 pm_rI lf a) (List.forall_mem_cons.mpr ⟨pu_X4_isCell_19 _ (fun  s l x y h => pg_X4_isCell_19 hT  s l x y _ h), (fun _ h => by cases h)⟩))
abbrev ph_X4_isCell {A : Type} : List pj_V → pj_Z → (List pj_V → pj_Z → Option A) → Option A := fun st z K => pj_pi st fun a1 st => pj_pi st fun a0 st => pj_ps st (pj_b (pf_X4_isCell a0 a1 z.1 z.2.1 z.2.2.1 z.2.2.2) fun r s l x y => K (pj_I r :: st) (s, l, x, y))
set_option maxRecDepth 100000 in
theorem pc_X4_isCell {A : Type} {OK : A → Option Value → mj_M → Prop} {d j pc ix : Nat} {Y : mj_Y} {lf : pj_Z → mj_M} (hT : pj_Lt pj_TC lf) (hd : 1 ≤ d) (hl : mj_lk Y.2.2.2.2 pc = some (.invokestatic ix, 3)) (hg : mj_pG ic_P j ix = some (4002, 2, none)) {lv : List (Nat × Value)} {st : List pj_V} {z : pj_Z} {K : List pj_V → pj_Z → Option A} {a : A} (hK : ∀ st z, K st z = some a → pj_Gd ic_P (mj_R ic_P d) j Y OK lf (pc + 3) lv (pj_es st) z a) (h : ph_X4_isCell st z K = some a) : pj_Gd ic_P (mj_R ic_P d) j Y OK lf pc lv (pj_es st) z a := by
  obtain ⟨a1, r1, e1, h⟩ := pj_pi_inv h
  obtain ⟨a0, r0, e0, h⟩ := pj_pi_inv h
  obtain ⟨hs, h⟩ := pj_ps_inv h
  obtain ⟨q, hq, h⟩ := pj_b_inv h
  exact pm_cs hl hg [.int a0, .int a1] rfl (by rw [e1, e0]; rfl) hs (pm_rI q.1) hd (pm_X4_isCell hT a0 a1 z.1 z.2.1 z.2.2.1 z.2.2.2 q hq) rfl (hK _ _ h)
abbrev pe_X11_cell_27 (f : pj_F (Int32 × pj_Z)) : pj_K (Int32 × pj_Z) := fun lv st z => pj_pe st (f  z.1 z.2.1 z.2.2.1 z.2.2.2)
abbrev px_X11_cell : pj_C (Int32 × pj_Z) := ((pj_as [(0, 11, 17, 1, 0, true, 0, [(2, 1), (2, 20), (2, 58), (2, 68), (2, 82), (2, 83), (2, 85), (2, 96), (2, 102), (2, 106), (2, 122), (0, 93), (0, 94), (0, 95), (1, 1), (1, 2), (0, 96)]), (1, 4, 10, 1, 0, true, 0, [(2, 2), (2, 3), (2, 8), (2, 11), (2, 14), (2, 17), (2, 18), (2, 19), (0, 44), (1, 3)]), (8, 103, 2, 1, 0, true, 9, []), (9, 100, 16, 2, 1, true, 12000, [])]), (pj_as [(10, 11, 0, 2, true), (90, 11, 12, 0, false), (271, 4, 2, 2, true)]), (fun _ => none), (fun _ => none), (fun _ => none), ic_X, 6, 1, pj_mI, (pj_as [(41, ph_X4_isCell)]), fun _ => false)
abbrev pk_X11_cell : List (Nat × List (Nat × Instr × Nat)) := [(0, [(0, .iload_n 1, 1), (1, .ifCond .lt 26, 3)]), (4, [(4, .iload_n 1, 1), (5, .iconst 1, 1), (6, .if_icmp .gt 21, 3)]), (9, [(9, .iload_n 2, 1), (10, .ifCond .lt 17, 3)]), (13, [(13, .iload_n 2, 1), (14, .iconst 3, 1), (15, .if_icmp .gt 12, 3)]), (18, [(18, .iload_n 3, 1), (19, .ifCond .lt 8, 3)]), (22, [(22, .iload_n 3, 1), (23, .iconst 3, 1), (24, .if_icmp .le 14, 3)]), (27, [(27, .new 158, 3)]), (38, [(38, .iload_n 1, 1), (39, .iload 4, 2), (41, .invokestatic 265, 3), (44, .ifCond .ne 14, 3)]), (47, [(47, .new 107, 3)]), (58, [(58, .aload_n 0, 1), (59, .getfield 90, 3), (62, .ifCond .eq 13, 3)]), (65, [(65, .new 189, 3)]), (75, [(75, .aload_n 0, 1), (76, .getfield 10, 3), (79, .getfield 271, 3), (82, .iload_n 1, 1), (83, .aaload, 1), (84, .iconst 4, 1), (85, .iload_n 2, 1), (86, .imul, 1), (87, .iload_n 3, 1), (88, .iadd, 1), (89, .iaload, 1), (90, .istore 5, 2), (92, .aload_n 0, 1), (93, .getfield 10, 3), (96, .getfield 271, 3), (99, .iload_n 1, 1), (100, .aaload, 1), (101, .iconst 4, 1), (102, .iload_n 2, 1), (103, .imul, 1), (104, .iload_n 3, 1), (105, .iadd, 1), (106, .iload 4, 2), (108, .iastore, 1), (109, .iload 5, 2), (111, .ireturn, 1)])]
set_option maxRecDepth 100000 in
theorem pq_X11_cell_27   (s : Nat → Int32) (l : Nat → Int64) (x : Nat → Int32) (y : Nat → Int64) : pl_X11_cell_27 s l x y = pj_bl px_X11_cell (pj_rn px_X11_cell (pj_as pk_X11_cell) (fun _ => none) 60) [(27, .new 158, 3)] 27 [] [] (s, l, x, y) := rfl
set_option maxRecDepth 100000 in
theorem pq_X11_cell_m  (a1 : Int32) (a2 : Int32) (a3 : Int32) (a4 : Int32) (s : Nat → Int32) (l : Nat → Int64) (x : Nat → Int32) (y : Nat → Int64) : pf_X11_cell a1 a2 a3 a4 s l x y = pj_bl px_X11_cell (pj_rn px_X11_cell (pj_as pk_X11_cell) (pj_as [(27, pe_X11_cell_27 (pl_X11_cell_27))]) 60) [(0, .iload_n 1, 1), (1, .ifCond .lt 26, 3)] 0 [(0, pj_O (0, 0)), (1, pj_I a1), (2, pj_I a2), (3, pj_I a3), (4, pj_I a4)] [] (s, l, x, y) := rfl
theorem pu_X11_cell_27 {lf : pj_Z → mj_M} {a : Int32 × pj_Z} (f : pj_F (Int32 × pj_Z)) (hf : ∀  (s : Nat → Int32) (l : Nat → Int64) (x : Nat → Int32) (y : Nat → Int64), f  s l x y = some a → pm_Gd 1 11019 ie_X11_cell.1 pm_rI lf 27 [] [] (s, l, x, y) a) : pm_Ex 1 11019 ie_X11_cell.1 pm_rI lf a 27 (pe_X11_cell_27 f) := by
  intro lv st z hd h
  obtain ⟨e9, h⟩ := pj_pe_inv h
  rw [e9]
  exact mj_wp_sub (mj_sub_nil hd) (hf  _ _ _ _ h)
set_option maxRecDepth 100000 in
theorem pz_X11_cell {lf : pj_Z → mj_M} (hT : pj_Lt pj_TC lf) : pj_Cok ic_P (mj_R ic_P 1) 11019 ie_X11_cell.1 (pm_OK lf pm_rI) lf px_X11_cell := by
  exact pm_cok (c := px_X11_cell) (pm_part hT (pj_as_all (p := fun b e => pj_TC b = some e) (List.forall_mem_cons.mpr ⟨rfl, (List.forall_mem_cons.mpr ⟨rfl, (List.forall_mem_cons.mpr ⟨rfl, (List.forall_mem_cons.mpr ⟨rfl, (fun _ h => by cases h)⟩)⟩)⟩)⟩))) (pm_in_ok (L := [(10, 11, 0, 2, true), (90, 11, 12, 0, false), (271, 4, 2, 2, true)]) (f := mj_pF ic_P 11019) (by decide +kernel)) (fun _ _ h => by cases h) (fun _ _ h => by cases h) (fun _ _ h => by cases h) rfl rfl ⟨by decide, rfl⟩ pm_mI (pj_as_all (p := pm_Cl 1 11019 ie_X11_cell.1 lf (pm_OK lf pm_rI)) (List.forall_mem_cons.mpr ⟨fun _ _ lv st z K a hK h => pc_X4_isCell hT (by decide) (ix := 265) rfl rfl hK h, (fun _ h => by cases h)⟩)) (fun _ h => by cases h)
set_option maxRecDepth 100000 in
theorem pb_X11_cell : pm_bks ie_X11_cell.1.2.2.2.2 pk_X11_cell = true := by decide +kernel
set_option maxRecDepth 100000 in
theorem pg_X11_cell_27 {lf : pj_Z → mj_M} (hT : pj_Lt pj_TC lf) : ∀  (s : Nat → Int32) (l : Nat → Int64) (x : Nat → Int32) (y : Nat → Int64) (a : Int32 × pj_Z), pl_X11_cell_27 s l x y = some a → pm_Gd 1 11019 ie_X11_cell.1 pm_rI lf 27 [] [] (s, l, x, y) a := by
  intro  s l x y a h
  exact pm_run ((pq_X11_cell_27   s l x y).symm.trans h) (pz_X11_cell hT) (pm_bks_ok pb_X11_cell) (pm_bks_ok pb_X11_cell _ _ rfl) (pm_ndb_ok rfl) (fun _ _ h => by cases h)
set_option maxRecDepth 100000 in
theorem pm_X11_cell {lf : pj_Z → mj_M} (hT : pj_Lt pj_TC lf) (a1 : Int32) (a2 : Int32) (a3 : Int32) (a4 : Int32) (s : Nat → Int32) (l : Nat → Int64) (x : Nat → Int32) (y : Nat → Int64) (a : Int32 × pj_Z) (h : pf_X11_cell a1 a2 a3 a4 s l x y = some a) : mj_R ic_P 2 11019 [.ref 0, .int a1, .int a2, .int a3, .int a4] (lf (s, l, x, y)) (pm_rI a.1) (lf a.2) := by
  refine pm_main (Y := ie_X11_cell.1) rfl (Nat.le_of_ble_eq_true rfl) ?_
  exact pm_run ((pq_X11_cell_m a1 a2 a3 a4 s l x y).symm.trans h) (pz_X11_cell hT) (pm_bks_ok pb_X11_cell) (pm_bks_ok pb_X11_cell _ _ rfl) (pm_ndb_ok rfl) (pj_as_all (p := pm_Ex 1 11019 ie_X11_cell.1 pm_rI lf a) (List.forall_mem_cons.mpr ⟨pu_X11_cell_27 _ (fun  s l x y h => pg_X11_cell_27 hT  s l x y _ h), (fun _ h => by cases h)⟩))
abbrev ph_X11_cell {A : Type} : List pj_V → pj_Z → (List pj_V → pj_Z → Option A) → Option A := fun st z K => pj_pi st fun a4 st => pj_pi st fun a3 st => pj_pi st fun a2 st => pj_pi st fun a1 st => pj_pr st 0 0 fun st => pj_ps st (pj_b (pf_X11_cell a1 a2 a3 a4 z.1 z.2.1 z.2.2.1 z.2.2.2) fun r s l x y => K (pj_I r :: st) (s, l, x, y))
set_option maxRecDepth 100000 in
theorem pc_X11_cell {A : Type} {OK : A → Option Value → mj_M → Prop} {d j pc ix : Nat} {Y : mj_Y} {lf : pj_Z → mj_M} (hT : pj_Lt pj_TC lf) (hd : 2 ≤ d) (hl : mj_lk Y.2.2.2.2 pc = some (.invokevirtual ix, 3)) (hg : mj_pG ic_P j ix = some (11019, 4, some 11)) {lv : List (Nat × Value)} {st : List pj_V} {z : pj_Z} {K : List pj_V → pj_Z → Option A} {a : A} (hK : ∀ st z, K st z = some a → pj_Gd ic_P (mj_R ic_P d) j Y OK lf (pc + 3) lv (pj_es st) z a) (h : ph_X11_cell st z K = some a) : pj_Gd ic_P (mj_R ic_P d) j Y OK lf pc lv (pj_es st) z a := by
  obtain ⟨a4, r4, e4, h⟩ := pj_pi_inv h
  obtain ⟨a3, r3, e3, h⟩ := pj_pi_inv h
  obtain ⟨a2, r2, e2, h⟩ := pj_pi_inv h
  obtain ⟨a1, r1, e1, h⟩ := pj_pi_inv h
  obtain ⟨r0, e0, h⟩ := pj_pr_inv h
  obtain ⟨hs, h⟩ := pj_ps_inv h
  obtain ⟨q, hq, h⟩ := pj_b_inv h
  exact pm_cv (o := 0) hl hg [.int a1, .int a2, .int a3, .int a4] rfl (by rw [e4, e3, e2, e1, e0]; rfl) hs (by decide) ((hT.2 0 _ rfl).1.2 z 0 (by decide)) (pm_rI q.1) hd (pm_X11_cell hT a1 a2 a3 a4 z.1 z.2.1 z.2.2.1 z.2.2.2 q hq) rfl (hK _ _ h)
abbrev pe_X11_value_9 (f : pj_F (Int32 × pj_Z)) : pj_K (Int32 × pj_Z) := fun lv st z => pj_pe st (f  z.1 z.2.1 z.2.2.1 z.2.2.2)
abbrev px_X11_value : pj_C (Int32 × pj_Z) := ((pj_as [(0, 11, 17, 1, 0, true, 0, [(2, 1), (2, 20), (2, 58), (2, 68), (2, 82), (2, 83), (2, 85), (2, 96), (2, 102), (2, 106), (2, 122), (0, 93), (0, 94), (0, 95), (1, 1), (1, 2), (0, 96)])]), (pj_as [(10, 11, 0, 2, true)]), (fun _ => none), (fun _ => none), (fun _ => none), ic_X, 4, 1, pj_mI, (pj_as [(27, ph_X4_mapValue)]), fun _ => false)
abbrev pk_X11_value : List (Nat × List (Nat × Instr × Nat)) := [(0, [(0, .iload_n 1, 1), (1, .ifCond .lt 8, 3)]), (4, [(4, .iload_n 1, 1), (5, .iconst 1, 1), (6, .if_icmp .le 14, 3)]), (9, [(9, .new 158, 3)]), (20, [(20, .aload_n 0, 1), (21, .getfield 10, 3), (24, .iload_n 1, 1), (25, .iload_n 2, 1), (26, .iload_n 3, 1), (27, .invokevirtual 276, 3), (30, .ireturn, 1)])]
set_option maxRecDepth 100000 in
theorem pq_X11_value_9   (s : Nat → Int32) (l : Nat → Int64) (x : Nat → Int32) (y : Nat → Int64) : pl_X11_value_9 s l x y = pj_bl px_X11_value (pj_rn px_X11_value (pj_as pk_X11_value) (fun _ => none) 60) [(9, .new 158, 3)] 9 [] [] (s, l, x, y) := rfl
set_option maxRecDepth 100000 in
theorem pq_X11_value_m  (a1 : Int32) (a2 : Int32) (a3 : Int32) (s : Nat → Int32) (l : Nat → Int64) (x : Nat → Int32) (y : Nat → Int64) : pf_X11_value a1 a2 a3 s l x y = pj_bl px_X11_value (pj_rn px_X11_value (pj_as pk_X11_value) (pj_as [(9, pe_X11_value_9 (pl_X11_value_9))]) 60) [(0, .iload_n 1, 1), (1, .ifCond .lt 8, 3)] 0 [(0, pj_O (0, 0)), (1, pj_I a1), (2, pj_I a2), (3, pj_I a3)] [] (s, l, x, y) := rfl
theorem pu_X11_value_9 {lf : pj_Z → mj_M} {a : Int32 × pj_Z} (f : pj_F (Int32 × pj_Z)) (hf : ∀  (s : Nat → Int32) (l : Nat → Int64) (x : Nat → Int32) (y : Nat → Int64), f  s l x y = some a → pm_Gd 2 11020 ie_X11_value.1 pm_rI lf 9 [] [] (s, l, x, y) a) : pm_Ex 2 11020 ie_X11_value.1 pm_rI lf a 9 (pe_X11_value_9 f) := by
  intro lv st z hd h
  obtain ⟨e9, h⟩ := pj_pe_inv h
  rw [e9]
  exact mj_wp_sub (mj_sub_nil hd) (hf  _ _ _ _ h)
set_option maxRecDepth 100000 in
theorem pz_X11_value {lf : pj_Z → mj_M} (hT : pj_Lt pj_TC lf) : pj_Cok ic_P (mj_R ic_P 2) 11020 ie_X11_value.1 (pm_OK lf pm_rI) lf px_X11_value := by
  exact pm_cok (c := px_X11_value) (pm_part hT (pj_as_all (p := fun b e => pj_TC b = some e) (List.forall_mem_cons.mpr ⟨rfl, (fun _ h => by cases h)⟩))) (pm_in_ok (L := [(10, 11, 0, 2, true)]) (f := mj_pF ic_P 11020) (by decide +kernel)) (fun _ _ h => by cases h) (fun _ _ h => by cases h) (fun _ _ h => by cases h) rfl rfl ⟨by decide, rfl⟩ pm_mI (pj_as_all (p := pm_Cl 2 11020 ie_X11_value.1 lf (pm_OK lf pm_rI)) (List.forall_mem_cons.mpr ⟨fun _ _ lv st z K a hK h => pc_X4_mapValue hT (by decide) (ix := 276) rfl rfl hK h, (fun _ h => by cases h)⟩)) (fun _ h => by cases h)
set_option maxRecDepth 100000 in
theorem pb_X11_value : pm_bks ie_X11_value.1.2.2.2.2 pk_X11_value = true := by decide +kernel
set_option maxRecDepth 100000 in
theorem pg_X11_value_9 {lf : pj_Z → mj_M} (hT : pj_Lt pj_TC lf) : ∀  (s : Nat → Int32) (l : Nat → Int64) (x : Nat → Int32) (y : Nat → Int64) (a : Int32 × pj_Z), pl_X11_value_9 s l x y = some a → pm_Gd 2 11020 ie_X11_value.1 pm_rI lf 9 [] [] (s, l, x, y) a := by
  intro  s l x y a h
  exact pm_run ((pq_X11_value_9   s l x y).symm.trans h) (pz_X11_value hT) (pm_bks_ok pb_X11_value) (pm_bks_ok pb_X11_value _ _ rfl) (pm_ndb_ok rfl) (fun _ _ h => by cases h)
set_option maxRecDepth 100000 in
theorem pm_X11_value {lf : pj_Z → mj_M} (hT : pj_Lt pj_TC lf) (a1 : Int32) (a2 : Int32) (a3 : Int32) (s : Nat → Int32) (l : Nat → Int64) (x : Nat → Int32) (y : Nat → Int64) (a : Int32 × pj_Z) (h : pf_X11_value a1 a2 a3 s l x y = some a) : mj_R ic_P 3 11020 [.ref 0, .int a1, .int a2, .int a3] (lf (s, l, x, y)) (pm_rI a.1) (lf a.2) := by
  refine pm_main (Y := ie_X11_value.1) rfl (Nat.le_of_ble_eq_true rfl) ?_
  exact pm_run ((pq_X11_value_m a1 a2 a3 s l x y).symm.trans h) (pz_X11_value hT) (pm_bks_ok pb_X11_value) (pm_bks_ok pb_X11_value _ _ rfl) (pm_ndb_ok rfl) (pj_as_all (p := pm_Ex 2 11020 ie_X11_value.1 pm_rI lf a) (List.forall_mem_cons.mpr ⟨pu_X11_value_9 _ (fun  s l x y h => pg_X11_value_9 hT  s l x y _ h), (fun _ h => by cases h)⟩))
abbrev ph_X11_value {A : Type} : List pj_V → pj_Z → (List pj_V → pj_Z → Option A) → Option A := fun st z K => pj_pi st fun a3 st => pj_pi st fun a2 st => pj_pi st fun a1 st => pj_pr st 0 0 fun st => pj_ps st (pj_b (pf_X11_value a1 a2 a3 z.1 z.2.1 z.2.2.1 z.2.2.2) fun r s l x y => K (pj_I r :: st) (s, l, x, y))
set_option maxRecDepth 100000 in
theorem pc_X11_value {A : Type} {OK : A → Option Value → mj_M → Prop} {d j pc ix : Nat} {Y : mj_Y} {lf : pj_Z → mj_M} (hT : pj_Lt pj_TC lf) (hd : 3 ≤ d) (hl : mj_lk Y.2.2.2.2 pc = some (.invokevirtual ix, 3)) (hg : mj_pG ic_P j ix = some (11020, 3, some 11)) {lv : List (Nat × Value)} {st : List pj_V} {z : pj_Z} {K : List pj_V → pj_Z → Option A} {a : A} (hK : ∀ st z, K st z = some a → pj_Gd ic_P (mj_R ic_P d) j Y OK lf (pc + 3) lv (pj_es st) z a) (h : ph_X11_value st z K = some a) : pj_Gd ic_P (mj_R ic_P d) j Y OK lf pc lv (pj_es st) z a := by
  obtain ⟨a3, r3, e3, h⟩ := pj_pi_inv h
  obtain ⟨a2, r2, e2, h⟩ := pj_pi_inv h
  obtain ⟨a1, r1, e1, h⟩ := pj_pi_inv h
  obtain ⟨r0, e0, h⟩ := pj_pr_inv h
  obtain ⟨hs, h⟩ := pj_ps_inv h
  obtain ⟨q, hq, h⟩ := pj_b_inv h
  exact pm_cv (o := 0) hl hg [.int a1, .int a2, .int a3] rfl (by rw [e3, e2, e1, e0]; rfl) hs (by decide) ((hT.2 0 _ rfl).1.2 z 0 (by decide)) (pm_rI q.1) hd (pm_X11_value hT a1 a2 a3 z.1 z.2.1 z.2.2.1 z.2.2.2 q hq) rfl (hK _ _ h)
abbrev px_X4_isNumber : pj_C (Int32 × pj_Z) := ((fun _ => none), (fun _ => none), (fun _ => none), (fun _ => none), (pj_as [(57, 3), (60, 4)]), ic_X, 2, 2, pj_mI, (fun _ => none), fun _ => false)
abbrev pk_X4_isNumber : List (Nat × List (Nat × Instr × Nat)) := [(0, [(0, .iload_n 0, 1), (1, .ifCond .lt 31, 3)]), (4, [(4, .iload_n 0, 1), (5, .bipush 24, 2), (7, .if_icmp .ge 25, 3)]), (10, [(10, .iload_n 1, 1), (11, .getstatic 57, 3), (14, .iload_n 0, 1), (15, .iaload, 1), (16, .if_icmp .lt 16, 3)]), (19, [(19, .iload_n 1, 1), (20, .getstatic 60, 3), (23, .iload_n 0, 1), (24, .iaload, 1), (25, .if_icmp .gt 7, 3)]), (28, [(28, .iconst 1, 1), (29, .goto 4, 3)]), (32, [(32, .iconst 0, 1)]), (33, [(33, .ireturn, 1)])]
set_option maxRecDepth 100000 in
theorem pq_X4_isNumber_m  (a0 : Int32) (a1 : Int32) (s : Nat → Int32) (l : Nat → Int64) (x : Nat → Int32) (y : Nat → Int64) : pf_X4_isNumber a0 a1 s l x y = pj_bl px_X4_isNumber (pj_rn px_X4_isNumber (pj_as pk_X4_isNumber) (fun _ => none) 60) [(0, .iload_n 0, 1), (1, .ifCond .lt 31, 3)] 0 [(0, pj_I a0), (1, pj_I a1)] [] (s, l, x, y) := rfl
set_option maxRecDepth 100000 in
theorem pz_X4_isNumber {lf : pj_Z → mj_M} (hT : pj_Lt pj_TC lf) : pj_Cok ic_P (mj_R ic_P 0) 4001 ie_X4_isNumber.1 (pm_OK lf pm_rI) lf px_X4_isNumber := by
  exact pm_cok (c := px_X4_isNumber) (pm_none hT) (fun _ _ h => by cases h) (fun _ _ h => by cases h) (fun _ _ h => by cases h) (pm_in_ok (L := [(57, 3), (60, 4)]) (f := mj_pS ic_P 4001) (by decide +kernel)) rfl rfl ⟨by decide, rfl⟩ pm_mI (fun _ _ h => by cases h) (fun _ h => by cases h)
set_option maxRecDepth 100000 in
theorem pb_X4_isNumber : pm_bks ie_X4_isNumber.1.2.2.2.2 pk_X4_isNumber = true := by decide +kernel
set_option maxRecDepth 100000 in
theorem pm_X4_isNumber {lf : pj_Z → mj_M} (hT : pj_Lt pj_TC lf) (a0 : Int32) (a1 : Int32) (s : Nat → Int32) (l : Nat → Int64) (x : Nat → Int32) (y : Nat → Int64) (a : Int32 × pj_Z) (h : pf_X4_isNumber a0 a1 s l x y = some a) : mj_R ic_P 1 4001 [.int a0, .int a1] (lf (s, l, x, y)) (pm_rI a.1) (lf a.2) := by
  refine pm_main (Y := ie_X4_isNumber.1) rfl (Nat.le_of_ble_eq_true rfl) ?_
  exact pm_run ((pq_X4_isNumber_m a0 a1 s l x y).symm.trans h) (pz_X4_isNumber hT) (pm_bks_ok pb_X4_isNumber) (pm_bks_ok pb_X4_isNumber _ _ rfl) (pm_ndb_ok rfl) (fun _ _ h => by cases h)
abbrev ph_X4_isNumber {A : Type} : List pj_V → pj_Z → (List pj_V → pj_Z → Option A) → Option A := fun st z K => pj_pi st fun a1 st => pj_pi st fun a0 st => pj_ps st (pj_b (pf_X4_isNumber a0 a1 z.1 z.2.1 z.2.2.1 z.2.2.2) fun r s l x y => K (pj_I r :: st) (s, l, x, y))
set_option maxRecDepth 100000 in
theorem pc_X4_isNumber {A : Type} {OK : A → Option Value → mj_M → Prop} {d j pc ix : Nat} {Y : mj_Y} {lf : pj_Z → mj_M} (hT : pj_Lt pj_TC lf) (hd : 1 ≤ d) (hl : mj_lk Y.2.2.2.2 pc = some (.invokestatic ix, 3)) (hg : mj_pG ic_P j ix = some (4001, 2, none)) {lv : List (Nat × Value)} {st : List pj_V} {z : pj_Z} {K : List pj_V → pj_Z → Option A} {a : A} (hK : ∀ st z, K st z = some a → pj_Gd ic_P (mj_R ic_P d) j Y OK lf (pc + 3) lv (pj_es st) z a) (h : ph_X4_isNumber st z K = some a) : pj_Gd ic_P (mj_R ic_P d) j Y OK lf pc lv (pj_es st) z a := by
  obtain ⟨a1, r1, e1, h⟩ := pj_pi_inv h
  obtain ⟨a0, r0, e0, h⟩ := pj_pi_inv h
  obtain ⟨hs, h⟩ := pj_ps_inv h
  obtain ⟨q, hq, h⟩ := pj_b_inv h
  exact pm_cs hl hg [.int a0, .int a1] rfl (by rw [e1, e0]; rfl) hs (pm_rI q.1) hd (pm_X4_isNumber hT a0 a1 z.1 z.2.1 z.2.2.1 z.2.2.2 q hq) rfl (hK _ _ h)
abbrev pe_X11_calibrate_10 (f : pj_F (Int32 × pj_Z)) : pj_K (Int32 × pj_Z) := fun lv st z => pj_pe st (f  z.1 z.2.1 z.2.2.1 z.2.2.2)
abbrev px_X11_calibrate : pj_C (Int32 × pj_Z) := ((pj_as [(0, 11, 17, 1, 0, true, 0, [(2, 1), (2, 20), (2, 58), (2, 68), (2, 82), (2, 83), (2, 85), (2, 96), (2, 102), (2, 106), (2, 122), (0, 93), (0, 94), (0, 95), (1, 1), (1, 2), (0, 96)]), (1, 4, 10, 1, 0, true, 0, [(2, 2), (2, 3), (2, 8), (2, 11), (2, 14), (2, 17), (2, 18), (2, 19), (0, 44), (1, 3)]), (2, 100, 24, 1, 0, true, 10000, [])]), (pj_as [(10, 11, 0, 2, true), (90, 11, 12, 0, false), (287, 4, 0, 2, true)]), (fun _ => none), (fun _ => none), (fun _ => none), ic_X, 4, 1, pj_mI, (pj_as [(23, ph_X4_isNumber)]), fun _ => false)
abbrev pk_X11_calibrate : List (Nat × List (Nat × Instr × Nat)) := [(0, [(0, .iload_n 1, 1), (1, .ifCond .lt 9, 3)]), (4, [(4, .iload_n 1, 1), (5, .bipush 24, 2), (7, .if_icmp .lt 14, 3)]), (10, [(10, .new 158, 3)]), (21, [(21, .iload_n 1, 1), (22, .iload_n 2, 1), (23, .invokestatic 282, 3), (26, .ifCond .ne 14, 3)]), (29, [(29, .new 107, 3)]), (40, [(40, .aload_n 0, 1), (41, .getfield 90, 3), (44, .ifCond .eq 13, 3)]), (47, [(47, .new 189, 3)]), (57, [(57, .aload_n 0, 1), (58, .getfield 10, 3), (61, .getfield 287, 3), (64, .iload_n 1, 1), (65, .iaload, 1), (66, .istore_n 3, 1), (67, .aload_n 0, 1), (68, .getfield 10, 3), (71, .getfield 287, 3), (74, .iload_n 1, 1), (75, .iload_n 2, 1), (76, .iastore, 1), (77, .iload_n 3, 1), (78, .ireturn, 1)])]
set_option maxRecDepth 100000 in
theorem pq_X11_calibrate_10   (s : Nat → Int32) (l : Nat → Int64) (x : Nat → Int32) (y : Nat → Int64) : pl_X11_calibrate_10 s l x y = pj_bl px_X11_calibrate (pj_rn px_X11_calibrate (pj_as pk_X11_calibrate) (fun _ => none) 60) [(10, .new 158, 3)] 10 [] [] (s, l, x, y) := rfl
set_option maxRecDepth 100000 in
theorem pq_X11_calibrate_m  (a1 : Int32) (a2 : Int32) (s : Nat → Int32) (l : Nat → Int64) (x : Nat → Int32) (y : Nat → Int64) : pf_X11_calibrate a1 a2 s l x y = pj_bl px_X11_calibrate (pj_rn px_X11_calibrate (pj_as pk_X11_calibrate) (pj_as [(10, pe_X11_calibrate_10 (pl_X11_calibrate_10))]) 60) [(0, .iload_n 1, 1), (1, .ifCond .lt 9, 3)] 0 [(0, pj_O (0, 0)), (1, pj_I a1), (2, pj_I a2)] [] (s, l, x, y) := rfl
theorem pu_X11_calibrate_10 {lf : pj_Z → mj_M} {a : Int32 × pj_Z} (f : pj_F (Int32 × pj_Z)) (hf : ∀  (s : Nat → Int32) (l : Nat → Int64) (x : Nat → Int32) (y : Nat → Int64), f  s l x y = some a → pm_Gd 1 11021 ie_X11_calibrate.1 pm_rI lf 10 [] [] (s, l, x, y) a) : pm_Ex 1 11021 ie_X11_calibrate.1 pm_rI lf a 10 (pe_X11_calibrate_10 f) := by
  intro lv st z hd h
  obtain ⟨e9, h⟩ := pj_pe_inv h
  rw [e9]
  exact mj_wp_sub (mj_sub_nil hd) (hf  _ _ _ _ h)
set_option maxRecDepth 100000 in
theorem pz_X11_calibrate {lf : pj_Z → mj_M} (hT : pj_Lt pj_TC lf) : pj_Cok ic_P (mj_R ic_P 1) 11021 ie_X11_calibrate.1 (pm_OK lf pm_rI) lf px_X11_calibrate := by
  exact pm_cok (c := px_X11_calibrate) (pm_part hT (pj_as_all (p := fun b e => pj_TC b = some e) (List.forall_mem_cons.mpr ⟨rfl, (List.forall_mem_cons.mpr ⟨rfl, (List.forall_mem_cons.mpr ⟨rfl, (fun _ h => by cases h)⟩)⟩)⟩))) (pm_in_ok (L := [(10, 11, 0, 2, true), (90, 11, 12, 0, false), (287, 4, 0, 2, true)]) (f := mj_pF ic_P 11021) (by decide +kernel)) (fun _ _ h => by cases h) (fun _ _ h => by cases h) (fun _ _ h => by cases h) rfl rfl ⟨by decide, rfl⟩ pm_mI (pj_as_all (p := pm_Cl 1 11021 ie_X11_calibrate.1 lf (pm_OK lf pm_rI)) (List.forall_mem_cons.mpr ⟨fun _ _ lv st z K a hK h => pc_X4_isNumber hT (by decide) (ix := 282) rfl rfl hK h, (fun _ h => by cases h)⟩)) (fun _ h => by cases h)
set_option maxRecDepth 100000 in
theorem pb_X11_calibrate : pm_bks ie_X11_calibrate.1.2.2.2.2 pk_X11_calibrate = true := by decide +kernel
set_option maxRecDepth 100000 in
theorem pg_X11_calibrate_10 {lf : pj_Z → mj_M} (hT : pj_Lt pj_TC lf) : ∀  (s : Nat → Int32) (l : Nat → Int64) (x : Nat → Int32) (y : Nat → Int64) (a : Int32 × pj_Z), pl_X11_calibrate_10 s l x y = some a → pm_Gd 1 11021 ie_X11_calibrate.1 pm_rI lf 10 [] [] (s, l, x, y) a := by
  intro  s l x y a h
  exact pm_run ((pq_X11_calibrate_10   s l x y).symm.trans h) (pz_X11_calibrate hT) (pm_bks_ok pb_X11_calibrate) (pm_bks_ok pb_X11_calibrate _ _ rfl) (pm_ndb_ok rfl) (fun _ _ h => by cases h)
set_option maxRecDepth 100000 in
theorem pm_X11_calibrate {lf : pj_Z → mj_M} (hT : pj_Lt pj_TC lf) (a1 : Int32) (a2 : Int32) (s : Nat → Int32) (l : Nat → Int64) (x : Nat → Int32) (y : Nat → Int64) (a : Int32 × pj_Z) (h : pf_X11_calibrate a1 a2 s l x y = some a) : mj_R ic_P 2 11021 [.ref 0, .int a1, .int a2] (lf (s, l, x, y)) (pm_rI a.1) (lf a.2) := by
  refine pm_main (Y := ie_X11_calibrate.1) rfl (Nat.le_of_ble_eq_true rfl) ?_
  exact pm_run ((pq_X11_calibrate_m a1 a2 s l x y).symm.trans h) (pz_X11_calibrate hT) (pm_bks_ok pb_X11_calibrate) (pm_bks_ok pb_X11_calibrate _ _ rfl) (pm_ndb_ok rfl) (pj_as_all (p := pm_Ex 1 11021 ie_X11_calibrate.1 pm_rI lf a) (List.forall_mem_cons.mpr ⟨pu_X11_calibrate_10 _ (fun  s l x y h => pg_X11_calibrate_10 hT  s l x y _ h), (fun _ h => by cases h)⟩))
abbrev ph_X11_calibrate {A : Type} : List pj_V → pj_Z → (List pj_V → pj_Z → Option A) → Option A := fun st z K => pj_pi st fun a2 st => pj_pi st fun a1 st => pj_pr st 0 0 fun st => pj_ps st (pj_b (pf_X11_calibrate a1 a2 z.1 z.2.1 z.2.2.1 z.2.2.2) fun r s l x y => K (pj_I r :: st) (s, l, x, y))
set_option maxRecDepth 100000 in
theorem pc_X11_calibrate {A : Type} {OK : A → Option Value → mj_M → Prop} {d j pc ix : Nat} {Y : mj_Y} {lf : pj_Z → mj_M} (hT : pj_Lt pj_TC lf) (hd : 2 ≤ d) (hl : mj_lk Y.2.2.2.2 pc = some (.invokevirtual ix, 3)) (hg : mj_pG ic_P j ix = some (11021, 2, some 11)) {lv : List (Nat × Value)} {st : List pj_V} {z : pj_Z} {K : List pj_V → pj_Z → Option A} {a : A} (hK : ∀ st z, K st z = some a → pj_Gd ic_P (mj_R ic_P d) j Y OK lf (pc + 3) lv (pj_es st) z a) (h : ph_X11_calibrate st z K = some a) : pj_Gd ic_P (mj_R ic_P d) j Y OK lf pc lv (pj_es st) z a := by
  obtain ⟨a2, r2, e2, h⟩ := pj_pi_inv h
  obtain ⟨a1, r1, e1, h⟩ := pj_pi_inv h
  obtain ⟨r0, e0, h⟩ := pj_pr_inv h
  obtain ⟨hs, h⟩ := pj_ps_inv h
  obtain ⟨q, hq, h⟩ := pj_b_inv h
  exact pm_cv (o := 0) hl hg [.int a1, .int a2] rfl (by rw [e2, e1, e0]; rfl) hs (by decide) ((hT.2 0 _ rfl).1.2 z 0 (by decide)) (pm_rI q.1) hd (pm_X11_calibrate hT a1 a2 z.1 z.2.1 z.2.2.1 z.2.2.2 q hq) rfl (hK _ _ h)
abbrev pe_X11_spoil_19 (f : pj_F (Int32 × pj_Z)) : pj_K (Int32 × pj_Z) := fun lv st z => pj_pe st (f  z.1 z.2.1 z.2.2.1 z.2.2.2)
abbrev px_X11_spoil : pj_C (Int32 × pj_Z) := ((pj_as [(0, 11, 17, 1, 0, true, 0, [(2, 1), (2, 20), (2, 58), (2, 68), (2, 82), (2, 83), (2, 85), (2, 96), (2, 102), (2, 106), (2, 122), (0, 93), (0, 94), (0, 95), (1, 1), (1, 2), (0, 96)]), (1, 4, 10, 1, 0, true, 0, [(2, 2), (2, 3), (2, 8), (2, 11), (2, 14), (2, 17), (2, 18), (2, 19), (0, 44), (1, 3)]), (11, 103, 2, 1, 0, true, 12, []), (12, 100, 55, 2, 1, true, 13000, [])]), (pj_as [(10, 11, 0, 2, true), (90, 11, 12, 0, false), (292, 4, 3, 2, true)]), (fun _ => none), (fun _ => none), (fun _ => none), ic_X, 5, 1, pj_mI, (pj_as [(77, ph_X4_lookOver)]), fun _ => false)
abbrev pk_X11_spoil : List (Nat × List (Nat × Instr × Nat)) := [(0, [(0, .iload_n 1, 1), (1, .ifCond .lt 18, 3)]), (4, [(4, .iload_n 1, 1), (5, .iconst 1, 1), (6, .if_icmp .gt 13, 3)]), (9, [(9, .iload_n 2, 1), (10, .ifCond .lt 9, 3)]), (13, [(13, .iload_n 2, 1), (14, .bipush 55, 2), (16, .if_icmp .lt 14, 3)]), (19, [(19, .new 158, 3)]), (30, [(30, .aload_n 0, 1), (31, .getfield 90, 3), (34, .ifCond .eq 13, 3)]), (37, [(37, .new 189, 3)]), (47, [(47, .aload_n 0, 1), (48, .getfield 10, 3), (51, .getfield 292, 3), (54, .iload_n 1, 1), (55, .aaload, 1), (56, .iload_n 2, 1), (57, .iaload, 1), (58, .istore 4, 2), (60, .aload_n 0, 1), (61, .getfield 10, 3), (64, .getfield 292, 3), (67, .iload_n 1, 1), (68, .aaload, 1), (69, .iload_n 2, 1), (70, .iload_n 3, 1), (71, .iastore, 1), (72, .aload_n 0, 1), (73, .getfield 10, 3), (76, .iconst 0, 1), (77, .invokevirtual 295, 3), (80, .iload 4, 2), (82, .ireturn, 1)])]
set_option maxRecDepth 100000 in
theorem pq_X11_spoil_19   (s : Nat → Int32) (l : Nat → Int64) (x : Nat → Int32) (y : Nat → Int64) : pl_X11_spoil_19 s l x y = pj_bl px_X11_spoil (pj_rn px_X11_spoil (pj_as pk_X11_spoil) (fun _ => none) 60) [(19, .new 158, 3)] 19 [] [] (s, l, x, y) := rfl
set_option maxRecDepth 100000 in
theorem pq_X11_spoil_m  (a1 : Int32) (a2 : Int32) (a3 : Int32) (s : Nat → Int32) (l : Nat → Int64) (x : Nat → Int32) (y : Nat → Int64) : pf_X11_spoil a1 a2 a3 s l x y = pj_bl px_X11_spoil (pj_rn px_X11_spoil (pj_as pk_X11_spoil) (pj_as [(19, pe_X11_spoil_19 (pl_X11_spoil_19))]) 60) [(0, .iload_n 1, 1), (1, .ifCond .lt 18, 3)] 0 [(0, pj_O (0, 0)), (1, pj_I a1), (2, pj_I a2), (3, pj_I a3)] [] (s, l, x, y) := rfl
theorem pu_X11_spoil_19 {lf : pj_Z → mj_M} {a : Int32 × pj_Z} (f : pj_F (Int32 × pj_Z)) (hf : ∀  (s : Nat → Int32) (l : Nat → Int64) (x : Nat → Int32) (y : Nat → Int64), f  s l x y = some a → pm_Gd 3 11022 ie_X11_spoil.1 pm_rI lf 19 [] [] (s, l, x, y) a) : pm_Ex 3 11022 ie_X11_spoil.1 pm_rI lf a 19 (pe_X11_spoil_19 f) := by
  intro lv st z hd h
  obtain ⟨e9, h⟩ := pj_pe_inv h
  rw [e9]
  exact mj_wp_sub (mj_sub_nil hd) (hf  _ _ _ _ h)
set_option maxRecDepth 100000 in
theorem pz_X11_spoil {lf : pj_Z → mj_M} (hT : pj_Lt pj_TC lf) : pj_Cok ic_P (mj_R ic_P 3) 11022 ie_X11_spoil.1 (pm_OK lf pm_rI) lf px_X11_spoil := by
  exact pm_cok (c := px_X11_spoil) (pm_part hT (pj_as_all (p := fun b e => pj_TC b = some e) (List.forall_mem_cons.mpr ⟨rfl, (List.forall_mem_cons.mpr ⟨rfl, (List.forall_mem_cons.mpr ⟨rfl, (List.forall_mem_cons.mpr ⟨rfl, (fun _ h => by cases h)⟩)⟩)⟩)⟩))) (pm_in_ok (L := [(10, 11, 0, 2, true), (90, 11, 12, 0, false), (292, 4, 3, 2, true)]) (f := mj_pF ic_P 11022) (by decide +kernel)) (fun _ _ h => by cases h) (fun _ _ h => by cases h) (fun _ _ h => by cases h) rfl rfl ⟨by decide, rfl⟩ pm_mI (pj_as_all (p := pm_Cl 3 11022 ie_X11_spoil.1 lf (pm_OK lf pm_rI)) (List.forall_mem_cons.mpr ⟨fun _ _ lv st z K a hK h => pc_X4_lookOver hT (by decide) (ix := 295) rfl rfl hK h, (fun _ h => by cases h)⟩)) (fun _ h => by cases h)
set_option maxRecDepth 100000 in
theorem pb_X11_spoil : pm_bks ie_X11_spoil.1.2.2.2.2 pk_X11_spoil = true := by decide +kernel
set_option maxRecDepth 100000 in
theorem pg_X11_spoil_19 {lf : pj_Z → mj_M} (hT : pj_Lt pj_TC lf) : ∀  (s : Nat → Int32) (l : Nat → Int64) (x : Nat → Int32) (y : Nat → Int64) (a : Int32 × pj_Z), pl_X11_spoil_19 s l x y = some a → pm_Gd 3 11022 ie_X11_spoil.1 pm_rI lf 19 [] [] (s, l, x, y) a := by
  intro  s l x y a h
  exact pm_run ((pq_X11_spoil_19   s l x y).symm.trans h) (pz_X11_spoil hT) (pm_bks_ok pb_X11_spoil) (pm_bks_ok pb_X11_spoil _ _ rfl) (pm_ndb_ok rfl) (fun _ _ h => by cases h)
set_option maxRecDepth 100000 in
theorem pm_X11_spoil {lf : pj_Z → mj_M} (hT : pj_Lt pj_TC lf) (a1 : Int32) (a2 : Int32) (a3 : Int32) (s : Nat → Int32) (l : Nat → Int64) (x : Nat → Int32) (y : Nat → Int64) (a : Int32 × pj_Z) (h : pf_X11_spoil a1 a2 a3 s l x y = some a) : mj_R ic_P 4 11022 [.ref 0, .int a1, .int a2, .int a3] (lf (s, l, x, y)) (pm_rI a.1) (lf a.2) := by
  refine pm_main (Y := ie_X11_spoil.1) rfl (Nat.le_of_ble_eq_true rfl) ?_
  exact pm_run ((pq_X11_spoil_m a1 a2 a3 s l x y).symm.trans h) (pz_X11_spoil hT) (pm_bks_ok pb_X11_spoil) (pm_bks_ok pb_X11_spoil _ _ rfl) (pm_ndb_ok rfl) (pj_as_all (p := pm_Ex 3 11022 ie_X11_spoil.1 pm_rI lf a) (List.forall_mem_cons.mpr ⟨pu_X11_spoil_19 _ (fun  s l x y h => pg_X11_spoil_19 hT  s l x y _ h), (fun _ h => by cases h)⟩))
abbrev ph_X11_spoil {A : Type} : List pj_V → pj_Z → (List pj_V → pj_Z → Option A) → Option A := fun st z K => pj_pi st fun a3 st => pj_pi st fun a2 st => pj_pi st fun a1 st => pj_pr st 0 0 fun st => pj_ps st (pj_b (pf_X11_spoil a1 a2 a3 z.1 z.2.1 z.2.2.1 z.2.2.2) fun r s l x y => K (pj_I r :: st) (s, l, x, y))
set_option maxRecDepth 100000 in
theorem pc_X11_spoil {A : Type} {OK : A → Option Value → mj_M → Prop} {d j pc ix : Nat} {Y : mj_Y} {lf : pj_Z → mj_M} (hT : pj_Lt pj_TC lf) (hd : 4 ≤ d) (hl : mj_lk Y.2.2.2.2 pc = some (.invokevirtual ix, 3)) (hg : mj_pG ic_P j ix = some (11022, 3, some 11)) {lv : List (Nat × Value)} {st : List pj_V} {z : pj_Z} {K : List pj_V → pj_Z → Option A} {a : A} (hK : ∀ st z, K st z = some a → pj_Gd ic_P (mj_R ic_P d) j Y OK lf (pc + 3) lv (pj_es st) z a) (h : ph_X11_spoil st z K = some a) : pj_Gd ic_P (mj_R ic_P d) j Y OK lf pc lv (pj_es st) z a := by
  obtain ⟨a3, r3, e3, h⟩ := pj_pi_inv h
  obtain ⟨a2, r2, e2, h⟩ := pj_pi_inv h
  obtain ⟨a1, r1, e1, h⟩ := pj_pi_inv h
  obtain ⟨r0, e0, h⟩ := pj_pr_inv h
  obtain ⟨hs, h⟩ := pj_ps_inv h
  obtain ⟨q, hq, h⟩ := pj_b_inv h
  exact pm_cv (o := 0) hl hg [.int a1, .int a2, .int a3] rfl (by rw [e3, e2, e1, e0]; rfl) hs (by decide) ((hT.2 0 _ rfl).1.2 z 0 (by decide)) (pm_rI q.1) hd (pm_X11_spoil hT a1 a2 a3 z.1 z.2.1 z.2.2.1 z.2.2.2 q hq) rfl (hK _ _ h)
abbrev pe_X11_word_19 (f : pj_F (Int32 × pj_Z)) : pj_K (Int32 × pj_Z) := fun lv st z => pj_pe st (f  z.1 z.2.1 z.2.2.1 z.2.2.2)
abbrev px_X11_word : pj_C (Int32 × pj_Z) := ((pj_as [(0, 11, 17, 1, 0, true, 0, [(2, 1), (2, 20), (2, 58), (2, 68), (2, 82), (2, 83), (2, 85), (2, 96), (2, 102), (2, 106), (2, 122), (0, 93), (0, 94), (0, 95), (1, 1), (1, 2), (0, 96)]), (1, 4, 10, 1, 0, true, 0, [(2, 2), (2, 3), (2, 8), (2, 11), (2, 14), (2, 17), (2, 18), (2, 19), (0, 44), (1, 3)]), (11, 103, 2, 1, 0, true, 12, []), (12, 100, 55, 2, 1, true, 13000, [])]), (pj_as [(10, 11, 0, 2, true), (292, 4, 3, 2, true)]), (fun _ => none), (fun _ => none), (fun _ => none), ic_X, 3, 1, pj_mI, (fun _ => none), fun _ => false)
abbrev pk_X11_word : List (Nat × List (Nat × Instr × Nat)) := [(0, [(0, .iload_n 1, 1), (1, .ifCond .lt 18, 3)]), (4, [(4, .iload_n 1, 1), (5, .iconst 1, 1), (6, .if_icmp .gt 13, 3)]), (9, [(9, .iload_n 2, 1), (10, .ifCond .lt 9, 3)]), (13, [(13, .iload_n 2, 1), (14, .bipush 55, 2), (16, .if_icmp .lt 14, 3)]), (19, [(19, .new 158, 3)]), (30, [(30, .aload_n 0, 1), (31, .getfield 10, 3), (34, .getfield 292, 3), (37, .iload_n 1, 1), (38, .aaload, 1), (39, .iload_n 2, 1), (40, .iaload, 1), (41, .ireturn, 1)])]
set_option maxRecDepth 100000 in
theorem pq_X11_word_19   (s : Nat → Int32) (l : Nat → Int64) (x : Nat → Int32) (y : Nat → Int64) : pl_X11_word_19 s l x y = pj_bl px_X11_word (pj_rn px_X11_word (pj_as pk_X11_word) (fun _ => none) 60) [(19, .new 158, 3)] 19 [] [] (s, l, x, y) := rfl
set_option maxRecDepth 100000 in
theorem pq_X11_word_m  (a1 : Int32) (a2 : Int32) (s : Nat → Int32) (l : Nat → Int64) (x : Nat → Int32) (y : Nat → Int64) : pf_X11_word a1 a2 s l x y = pj_bl px_X11_word (pj_rn px_X11_word (pj_as pk_X11_word) (pj_as [(19, pe_X11_word_19 (pl_X11_word_19))]) 60) [(0, .iload_n 1, 1), (1, .ifCond .lt 18, 3)] 0 [(0, pj_O (0, 0)), (1, pj_I a1), (2, pj_I a2)] [] (s, l, x, y) := rfl
theorem pu_X11_word_19 {lf : pj_Z → mj_M} {a : Int32 × pj_Z} (f : pj_F (Int32 × pj_Z)) (hf : ∀  (s : Nat → Int32) (l : Nat → Int64) (x : Nat → Int32) (y : Nat → Int64), f  s l x y = some a → pm_Gd 0 11023 ie_X11_word.1 pm_rI lf 19 [] [] (s, l, x, y) a) : pm_Ex 0 11023 ie_X11_word.1 pm_rI lf a 19 (pe_X11_word_19 f) := by
  intro lv st z hd h
  obtain ⟨e9, h⟩ := pj_pe_inv h
  rw [e9]
  exact mj_wp_sub (mj_sub_nil hd) (hf  _ _ _ _ h)
set_option maxRecDepth 100000 in
theorem pz_X11_word {lf : pj_Z → mj_M} (hT : pj_Lt pj_TC lf) : pj_Cok ic_P (mj_R ic_P 0) 11023 ie_X11_word.1 (pm_OK lf pm_rI) lf px_X11_word := by
  exact pm_cok (c := px_X11_word) (pm_part hT (pj_as_all (p := fun b e => pj_TC b = some e) (List.forall_mem_cons.mpr ⟨rfl, (List.forall_mem_cons.mpr ⟨rfl, (List.forall_mem_cons.mpr ⟨rfl, (List.forall_mem_cons.mpr ⟨rfl, (fun _ h => by cases h)⟩)⟩)⟩)⟩))) (pm_in_ok (L := [(10, 11, 0, 2, true), (292, 4, 3, 2, true)]) (f := mj_pF ic_P 11023) (by decide +kernel)) (fun _ _ h => by cases h) (fun _ _ h => by cases h) (fun _ _ h => by cases h) rfl rfl ⟨by decide, rfl⟩ pm_mI (fun _ _ h => by cases h) (fun _ h => by cases h)
set_option maxRecDepth 100000 in
theorem pb_X11_word : pm_bks ie_X11_word.1.2.2.2.2 pk_X11_word = true := by decide +kernel
set_option maxRecDepth 100000 in
theorem pg_X11_word_19 {lf : pj_Z → mj_M} (hT : pj_Lt pj_TC lf) : ∀  (s : Nat → Int32) (l : Nat → Int64) (x : Nat → Int32) (y : Nat → Int64) (a : Int32 × pj_Z), pl_X11_word_19 s l x y = some a → pm_Gd 0 11023 ie_X11_word.1 pm_rI lf 19 [] [] (s, l, x, y) a := by
  intro  s l x y a h
  exact pm_run ((pq_X11_word_19   s l x y).symm.trans h) (pz_X11_word hT) (pm_bks_ok pb_X11_word) (pm_bks_ok pb_X11_word _ _ rfl) (pm_ndb_ok rfl) (fun _ _ h => by cases h)
set_option maxRecDepth 100000 in
theorem pm_X11_word {lf : pj_Z → mj_M} (hT : pj_Lt pj_TC lf) (a1 : Int32) (a2 : Int32) (s : Nat → Int32) (l : Nat → Int64) (x : Nat → Int32) (y : Nat → Int64) (a : Int32 × pj_Z) (h : pf_X11_word a1 a2 s l x y = some a) : mj_R ic_P 1 11023 [.ref 0, .int a1, .int a2] (lf (s, l, x, y)) (pm_rI a.1) (lf a.2) := by
  refine pm_main (Y := ie_X11_word.1) rfl (Nat.le_of_ble_eq_true rfl) ?_
  exact pm_run ((pq_X11_word_m a1 a2 s l x y).symm.trans h) (pz_X11_word hT) (pm_bks_ok pb_X11_word) (pm_bks_ok pb_X11_word _ _ rfl) (pm_ndb_ok rfl) (pj_as_all (p := pm_Ex 0 11023 ie_X11_word.1 pm_rI lf a) (List.forall_mem_cons.mpr ⟨pu_X11_word_19 _ (fun  s l x y h => pg_X11_word_19 hT  s l x y _ h), (fun _ h => by cases h)⟩))
abbrev ph_X11_word {A : Type} : List pj_V → pj_Z → (List pj_V → pj_Z → Option A) → Option A := fun st z K => pj_pi st fun a2 st => pj_pi st fun a1 st => pj_pr st 0 0 fun st => pj_ps st (pj_b (pf_X11_word a1 a2 z.1 z.2.1 z.2.2.1 z.2.2.2) fun r s l x y => K (pj_I r :: st) (s, l, x, y))
set_option maxRecDepth 100000 in
theorem pc_X11_word {A : Type} {OK : A → Option Value → mj_M → Prop} {d j pc ix : Nat} {Y : mj_Y} {lf : pj_Z → mj_M} (hT : pj_Lt pj_TC lf) (hd : 1 ≤ d) (hl : mj_lk Y.2.2.2.2 pc = some (.invokevirtual ix, 3)) (hg : mj_pG ic_P j ix = some (11023, 2, some 11)) {lv : List (Nat × Value)} {st : List pj_V} {z : pj_Z} {K : List pj_V → pj_Z → Option A} {a : A} (hK : ∀ st z, K st z = some a → pj_Gd ic_P (mj_R ic_P d) j Y OK lf (pc + 3) lv (pj_es st) z a) (h : ph_X11_word st z K = some a) : pj_Gd ic_P (mj_R ic_P d) j Y OK lf pc lv (pj_es st) z a := by
  obtain ⟨a2, r2, e2, h⟩ := pj_pi_inv h
  obtain ⟨a1, r1, e1, h⟩ := pj_pi_inv h
  obtain ⟨r0, e0, h⟩ := pj_pr_inv h
  obtain ⟨hs, h⟩ := pj_ps_inv h
  obtain ⟨q, hq, h⟩ := pj_b_inv h
  exact pm_cv (o := 0) hl hg [.int a1, .int a2] rfl (by rw [e2, e1, e0]; rfl) hs (by decide) ((hT.2 0 _ rfl).1.2 z 0 (by decide)) (pm_rI q.1) hd (pm_X11_word hT a1 a2 z.1 z.2.1 z.2.2.1 z.2.2.2 q hq) rfl (hK _ _ h)
abbrev pe_X11_page_19 (f : pj_F (Int32 × pj_Z)) : pj_K (Int32 × pj_Z) := fun lv st z => pj_pe st (f  z.1 z.2.1 z.2.2.1 z.2.2.2)
abbrev px_X11_page : pj_C (Int32 × pj_Z) := ((pj_as [(0, 11, 17, 1, 0, true, 0, [(2, 1), (2, 20), (2, 58), (2, 68), (2, 82), (2, 83), (2, 85), (2, 96), (2, 102), (2, 106), (2, 122), (0, 93), (0, 94), (0, 95), (1, 1), (1, 2), (0, 96)]), (1, 4, 10, 1, 0, true, 0, [(2, 2), (2, 3), (2, 8), (2, 11), (2, 14), (2, 17), (2, 18), (2, 19), (0, 44), (1, 3)]), (14, 103, 2, 1, 0, true, 15, []), (15, 100, 34, 2, 1, true, 14000, [])]), (pj_as [(10, 11, 0, 2, true), (299, 4, 4, 2, true)]), (fun _ => none), (fun _ => none), (fun _ => none), ic_X, 3, 1, pj_mI, (fun _ => none), fun _ => false)
abbrev pk_X11_page : List (Nat × List (Nat × Instr × Nat)) := [(0, [(0, .iload_n 1, 1), (1, .ifCond .lt 18, 3)]), (4, [(4, .iload_n 1, 1), (5, .iconst 1, 1), (6, .if_icmp .gt 13, 3)]), (9, [(9, .iload_n 2, 1), (10, .ifCond .lt 9, 3)]), (13, [(13, .iload_n 2, 1), (14, .bipush 34, 2), (16, .if_icmp .lt 14, 3)]), (19, [(19, .new 158, 3)]), (30, [(30, .aload_n 0, 1), (31, .getfield 10, 3), (34, .getfield 299, 3), (37, .iload_n 1, 1), (38, .aaload, 1), (39, .iload_n 2, 1), (40, .iaload, 1), (41, .ireturn, 1)])]
set_option maxRecDepth 100000 in
theorem pq_X11_page_19   (s : Nat → Int32) (l : Nat → Int64) (x : Nat → Int32) (y : Nat → Int64) : pl_X11_page_19 s l x y = pj_bl px_X11_page (pj_rn px_X11_page (pj_as pk_X11_page) (fun _ => none) 60) [(19, .new 158, 3)] 19 [] [] (s, l, x, y) := rfl
set_option maxRecDepth 100000 in
theorem pq_X11_page_m  (a1 : Int32) (a2 : Int32) (s : Nat → Int32) (l : Nat → Int64) (x : Nat → Int32) (y : Nat → Int64) : pf_X11_page a1 a2 s l x y = pj_bl px_X11_page (pj_rn px_X11_page (pj_as pk_X11_page) (pj_as [(19, pe_X11_page_19 (pl_X11_page_19))]) 60) [(0, .iload_n 1, 1), (1, .ifCond .lt 18, 3)] 0 [(0, pj_O (0, 0)), (1, pj_I a1), (2, pj_I a2)] [] (s, l, x, y) := rfl
theorem pu_X11_page_19 {lf : pj_Z → mj_M} {a : Int32 × pj_Z} (f : pj_F (Int32 × pj_Z)) (hf : ∀  (s : Nat → Int32) (l : Nat → Int64) (x : Nat → Int32) (y : Nat → Int64), f  s l x y = some a → pm_Gd 0 11024 ie_X11_page.1 pm_rI lf 19 [] [] (s, l, x, y) a) : pm_Ex 0 11024 ie_X11_page.1 pm_rI lf a 19 (pe_X11_page_19 f) := by
  intro lv st z hd h
  obtain ⟨e9, h⟩ := pj_pe_inv h
  rw [e9]
  exact mj_wp_sub (mj_sub_nil hd) (hf  _ _ _ _ h)
set_option maxRecDepth 100000 in
theorem pz_X11_page {lf : pj_Z → mj_M} (hT : pj_Lt pj_TC lf) : pj_Cok ic_P (mj_R ic_P 0) 11024 ie_X11_page.1 (pm_OK lf pm_rI) lf px_X11_page := by
  exact pm_cok (c := px_X11_page) (pm_part hT (pj_as_all (p := fun b e => pj_TC b = some e) (List.forall_mem_cons.mpr ⟨rfl, (List.forall_mem_cons.mpr ⟨rfl, (List.forall_mem_cons.mpr ⟨rfl, (List.forall_mem_cons.mpr ⟨rfl, (fun _ h => by cases h)⟩)⟩)⟩)⟩))) (pm_in_ok (L := [(10, 11, 0, 2, true), (299, 4, 4, 2, true)]) (f := mj_pF ic_P 11024) (by decide +kernel)) (fun _ _ h => by cases h) (fun _ _ h => by cases h) (fun _ _ h => by cases h) rfl rfl ⟨by decide, rfl⟩ pm_mI (fun _ _ h => by cases h) (fun _ h => by cases h)
set_option maxRecDepth 100000 in
theorem pb_X11_page : pm_bks ie_X11_page.1.2.2.2.2 pk_X11_page = true := by decide +kernel
set_option maxRecDepth 100000 in
theorem pg_X11_page_19 {lf : pj_Z → mj_M} (hT : pj_Lt pj_TC lf) : ∀  (s : Nat → Int32) (l : Nat → Int64) (x : Nat → Int32) (y : Nat → Int64) (a : Int32 × pj_Z), pl_X11_page_19 s l x y = some a → pm_Gd 0 11024 ie_X11_page.1 pm_rI lf 19 [] [] (s, l, x, y) a := by
  intro  s l x y a h
  exact pm_run ((pq_X11_page_19   s l x y).symm.trans h) (pz_X11_page hT) (pm_bks_ok pb_X11_page) (pm_bks_ok pb_X11_page _ _ rfl) (pm_ndb_ok rfl) (fun _ _ h => by cases h)
set_option maxRecDepth 100000 in
theorem pm_X11_page {lf : pj_Z → mj_M} (hT : pj_Lt pj_TC lf) (a1 : Int32) (a2 : Int32) (s : Nat → Int32) (l : Nat → Int64) (x : Nat → Int32) (y : Nat → Int64) (a : Int32 × pj_Z) (h : pf_X11_page a1 a2 s l x y = some a) : mj_R ic_P 1 11024 [.ref 0, .int a1, .int a2] (lf (s, l, x, y)) (pm_rI a.1) (lf a.2) := by
  refine pm_main (Y := ie_X11_page.1) rfl (Nat.le_of_ble_eq_true rfl) ?_
  exact pm_run ((pq_X11_page_m a1 a2 s l x y).symm.trans h) (pz_X11_page hT) (pm_bks_ok pb_X11_page) (pm_bks_ok pb_X11_page _ _ rfl) (pm_ndb_ok rfl) (pj_as_all (p := pm_Ex 0 11024 ie_X11_page.1 pm_rI lf a) (List.forall_mem_cons.mpr ⟨pu_X11_page_19 _ (fun  s l x y h => pg_X11_page_19 hT  s l x y _ h), (fun _ h => by cases h)⟩))
abbrev ph_X11_page {A : Type} : List pj_V → pj_Z → (List pj_V → pj_Z → Option A) → Option A := fun st z K => pj_pi st fun a2 st => pj_pi st fun a1 st => pj_pr st 0 0 fun st => pj_ps st (pj_b (pf_X11_page a1 a2 z.1 z.2.1 z.2.2.1 z.2.2.2) fun r s l x y => K (pj_I r :: st) (s, l, x, y))
set_option maxRecDepth 100000 in
theorem pc_X11_page {A : Type} {OK : A → Option Value → mj_M → Prop} {d j pc ix : Nat} {Y : mj_Y} {lf : pj_Z → mj_M} (hT : pj_Lt pj_TC lf) (hd : 1 ≤ d) (hl : mj_lk Y.2.2.2.2 pc = some (.invokevirtual ix, 3)) (hg : mj_pG ic_P j ix = some (11024, 2, some 11)) {lv : List (Nat × Value)} {st : List pj_V} {z : pj_Z} {K : List pj_V → pj_Z → Option A} {a : A} (hK : ∀ st z, K st z = some a → pj_Gd ic_P (mj_R ic_P d) j Y OK lf (pc + 3) lv (pj_es st) z a) (h : ph_X11_page st z K = some a) : pj_Gd ic_P (mj_R ic_P d) j Y OK lf pc lv (pj_es st) z a := by
  obtain ⟨a2, r2, e2, h⟩ := pj_pi_inv h
  obtain ⟨a1, r1, e1, h⟩ := pj_pi_inv h
  obtain ⟨r0, e0, h⟩ := pj_pr_inv h
  obtain ⟨hs, h⟩ := pj_ps_inv h
  obtain ⟨q, hq, h⟩ := pj_b_inv h
  exact pm_cv (o := 0) hl hg [.int a1, .int a2] rfl (by rw [e2, e1, e0]; rfl) hs (by decide) ((hT.2 0 _ rfl).1.2 z 0 (by decide)) (pm_rI q.1) hd (pm_X11_page hT a1 a2 z.1 z.2.1 z.2.2.1 z.2.2.2 q hq) rfl (hK _ _ h)
abbrev pe_X4_sumOf_v3_5 (f : Int32 → Int32 → Int32 → pj_F (Int32 × pj_Z)) : pj_K (Int32 × pj_Z) := fun lv st z => pj_xr lv 0 15 0 <| pj_xi lv 1 fun a1 => pj_xi lv 3 fun a3 => pj_xi lv 4 fun a4 => pj_pe st (f a1 a3 a4 z.1 z.2.1 z.2.2.1 z.2.2.2)
abbrev px_X4_sumOf_v3 : pj_C (Int32 × pj_Z) := ((pj_as [(15, 100, 34, 2, 1, true, 14000, [])]), (fun _ => none), (fun _ => none), (fun _ => none), (fun _ => none), ic_X, 5, 1, pj_mI, (fun _ => none), fun _ => false)
abbrev pk_X4_sumOf_v3 : List (Nat × List (Nat × Instr × Nat)) := [(0, [(0, .iload_n 2, 1), (1, .istore_n 3, 1), (2, .iconst 1, 1), (3, .istore 4, 2)]), (5, [(5, .iload 4, 2), (7, .iload_n 1, 1), (8, .if_icmp .ge 28, 3)]), (11, [(11, .iload 4, 2), (13, .aload_n 0, 1), (14, .arraylength, 1), (15, .if_icmp .ge 21, 3)]), (18, [(18, .iload_n 3, 1), (19, .iload 4, 2), (21, .iconst 1, 1), (22, .iadd, 1), (23, .aload_n 0, 1), (24, .iload 4, 2), (26, .iaload, 1), (27, .imul, 1), (28, .iadd, 1), (29, .istore_n 3, 1), (30, .iinc 4 1, 3), (33, .goto (-28), 3)]), (36, [(36, .iload_n 3, 1), (37, .ireturn, 1)])]
set_option maxRecDepth 100000 in
theorem pq_X4_sumOf_v3_5 (fu : Nat)  (n : Nat) (a1 : Int32) (a3 : Int32) (a4 : Int32) (s : Nat → Int32) (l : Nat → Int64) (x : Nat → Int32) (y : Nat → Int64) : pl_X4_sumOf_v3_5 fu (n + 1) a1 a3 a4 s l x y = pj_bl px_X4_sumOf_v3 (pj_rn px_X4_sumOf_v3 (pj_as pk_X4_sumOf_v3) (pj_as [(5, pe_X4_sumOf_v3_5 (pl_X4_sumOf_v3_5 fu n))]) 60) [(5, .iload 4, 2), (7, .iload_n 1, 1), (8, .if_icmp .ge 28, 3)] 5 [(0, pj_O (15, 0)), (1, pj_I a1), (3, pj_I a3), (4, pj_I a4)] [] (s, l, x, y) := rfl
set_option maxRecDepth 100000 in
theorem pq_X4_sumOf_v3_m (fu : Nat)  (a1 : Int32) (a2 : Int32) (s : Nat → Int32) (l : Nat → Int64) (x : Nat → Int32) (y : Nat → Int64) : po_X4_sumOf_v3 fu a1 a2 s l x y = pj_bl px_X4_sumOf_v3 (pj_rn px_X4_sumOf_v3 (pj_as pk_X4_sumOf_v3) (pj_as [(5, pe_X4_sumOf_v3_5 (pl_X4_sumOf_v3_5 fu fu))]) 60) [(0, .iload_n 2, 1), (1, .istore_n 3, 1), (2, .iconst 1, 1), (3, .istore 4, 2)] 0 [(0, pj_O (15, 0)), (1, pj_I a1), (2, pj_I a2)] [] (s, l, x, y) := rfl
theorem pu_X4_sumOf_v3_5 {lf : pj_Z → mj_M} {a : Int32 × pj_Z} (f : Int32 → Int32 → Int32 → pj_F (Int32 × pj_Z)) (hf : ∀ (a1 : Int32) (a3 : Int32) (a4 : Int32) (s : Nat → Int32) (l : Nat → Int64) (x : Nat → Int32) (y : Nat → Int64), f a1 a3 a4 s l x y = some a → pm_Gd 0 4008 ie_X4_sumOf.1 pm_rI lf 5 [(0, .ref 15), (1, .int a1), (3, .int a3), (4, .int a4)] [] (s, l, x, y) a) : pm_Ex 0 4008 ie_X4_sumOf.1 pm_rI lf a 5 (pe_X4_sumOf_v3_5 f) := by
  intro lv st z hd h
  obtain ⟨g0, h⟩ := pj_xr_inv h
  obtain ⟨a1, g1, h⟩ := pj_xi_inv h
  obtain ⟨a3, g3, h⟩ := pj_xi_inv h
  obtain ⟨a4, g4, h⟩ := pj_xi_inv h
  obtain ⟨e9, h⟩ := pj_pe_inv h
  rw [e9]
  exact mj_wp_sub (mj_sub_cons g0 (mj_sub_cons g1 (mj_sub_cons g3 (mj_sub_cons g4 (mj_sub_nil hd))))) (hf _ _ _ _ _ _ _ h)
set_option maxRecDepth 100000 in
theorem pz_X4_sumOf_v3 {lf : pj_Z → mj_M} (hT : pj_Lt pj_TC lf) : pj_Cok ic_P (mj_R ic_P 0) 4008 ie_X4_sumOf.1 (pm_OK lf pm_rI) lf px_X4_sumOf_v3 := by
  exact pm_cok (c := px_X4_sumOf_v3) (pm_part hT (pj_as_all (p := fun b e => pj_TC b = some e) (List.forall_mem_cons.mpr ⟨rfl, (fun _ h => by cases h)⟩))) (fun _ _ h => by cases h) (fun _ _ h => by cases h) (fun _ _ h => by cases h) (fun _ _ h => by cases h) rfl rfl ⟨by decide, rfl⟩ pm_mI (fun _ _ h => by cases h) (fun _ h => by cases h)
set_option maxRecDepth 100000 in
theorem pb_X4_sumOf_v3 : pm_bks ie_X4_sumOf.1.2.2.2.2 pk_X4_sumOf_v3 = true := by decide +kernel
set_option maxRecDepth 100000 in
theorem pg_X4_sumOf_v3_5 {fu : Nat} {lf : pj_Z → mj_M} (hT : pj_Lt pj_TC lf) : ∀ (n : Nat), ∀ (a1 : Int32) (a3 : Int32) (a4 : Int32) (s : Nat → Int32) (l : Nat → Int64) (x : Nat → Int32) (y : Nat → Int64) (a : Int32 × pj_Z), pl_X4_sumOf_v3_5 fu n a1 a3 a4 s l x y = some a → pm_Gd 0 4008 ie_X4_sumOf.1 pm_rI lf 5 [(0, .ref 15), (1, .int a1), (3, .int a3), (4, .int a4)] [] (s, l, x, y) a := by
  intro n
  induction n with
  | zero => intro a1 a3 a4 s l x y a h; cases (show (none : Option (Int32 × pj_Z)) = some a from h)
  | succ n ih =>
    intro a1 a3 a4 s l x y a h
    exact pm_run ((pq_X4_sumOf_v3_5 fu n a1 a3 a4 s l x y).symm.trans h) (pz_X4_sumOf_v3 hT) (pm_bks_ok pb_X4_sumOf_v3) (pm_bks_ok pb_X4_sumOf_v3 _ _ rfl) (pm_ndb_ok rfl) (pj_as_all (p := pm_Ex 0 4008 ie_X4_sumOf.1 pm_rI lf a) (List.forall_mem_cons.mpr ⟨pu_X4_sumOf_v3_5 _ (fun c0 c1 c2 s l x y h => ih c0 c1 c2 s l x y _ h), (fun _ h => by cases h)⟩))
set_option maxRecDepth 100000 in
theorem pm_X4_sumOf_v3 {lf : pj_Z → mj_M} (hT : pj_Lt pj_TC lf) (a1 : Int32) (a2 : Int32) (s : Nat → Int32) (l : Nat → Int64) (x : Nat → Int32) (y : Nat → Int64) (a : Int32 × pj_Z) (h : pf_X4_sumOf_v3 a1 a2 s l x y = some a) : mj_R ic_P 1 4008 [.ref 15, .int a1, .int a2] (lf (s, l, x, y)) (pm_rI a.1) (lf a.2) := by
  refine pm_main (Y := ie_X4_sumOf.1) rfl (Nat.le_of_ble_eq_true rfl) ?_
  exact pm_run ((pq_X4_sumOf_v3_m 1000 a1 a2 s l x y).symm.trans h) (pz_X4_sumOf_v3 hT) (pm_bks_ok pb_X4_sumOf_v3) (pm_bks_ok pb_X4_sumOf_v3 _ _ rfl) (pm_ndb_ok rfl) (pj_as_all (p := pm_Ex 0 4008 ie_X4_sumOf.1 pm_rI lf a) (List.forall_mem_cons.mpr ⟨pu_X4_sumOf_v3_5 _ (fun c0 c1 c2 s l x y h => pg_X4_sumOf_v3_5 hT _ c0 c1 c2 s l x y _ h), (fun _ h => by cases h)⟩))
abbrev ph_X4_sumOf_v3 {A : Type} : List pj_V → pj_Z → (List pj_V → pj_Z → Option A) → Option A := fun st z K => pj_pi st fun a2 st => pj_pi st fun a1 st => pj_pr st 15 0 fun st => pj_ps st (pj_b (pf_X4_sumOf_v3 a1 a2 z.1 z.2.1 z.2.2.1 z.2.2.2) fun r s l x y => K (pj_I r :: st) (s, l, x, y))
set_option maxRecDepth 100000 in
theorem pc_X4_sumOf_v3 {A : Type} {OK : A → Option Value → mj_M → Prop} {d j pc ix : Nat} {Y : mj_Y} {lf : pj_Z → mj_M} (hT : pj_Lt pj_TC lf) (hd : 1 ≤ d) (hl : mj_lk Y.2.2.2.2 pc = some (.invokestatic ix, 3)) (hg : mj_pG ic_P j ix = some (4008, 3, none)) {lv : List (Nat × Value)} {st : List pj_V} {z : pj_Z} {K : List pj_V → pj_Z → Option A} {a : A} (hK : ∀ st z, K st z = some a → pj_Gd ic_P (mj_R ic_P d) j Y OK lf (pc + 3) lv (pj_es st) z a) (h : ph_X4_sumOf_v3 st z K = some a) : pj_Gd ic_P (mj_R ic_P d) j Y OK lf pc lv (pj_es st) z a := by
  obtain ⟨a2, r2, e2, h⟩ := pj_pi_inv h
  obtain ⟨a1, r1, e1, h⟩ := pj_pi_inv h
  obtain ⟨r0, e0, h⟩ := pj_pr_inv h
  obtain ⟨hs, h⟩ := pj_ps_inv h
  obtain ⟨q, hq, h⟩ := pj_b_inv h
  exact pm_cs hl hg [.ref 15, .int a1, .int a2] rfl (by rw [e2, e1, e0]; rfl) hs (pm_rI q.1) hd (pm_X4_sumOf_v3 hT a1 a2 z.1 z.2.1 z.2.2.1 z.2.2.2 q hq) rfl (hK _ _ h)
abbrev pe_X4_isValid_v2_40 (f : Int32 → Int32 → pj_F (Int32 × pj_Z)) : pj_K (Int32 × pj_Z) := fun lv st z => pj_xr lv 1 15 0 <| pj_xi lv 2 fun a2 => pj_xi lv 3 fun a3 => pj_pe st (f a2 a3 z.1 z.2.1 z.2.2.1 z.2.2.2)
abbrev pe_X4_isValid_v2_56 (f : Int32 → Int32 → Int32 → pj_F (Int32 × pj_Z)) : pj_K (Int32 × pj_Z) := fun lv st z => pj_xr lv 1 15 0 <| pj_xi lv 2 fun a2 => pj_xi lv 3 fun a3 => pj_pi st fun b0 st => pj_pe st (f a2 a3 b0 z.1 z.2.1 z.2.2.1 z.2.2.2)
abbrev px_X4_isValid_v2 : pj_C (Int32 × pj_Z) := ((pj_as [(15, 100, 34, 2, 1, true, 14000, [])]), (fun _ => none), (fun _ => none), (fun _ => none), (fun _ => none), ic_X, 4, 2, pj_mI, (pj_as [(24, ph_X4_sumOf_v3), (59, ph_X4_isCell)]), fun _ => false)
abbrev pk_X4_isValid_v2 : List (Nat × List (Nat × Instr × Nat)) := [(0, [(0, .aload_n 1, 1), (1, .arraylength, 1), (2, .iconst 1, 1), (3, .isub, 1), (4, .istore_n 2, 1), (5, .iload_n 2, 1), (6, .iconst 1, 1), (7, .if_icmp .lt 23, 3)]), (10, [(10, .aload_n 1, 1), (11, .iconst 0, 1), (12, .iaload, 1), (13, .ifCond .le 17, 3)]), (16, [(16, .aload_n 1, 1), (17, .iload_n 2, 1), (18, .iaload, 1), (19, .aload_n 1, 1), (20, .iload_n 2, 1), (21, .aload_n 1, 1), (22, .iconst 0, 1), (23, .iaload, 1), (24, .invokestatic 77, 3), (27, .if_icmp .eq 5, 3)]), (30, [(30, .iconst 0, 1), (31, .ireturn, 1)]), (32, [(32, .iload_n 0, 1), (33, .ifCond .ne 5, 3)]), (38, [(38, .iconst 1, 1), (39, .istore_n 3, 1)]), (40, [(40, .iload_n 3, 1), (41, .iload_n 2, 1), (42, .if_icmp .ge 31, 3)]), (45, [(45, .iload_n 3, 1), (46, .bipush 16, 2), (48, .if_icmp .gt 7, 3)]), (51, [(51, .iconst 0, 1), (52, .goto 4, 3)]), (55, [(55, .iconst 1, 1)]), (56, [(56, .aload_n 1, 1), (57, .iload_n 3, 1), (58, .iaload, 1), (59, .invokestatic 81, 3), (62, .ifCond .ne 5, 3)]), (65, [(65, .iconst 0, 1), (66, .ireturn, 1)]), (67, [(67, .iinc 3 1, 3), (70, .goto (-30), 3)]), (73, [(73, .iconst 1, 1), (74, .ireturn, 1)])]
set_option maxRecDepth 100000 in
theorem pq_X4_isValid_v2_56 (fu : Nat)  (k40 : Int32 → Int32 → pj_F (Int32 × pj_Z)) (a2 : Int32) (a3 : Int32) (b0 : Int32) (s : Nat → Int32) (l : Nat → Int64) (x : Nat → Int32) (y : Nat → Int64) : pl_X4_isValid_v2_56 fu k40 a2 a3 b0 s l x y = pj_bl px_X4_isValid_v2 (pj_rn px_X4_isValid_v2 (pj_as pk_X4_isValid_v2) (pj_as [(40, pe_X4_isValid_v2_40 k40)]) 60) [(56, .aload_n 1, 1), (57, .iload_n 3, 1), (58, .iaload, 1), (59, .invokestatic 81, 3), (62, .ifCond .ne 5, 3)] 56 [(1, pj_O (15, 0)), (2, pj_I a2), (3, pj_I a3)] [pj_I b0] (s, l, x, y) := rfl
set_option maxRecDepth 100000 in
theorem pq_X4_isValid_v2_40 (fu : Nat)  (n : Nat) (a2 : Int32) (a3 : Int32) (s : Nat → Int32) (l : Nat → Int64) (x : Nat → Int32) (y : Nat → Int64) : pl_X4_isValid_v2_40 fu (n + 1) a2 a3 s l x y = pj_bl px_X4_isValid_v2 (pj_rn px_X4_isValid_v2 (pj_as pk_X4_isValid_v2) (pj_as [(40, pe_X4_isValid_v2_40 (pl_X4_isValid_v2_40 fu n)), (56, pe_X4_isValid_v2_56 (pl_X4_isValid_v2_56 fu (pl_X4_isValid_v2_40 fu n)))]) 60) [(40, .iload_n 3, 1), (41, .iload_n 2, 1), (42, .if_icmp .ge 31, 3)] 40 [(1, pj_O (15, 0)), (2, pj_I a2), (3, pj_I a3)] [] (s, l, x, y) := rfl
set_option maxRecDepth 100000 in
theorem pq_X4_isValid_v2_m (fu : Nat)   (s : Nat → Int32) (l : Nat → Int64) (x : Nat → Int32) (y : Nat → Int64) : po_X4_isValid_v2 fu  s l x y = pj_bl px_X4_isValid_v2 (pj_rn px_X4_isValid_v2 (pj_as pk_X4_isValid_v2) (pj_as [(40, pe_X4_isValid_v2_40 (pl_X4_isValid_v2_40 fu fu))]) 60) [(0, .aload_n 1, 1), (1, .arraylength, 1), (2, .iconst 1, 1), (3, .isub, 1), (4, .istore_n 2, 1), (5, .iload_n 2, 1), (6, .iconst 1, 1), (7, .if_icmp .lt 23, 3)] 0 [(0, pj_N 1), (1, pj_O (15, 0))] [] (s, l, x, y) := rfl
theorem pu_X4_isValid_v2_40 {lf : pj_Z → mj_M} {a : Int32 × pj_Z} (f : Int32 → Int32 → pj_F (Int32 × pj_Z)) (hf : ∀ (a2 : Int32) (a3 : Int32) (s : Nat → Int32) (l : Nat → Int64) (x : Nat → Int32) (y : Nat → Int64), f a2 a3 s l x y = some a → pm_Gd 1 4007 ie_X4_isValid.1 pm_rI lf 40 [(1, .ref 15), (2, .int a2), (3, .int a3)] [] (s, l, x, y) a) : pm_Ex 1 4007 ie_X4_isValid.1 pm_rI lf a 40 (pe_X4_isValid_v2_40 f) := by
  intro lv st z hd h
  obtain ⟨g1, h⟩ := pj_xr_inv h
  obtain ⟨a2, g2, h⟩ := pj_xi_inv h
  obtain ⟨a3, g3, h⟩ := pj_xi_inv h
  obtain ⟨e9, h⟩ := pj_pe_inv h
  rw [e9]
  exact mj_wp_sub (mj_sub_cons g1 (mj_sub_cons g2 (mj_sub_cons g3 (mj_sub_nil hd)))) (hf _ _ _ _ _ _ h)
theorem pu_X4_isValid_v2_56 {lf : pj_Z → mj_M} {a : Int32 × pj_Z} (f : Int32 → Int32 → Int32 → pj_F (Int32 × pj_Z)) (hf : ∀ (a2 : Int32) (a3 : Int32) (b0 : Int32) (s : Nat → Int32) (l : Nat → Int64) (x : Nat → Int32) (y : Nat → Int64), f a2 a3 b0 s l x y = some a → pm_Gd 1 4007 ie_X4_isValid.1 pm_rI lf 56 [(1, .ref 15), (2, .int a2), (3, .int a3)] [.int b0] (s, l, x, y) a) : pm_Ex 1 4007 ie_X4_isValid.1 pm_rI lf a 56 (pe_X4_isValid_v2_56 f) := by
  intro lv st z hd h
  obtain ⟨g1, h⟩ := pj_xr_inv h
  obtain ⟨a2, g2, h⟩ := pj_xi_inv h
  obtain ⟨a3, g3, h⟩ := pj_xi_inv h
  obtain ⟨b0, r0, e0, h⟩ := pj_pi_inv h
  obtain ⟨e9, h⟩ := pj_pe_inv h
  rw [e0, e9]
  exact mj_wp_sub (mj_sub_cons g1 (mj_sub_cons g2 (mj_sub_cons g3 (mj_sub_nil hd)))) (hf _ _ _ _ _ _ _ h)
set_option maxRecDepth 100000 in
theorem pz_X4_isValid_v2 {lf : pj_Z → mj_M} (hT : pj_Lt pj_TC lf) : pj_Cok ic_P (mj_R ic_P 1) 4007 ie_X4_isValid.1 (pm_OK lf pm_rI) lf px_X4_isValid_v2 := by
  exact pm_cok (c := px_X4_isValid_v2) (pm_part hT (pj_as_all (p := fun b e => pj_TC b = some e) (List.forall_mem_cons.mpr ⟨rfl, (fun _ h => by cases h)⟩))) (fun _ _ h => by cases h) (fun _ _ h => by cases h) (fun _ _ h => by cases h) (fun _ _ h => by cases h) rfl rfl ⟨by decide, rfl⟩ pm_mI (pj_as_all (p := pm_Cl 1 4007 ie_X4_isValid.1 lf (pm_OK lf pm_rI)) (List.forall_mem_cons.mpr ⟨fun _ _ lv st z K a hK h => pc_X4_sumOf_v3 hT (by decide) (ix := 77) rfl rfl hK h, (List.forall_mem_cons.mpr ⟨fun _ _ lv st z K a hK h => pc_X4_isCell hT (by decide) (ix := 81) rfl rfl hK h, (fun _ h => by cases h)⟩)⟩)) (fun _ h => by cases h)
set_option maxRecDepth 100000 in
theorem pb_X4_isValid_v2 : pm_bks ie_X4_isValid.1.2.2.2.2 pk_X4_isValid_v2 = true := by decide +kernel
set_option maxRecDepth 100000 in
theorem pg_X4_isValid_v2_56 {fu : Nat} {lf : pj_Z → mj_M} (hT : pj_Lt pj_TC lf) {k40 : Int32 → Int32 → pj_F (Int32 × pj_Z)} (hk40 : ∀ (a2 : Int32) (a3 : Int32) (s : Nat → Int32) (l : Nat → Int64) (x : Nat → Int32) (y : Nat → Int64) (a : Int32 × pj_Z), k40 a2 a3 s l x y = some a → pm_Gd 1 4007 ie_X4_isValid.1 pm_rI lf 40 [(1, .ref 15), (2, .int a2), (3, .int a3)] [] (s, l, x, y) a) : ∀ (a2 : Int32) (a3 : Int32) (b0 : Int32) (s : Nat → Int32) (l : Nat → Int64) (x : Nat → Int32) (y : Nat → Int64) (a : Int32 × pj_Z), pl_X4_isValid_v2_56 fu k40 a2 a3 b0 s l x y = some a → pm_Gd 1 4007 ie_X4_isValid.1 pm_rI lf 56 [(1, .ref 15), (2, .int a2), (3, .int a3)] [.int b0] (s, l, x, y) a := by
  intro a2 a3 b0 s l x y a h
  exact pm_run ((pq_X4_isValid_v2_56 fu k40 a2 a3 b0 s l x y).symm.trans h) (pz_X4_isValid_v2 hT) (pm_bks_ok pb_X4_isValid_v2) (pm_bks_ok pb_X4_isValid_v2 _ _ rfl) (pm_ndb_ok rfl) (pj_as_all (p := pm_Ex 1 4007 ie_X4_isValid.1 pm_rI lf a) (List.forall_mem_cons.mpr ⟨pu_X4_isValid_v2_40 _ (fun c0 c1 s l x y h => hk40 c0 c1 s l x y _ h), (fun _ h => by cases h)⟩))
set_option maxRecDepth 100000 in
theorem pg_X4_isValid_v2_40 {fu : Nat} {lf : pj_Z → mj_M} (hT : pj_Lt pj_TC lf) : ∀ (n : Nat), ∀ (a2 : Int32) (a3 : Int32) (s : Nat → Int32) (l : Nat → Int64) (x : Nat → Int32) (y : Nat → Int64) (a : Int32 × pj_Z), pl_X4_isValid_v2_40 fu n a2 a3 s l x y = some a → pm_Gd 1 4007 ie_X4_isValid.1 pm_rI lf 40 [(1, .ref 15), (2, .int a2), (3, .int a3)] [] (s, l, x, y) a := by
  intro n
  induction n with
  | zero => intro a2 a3 s l x y a h; cases (show (none : Option (Int32 × pj_Z)) = some a from h)
  | succ n ih =>
    intro a2 a3 s l x y a h
    exact pm_run ((pq_X4_isValid_v2_40 fu n a2 a3 s l x y).symm.trans h) (pz_X4_isValid_v2 hT) (pm_bks_ok pb_X4_isValid_v2) (pm_bks_ok pb_X4_isValid_v2 _ _ rfl) (pm_ndb_ok rfl) (pj_as_all (p := pm_Ex 1 4007 ie_X4_isValid.1 pm_rI lf a) (List.forall_mem_cons.mpr ⟨pu_X4_isValid_v2_40 _ (fun c0 c1 s l x y h => ih c0 c1 s l x y _ h), (List.forall_mem_cons.mpr ⟨pu_X4_isValid_v2_56 _ (fun c0 c1 c2 s l x y h => pg_X4_isValid_v2_56 hT (fun a2 a3 s l x y a h => ih a2 a3 s l x y a h) c0 c1 c2 s l x y _ h), (fun _ h => by cases h)⟩)⟩))
set_option maxRecDepth 100000 in
theorem pm_X4_isValid_v2 {lf : pj_Z → mj_M} (hT : pj_Lt pj_TC lf)  (s : Nat → Int32) (l : Nat → Int64) (x : Nat → Int32) (y : Nat → Int64) (a : Int32 × pj_Z) (h : pf_X4_isValid_v2  s l x y = some a) : mj_R ic_P 2 4007 [.int (Int32.ofInt 1), .ref 15] (lf (s, l, x, y)) (pm_rI a.1) (lf a.2) := by
  refine pm_main (Y := ie_X4_isValid.1) rfl (Nat.le_of_ble_eq_true rfl) ?_
  exact pm_run ((pq_X4_isValid_v2_m 1000  s l x y).symm.trans h) (pz_X4_isValid_v2 hT) (pm_bks_ok pb_X4_isValid_v2) (pm_bks_ok pb_X4_isValid_v2 _ _ rfl) (pm_ndb_ok rfl) (pj_as_all (p := pm_Ex 1 4007 ie_X4_isValid.1 pm_rI lf a) (List.forall_mem_cons.mpr ⟨pu_X4_isValid_v2_40 _ (fun c0 c1 s l x y h => pg_X4_isValid_v2_40 hT _ c0 c1 s l x y _ h), (fun _ h => by cases h)⟩))
abbrev ph_X4_isValid_v2 {A : Type} : List pj_V → pj_Z → (List pj_V → pj_Z → Option A) → Option A := fun st z K => pj_pr st 15 0 fun st => pj_pc st 1 fun st => pj_ps st (pj_b (pf_X4_isValid_v2  z.1 z.2.1 z.2.2.1 z.2.2.2) fun r s l x y => K (pj_I r :: st) (s, l, x, y))
set_option maxRecDepth 100000 in
theorem pc_X4_isValid_v2 {A : Type} {OK : A → Option Value → mj_M → Prop} {d j pc ix : Nat} {Y : mj_Y} {lf : pj_Z → mj_M} (hT : pj_Lt pj_TC lf) (hd : 2 ≤ d) (hl : mj_lk Y.2.2.2.2 pc = some (.invokestatic ix, 3)) (hg : mj_pG ic_P j ix = some (4007, 2, none)) {lv : List (Nat × Value)} {st : List pj_V} {z : pj_Z} {K : List pj_V → pj_Z → Option A} {a : A} (hK : ∀ st z, K st z = some a → pj_Gd ic_P (mj_R ic_P d) j Y OK lf (pc + 3) lv (pj_es st) z a) (h : ph_X4_isValid_v2 st z K = some a) : pj_Gd ic_P (mj_R ic_P d) j Y OK lf pc lv (pj_es st) z a := by
  obtain ⟨r1, e1, h⟩ := pj_pr_inv h
  obtain ⟨r0, e0, h⟩ := pj_pc_inv h
  obtain ⟨hs, h⟩ := pj_ps_inv h
  obtain ⟨q, hq, h⟩ := pj_b_inv h
  exact pm_cs hl hg [.int (Int32.ofInt 1), .ref 15] rfl (by rw [e1, e0]; rfl) hs (pm_rI q.1) hd (pm_X4_isValid_v2 hT  z.1 z.2.1 z.2.2.1 z.2.2.2 q hq) rfl (hK _ _ h)
abbrev pe_X4_sumOf_v4_5 (f : Int32 → Int32 → Int32 → pj_F (Int32 × pj_Z)) : pj_K (Int32 × pj_Z) := fun lv st z => pj_xr lv 0 15 1 <| pj_xi lv 1 fun a1 => pj_xi lv 3 fun a3 => pj_xi lv 4 fun a4 => pj_pe st (f a1 a3 a4 z.1 z.2.1 z.2.2.1 z.2.2.2)
abbrev px_X4_sumOf_v4 : pj_C (Int32 × pj_Z) := ((pj_as [(15, 100, 34, 2, 1, true, 14000, [])]), (fun _ => none), (fun _ => none), (fun _ => none), (fun _ => none), ic_X, 5, 1, pj_mI, (fun _ => none), fun _ => false)
abbrev pk_X4_sumOf_v4 : List (Nat × List (Nat × Instr × Nat)) := [(0, [(0, .iload_n 2, 1), (1, .istore_n 3, 1), (2, .iconst 1, 1), (3, .istore 4, 2)]), (5, [(5, .iload 4, 2), (7, .iload_n 1, 1), (8, .if_icmp .ge 28, 3)]), (11, [(11, .iload 4, 2), (13, .aload_n 0, 1), (14, .arraylength, 1), (15, .if_icmp .ge 21, 3)]), (18, [(18, .iload_n 3, 1), (19, .iload 4, 2), (21, .iconst 1, 1), (22, .iadd, 1), (23, .aload_n 0, 1), (24, .iload 4, 2), (26, .iaload, 1), (27, .imul, 1), (28, .iadd, 1), (29, .istore_n 3, 1), (30, .iinc 4 1, 3), (33, .goto (-28), 3)]), (36, [(36, .iload_n 3, 1), (37, .ireturn, 1)])]
set_option maxRecDepth 100000 in
theorem pq_X4_sumOf_v4_5 (fu : Nat)  (n : Nat) (a1 : Int32) (a3 : Int32) (a4 : Int32) (s : Nat → Int32) (l : Nat → Int64) (x : Nat → Int32) (y : Nat → Int64) : pl_X4_sumOf_v4_5 fu (n + 1) a1 a3 a4 s l x y = pj_bl px_X4_sumOf_v4 (pj_rn px_X4_sumOf_v4 (pj_as pk_X4_sumOf_v4) (pj_as [(5, pe_X4_sumOf_v4_5 (pl_X4_sumOf_v4_5 fu n))]) 60) [(5, .iload 4, 2), (7, .iload_n 1, 1), (8, .if_icmp .ge 28, 3)] 5 [(0, pj_O (15, 1)), (1, pj_I a1), (3, pj_I a3), (4, pj_I a4)] [] (s, l, x, y) := rfl
set_option maxRecDepth 100000 in
theorem pq_X4_sumOf_v4_m (fu : Nat)  (a1 : Int32) (a2 : Int32) (s : Nat → Int32) (l : Nat → Int64) (x : Nat → Int32) (y : Nat → Int64) : po_X4_sumOf_v4 fu a1 a2 s l x y = pj_bl px_X4_sumOf_v4 (pj_rn px_X4_sumOf_v4 (pj_as pk_X4_sumOf_v4) (pj_as [(5, pe_X4_sumOf_v4_5 (pl_X4_sumOf_v4_5 fu fu))]) 60) [(0, .iload_n 2, 1), (1, .istore_n 3, 1), (2, .iconst 1, 1), (3, .istore 4, 2)] 0 [(0, pj_O (15, 1)), (1, pj_I a1), (2, pj_I a2)] [] (s, l, x, y) := rfl
theorem pu_X4_sumOf_v4_5 {lf : pj_Z → mj_M} {a : Int32 × pj_Z} (f : Int32 → Int32 → Int32 → pj_F (Int32 × pj_Z)) (hf : ∀ (a1 : Int32) (a3 : Int32) (a4 : Int32) (s : Nat → Int32) (l : Nat → Int64) (x : Nat → Int32) (y : Nat → Int64), f a1 a3 a4 s l x y = some a → pm_Gd 0 4008 ie_X4_sumOf.1 pm_rI lf 5 [(0, .ref 16), (1, .int a1), (3, .int a3), (4, .int a4)] [] (s, l, x, y) a) : pm_Ex 0 4008 ie_X4_sumOf.1 pm_rI lf a 5 (pe_X4_sumOf_v4_5 f) := by
  intro lv st z hd h
  obtain ⟨g0, h⟩ := pj_xr_inv h
  obtain ⟨a1, g1, h⟩ := pj_xi_inv h
  obtain ⟨a3, g3, h⟩ := pj_xi_inv h
  obtain ⟨a4, g4, h⟩ := pj_xi_inv h
  obtain ⟨e9, h⟩ := pj_pe_inv h
  rw [e9]
  exact mj_wp_sub (mj_sub_cons g0 (mj_sub_cons g1 (mj_sub_cons g3 (mj_sub_cons g4 (mj_sub_nil hd))))) (hf _ _ _ _ _ _ _ h)
set_option maxRecDepth 100000 in
theorem pz_X4_sumOf_v4 {lf : pj_Z → mj_M} (hT : pj_Lt pj_TC lf) : pj_Cok ic_P (mj_R ic_P 0) 4008 ie_X4_sumOf.1 (pm_OK lf pm_rI) lf px_X4_sumOf_v4 := by
  exact pm_cok (c := px_X4_sumOf_v4) (pm_part hT (pj_as_all (p := fun b e => pj_TC b = some e) (List.forall_mem_cons.mpr ⟨rfl, (fun _ h => by cases h)⟩))) (fun _ _ h => by cases h) (fun _ _ h => by cases h) (fun _ _ h => by cases h) (fun _ _ h => by cases h) rfl rfl ⟨by decide, rfl⟩ pm_mI (fun _ _ h => by cases h) (fun _ h => by cases h)
set_option maxRecDepth 100000 in
theorem pb_X4_sumOf_v4 : pm_bks ie_X4_sumOf.1.2.2.2.2 pk_X4_sumOf_v4 = true := by decide +kernel
set_option maxRecDepth 100000 in
theorem pg_X4_sumOf_v4_5 {fu : Nat} {lf : pj_Z → mj_M} (hT : pj_Lt pj_TC lf) : ∀ (n : Nat), ∀ (a1 : Int32) (a3 : Int32) (a4 : Int32) (s : Nat → Int32) (l : Nat → Int64) (x : Nat → Int32) (y : Nat → Int64) (a : Int32 × pj_Z), pl_X4_sumOf_v4_5 fu n a1 a3 a4 s l x y = some a → pm_Gd 0 4008 ie_X4_sumOf.1 pm_rI lf 5 [(0, .ref 16), (1, .int a1), (3, .int a3), (4, .int a4)] [] (s, l, x, y) a := by
  intro n
  induction n with
  | zero => intro a1 a3 a4 s l x y a h; cases (show (none : Option (Int32 × pj_Z)) = some a from h)
  | succ n ih =>
    intro a1 a3 a4 s l x y a h
    exact pm_run ((pq_X4_sumOf_v4_5 fu n a1 a3 a4 s l x y).symm.trans h) (pz_X4_sumOf_v4 hT) (pm_bks_ok pb_X4_sumOf_v4) (pm_bks_ok pb_X4_sumOf_v4 _ _ rfl) (pm_ndb_ok rfl) (pj_as_all (p := pm_Ex 0 4008 ie_X4_sumOf.1 pm_rI lf a) (List.forall_mem_cons.mpr ⟨pu_X4_sumOf_v4_5 _ (fun c0 c1 c2 s l x y h => ih c0 c1 c2 s l x y _ h), (fun _ h => by cases h)⟩))
set_option maxRecDepth 100000 in
theorem pm_X4_sumOf_v4 {lf : pj_Z → mj_M} (hT : pj_Lt pj_TC lf) (a1 : Int32) (a2 : Int32) (s : Nat → Int32) (l : Nat → Int64) (x : Nat → Int32) (y : Nat → Int64) (a : Int32 × pj_Z) (h : pf_X4_sumOf_v4 a1 a2 s l x y = some a) : mj_R ic_P 1 4008 [.ref 16, .int a1, .int a2] (lf (s, l, x, y)) (pm_rI a.1) (lf a.2) := by
  refine pm_main (Y := ie_X4_sumOf.1) rfl (Nat.le_of_ble_eq_true rfl) ?_
  exact pm_run ((pq_X4_sumOf_v4_m 1000 a1 a2 s l x y).symm.trans h) (pz_X4_sumOf_v4 hT) (pm_bks_ok pb_X4_sumOf_v4) (pm_bks_ok pb_X4_sumOf_v4 _ _ rfl) (pm_ndb_ok rfl) (pj_as_all (p := pm_Ex 0 4008 ie_X4_sumOf.1 pm_rI lf a) (List.forall_mem_cons.mpr ⟨pu_X4_sumOf_v4_5 _ (fun c0 c1 c2 s l x y h => pg_X4_sumOf_v4_5 hT _ c0 c1 c2 s l x y _ h), (fun _ h => by cases h)⟩))
abbrev ph_X4_sumOf_v4 {A : Type} : List pj_V → pj_Z → (List pj_V → pj_Z → Option A) → Option A := fun st z K => pj_pi st fun a2 st => pj_pi st fun a1 st => pj_pr st 15 1 fun st => pj_ps st (pj_b (pf_X4_sumOf_v4 a1 a2 z.1 z.2.1 z.2.2.1 z.2.2.2) fun r s l x y => K (pj_I r :: st) (s, l, x, y))
set_option maxRecDepth 100000 in
theorem pc_X4_sumOf_v4 {A : Type} {OK : A → Option Value → mj_M → Prop} {d j pc ix : Nat} {Y : mj_Y} {lf : pj_Z → mj_M} (hT : pj_Lt pj_TC lf) (hd : 1 ≤ d) (hl : mj_lk Y.2.2.2.2 pc = some (.invokestatic ix, 3)) (hg : mj_pG ic_P j ix = some (4008, 3, none)) {lv : List (Nat × Value)} {st : List pj_V} {z : pj_Z} {K : List pj_V → pj_Z → Option A} {a : A} (hK : ∀ st z, K st z = some a → pj_Gd ic_P (mj_R ic_P d) j Y OK lf (pc + 3) lv (pj_es st) z a) (h : ph_X4_sumOf_v4 st z K = some a) : pj_Gd ic_P (mj_R ic_P d) j Y OK lf pc lv (pj_es st) z a := by
  obtain ⟨a2, r2, e2, h⟩ := pj_pi_inv h
  obtain ⟨a1, r1, e1, h⟩ := pj_pi_inv h
  obtain ⟨r0, e0, h⟩ := pj_pr_inv h
  obtain ⟨hs, h⟩ := pj_ps_inv h
  obtain ⟨q, hq, h⟩ := pj_b_inv h
  exact pm_cs hl hg [.ref 16, .int a1, .int a2] rfl (by rw [e2, e1, e0]; rfl) hs (pm_rI q.1) hd (pm_X4_sumOf_v4 hT a1 a2 z.1 z.2.1 z.2.2.1 z.2.2.2 q hq) rfl (hK _ _ h)
abbrev pe_X4_isValid_v3_40 (f : Int32 → Int32 → pj_F (Int32 × pj_Z)) : pj_K (Int32 × pj_Z) := fun lv st z => pj_xr lv 1 15 1 <| pj_xi lv 2 fun a2 => pj_xi lv 3 fun a3 => pj_pe st (f a2 a3 z.1 z.2.1 z.2.2.1 z.2.2.2)
abbrev pe_X4_isValid_v3_56 (f : Int32 → Int32 → Int32 → pj_F (Int32 × pj_Z)) : pj_K (Int32 × pj_Z) := fun lv st z => pj_xr lv 1 15 1 <| pj_xi lv 2 fun a2 => pj_xi lv 3 fun a3 => pj_pi st fun b0 st => pj_pe st (f a2 a3 b0 z.1 z.2.1 z.2.2.1 z.2.2.2)
abbrev px_X4_isValid_v3 : pj_C (Int32 × pj_Z) := ((pj_as [(15, 100, 34, 2, 1, true, 14000, [])]), (fun _ => none), (fun _ => none), (fun _ => none), (fun _ => none), ic_X, 4, 2, pj_mI, (pj_as [(24, ph_X4_sumOf_v4), (59, ph_X4_isCell)]), fun _ => false)
abbrev pk_X4_isValid_v3 : List (Nat × List (Nat × Instr × Nat)) := [(0, [(0, .aload_n 1, 1), (1, .arraylength, 1), (2, .iconst 1, 1), (3, .isub, 1), (4, .istore_n 2, 1), (5, .iload_n 2, 1), (6, .iconst 1, 1), (7, .if_icmp .lt 23, 3)]), (10, [(10, .aload_n 1, 1), (11, .iconst 0, 1), (12, .iaload, 1), (13, .ifCond .le 17, 3)]), (16, [(16, .aload_n 1, 1), (17, .iload_n 2, 1), (18, .iaload, 1), (19, .aload_n 1, 1), (20, .iload_n 2, 1), (21, .aload_n 1, 1), (22, .iconst 0, 1), (23, .iaload, 1), (24, .invokestatic 77, 3), (27, .if_icmp .eq 5, 3)]), (30, [(30, .iconst 0, 1), (31, .ireturn, 1)]), (32, [(32, .iload_n 0, 1), (33, .ifCond .ne 5, 3)]), (38, [(38, .iconst 1, 1), (39, .istore_n 3, 1)]), (40, [(40, .iload_n 3, 1), (41, .iload_n 2, 1), (42, .if_icmp .ge 31, 3)]), (45, [(45, .iload_n 3, 1), (46, .bipush 16, 2), (48, .if_icmp .gt 7, 3)]), (51, [(51, .iconst 0, 1), (52, .goto 4, 3)]), (55, [(55, .iconst 1, 1)]), (56, [(56, .aload_n 1, 1), (57, .iload_n 3, 1), (58, .iaload, 1), (59, .invokestatic 81, 3), (62, .ifCond .ne 5, 3)]), (65, [(65, .iconst 0, 1), (66, .ireturn, 1)]), (67, [(67, .iinc 3 1, 3), (70, .goto (-30), 3)]), (73, [(73, .iconst 1, 1), (74, .ireturn, 1)])]
set_option maxRecDepth 100000 in
theorem pq_X4_isValid_v3_56 (fu : Nat)  (k40 : Int32 → Int32 → pj_F (Int32 × pj_Z)) (a2 : Int32) (a3 : Int32) (b0 : Int32) (s : Nat → Int32) (l : Nat → Int64) (x : Nat → Int32) (y : Nat → Int64) : pl_X4_isValid_v3_56 fu k40 a2 a3 b0 s l x y = pj_bl px_X4_isValid_v3 (pj_rn px_X4_isValid_v3 (pj_as pk_X4_isValid_v3) (pj_as [(40, pe_X4_isValid_v3_40 k40)]) 60) [(56, .aload_n 1, 1), (57, .iload_n 3, 1), (58, .iaload, 1), (59, .invokestatic 81, 3), (62, .ifCond .ne 5, 3)] 56 [(1, pj_O (15, 1)), (2, pj_I a2), (3, pj_I a3)] [pj_I b0] (s, l, x, y) := rfl
set_option maxRecDepth 100000 in
theorem pq_X4_isValid_v3_40 (fu : Nat)  (n : Nat) (a2 : Int32) (a3 : Int32) (s : Nat → Int32) (l : Nat → Int64) (x : Nat → Int32) (y : Nat → Int64) : pl_X4_isValid_v3_40 fu (n + 1) a2 a3 s l x y = pj_bl px_X4_isValid_v3 (pj_rn px_X4_isValid_v3 (pj_as pk_X4_isValid_v3) (pj_as [(40, pe_X4_isValid_v3_40 (pl_X4_isValid_v3_40 fu n)), (56, pe_X4_isValid_v3_56 (pl_X4_isValid_v3_56 fu (pl_X4_isValid_v3_40 fu n)))]) 60) [(40, .iload_n 3, 1), (41, .iload_n 2, 1), (42, .if_icmp .ge 31, 3)] 40 [(1, pj_O (15, 1)), (2, pj_I a2), (3, pj_I a3)] [] (s, l, x, y) := rfl
set_option maxRecDepth 100000 in
theorem pq_X4_isValid_v3_m (fu : Nat)   (s : Nat → Int32) (l : Nat → Int64) (x : Nat → Int32) (y : Nat → Int64) : po_X4_isValid_v3 fu  s l x y = pj_bl px_X4_isValid_v3 (pj_rn px_X4_isValid_v3 (pj_as pk_X4_isValid_v3) (pj_as [(40, pe_X4_isValid_v3_40 (pl_X4_isValid_v3_40 fu fu))]) 60) [(0, .aload_n 1, 1), (1, .arraylength, 1), (2, .iconst 1, 1), (3, .isub, 1), (4, .istore_n 2, 1), (5, .iload_n 2, 1), (6, .iconst 1, 1), (7, .if_icmp .lt 23, 3)] 0 [(0, pj_N 1), (1, pj_O (15, 1))] [] (s, l, x, y) := rfl
theorem pu_X4_isValid_v3_40 {lf : pj_Z → mj_M} {a : Int32 × pj_Z} (f : Int32 → Int32 → pj_F (Int32 × pj_Z)) (hf : ∀ (a2 : Int32) (a3 : Int32) (s : Nat → Int32) (l : Nat → Int64) (x : Nat → Int32) (y : Nat → Int64), f a2 a3 s l x y = some a → pm_Gd 1 4007 ie_X4_isValid.1 pm_rI lf 40 [(1, .ref 16), (2, .int a2), (3, .int a3)] [] (s, l, x, y) a) : pm_Ex 1 4007 ie_X4_isValid.1 pm_rI lf a 40 (pe_X4_isValid_v3_40 f) := by
  intro lv st z hd h
  obtain ⟨g1, h⟩ := pj_xr_inv h
  obtain ⟨a2, g2, h⟩ := pj_xi_inv h
  obtain ⟨a3, g3, h⟩ := pj_xi_inv h
  obtain ⟨e9, h⟩ := pj_pe_inv h
  rw [e9]
  exact mj_wp_sub (mj_sub_cons g1 (mj_sub_cons g2 (mj_sub_cons g3 (mj_sub_nil hd)))) (hf _ _ _ _ _ _ h)
theorem pu_X4_isValid_v3_56 {lf : pj_Z → mj_M} {a : Int32 × pj_Z} (f : Int32 → Int32 → Int32 → pj_F (Int32 × pj_Z)) (hf : ∀ (a2 : Int32) (a3 : Int32) (b0 : Int32) (s : Nat → Int32) (l : Nat → Int64) (x : Nat → Int32) (y : Nat → Int64), f a2 a3 b0 s l x y = some a → pm_Gd 1 4007 ie_X4_isValid.1 pm_rI lf 56 [(1, .ref 16), (2, .int a2), (3, .int a3)] [.int b0] (s, l, x, y) a) : pm_Ex 1 4007 ie_X4_isValid.1 pm_rI lf a 56 (pe_X4_isValid_v3_56 f) := by
  intro lv st z hd h
  obtain ⟨g1, h⟩ := pj_xr_inv h
  obtain ⟨a2, g2, h⟩ := pj_xi_inv h
  obtain ⟨a3, g3, h⟩ := pj_xi_inv h
  obtain ⟨b0, r0, e0, h⟩ := pj_pi_inv h
  obtain ⟨e9, h⟩ := pj_pe_inv h
  rw [e0, e9]
  exact mj_wp_sub (mj_sub_cons g1 (mj_sub_cons g2 (mj_sub_cons g3 (mj_sub_nil hd)))) (hf _ _ _ _ _ _ _ h)
set_option maxRecDepth 100000 in
theorem pz_X4_isValid_v3 {lf : pj_Z → mj_M} (hT : pj_Lt pj_TC lf) : pj_Cok ic_P (mj_R ic_P 1) 4007 ie_X4_isValid.1 (pm_OK lf pm_rI) lf px_X4_isValid_v3 := by
  exact pm_cok (c := px_X4_isValid_v3) (pm_part hT (pj_as_all (p := fun b e => pj_TC b = some e) (List.forall_mem_cons.mpr ⟨rfl, (fun _ h => by cases h)⟩))) (fun _ _ h => by cases h) (fun _ _ h => by cases h) (fun _ _ h => by cases h) (fun _ _ h => by cases h) rfl rfl ⟨by decide, rfl⟩ pm_mI (pj_as_all (p := pm_Cl 1 4007 ie_X4_isValid.1 lf (pm_OK lf pm_rI)) (List.forall_mem_cons.mpr ⟨fun _ _ lv st z K a hK h => pc_X4_sumOf_v4 hT (by decide) (ix := 77) rfl rfl hK h, (List.forall_mem_cons.mpr ⟨fun _ _ lv st z K a hK h => pc_X4_isCell hT (by decide) (ix := 81) rfl rfl hK h, (fun _ h => by cases h)⟩)⟩)) (fun _ h => by cases h)
set_option maxRecDepth 100000 in
theorem pb_X4_isValid_v3 : pm_bks ie_X4_isValid.1.2.2.2.2 pk_X4_isValid_v3 = true := by decide +kernel
set_option maxRecDepth 100000 in
theorem pg_X4_isValid_v3_56 {fu : Nat} {lf : pj_Z → mj_M} (hT : pj_Lt pj_TC lf) {k40 : Int32 → Int32 → pj_F (Int32 × pj_Z)} (hk40 : ∀ (a2 : Int32) (a3 : Int32) (s : Nat → Int32) (l : Nat → Int64) (x : Nat → Int32) (y : Nat → Int64) (a : Int32 × pj_Z), k40 a2 a3 s l x y = some a → pm_Gd 1 4007 ie_X4_isValid.1 pm_rI lf 40 [(1, .ref 16), (2, .int a2), (3, .int a3)] [] (s, l, x, y) a) : ∀ (a2 : Int32) (a3 : Int32) (b0 : Int32) (s : Nat → Int32) (l : Nat → Int64) (x : Nat → Int32) (y : Nat → Int64) (a : Int32 × pj_Z), pl_X4_isValid_v3_56 fu k40 a2 a3 b0 s l x y = some a → pm_Gd 1 4007 ie_X4_isValid.1 pm_rI lf 56 [(1, .ref 16), (2, .int a2), (3, .int a3)] [.int b0] (s, l, x, y) a := by
  intro a2 a3 b0 s l x y a h
  exact pm_run ((pq_X4_isValid_v3_56 fu k40 a2 a3 b0 s l x y).symm.trans h) (pz_X4_isValid_v3 hT) (pm_bks_ok pb_X4_isValid_v3) (pm_bks_ok pb_X4_isValid_v3 _ _ rfl) (pm_ndb_ok rfl) (pj_as_all (p := pm_Ex 1 4007 ie_X4_isValid.1 pm_rI lf a) (List.forall_mem_cons.mpr ⟨pu_X4_isValid_v3_40 _ (fun c0 c1 s l x y h => hk40 c0 c1 s l x y _ h), (fun _ h => by cases h)⟩))
set_option maxRecDepth 100000 in
theorem pg_X4_isValid_v3_40 {fu : Nat} {lf : pj_Z → mj_M} (hT : pj_Lt pj_TC lf) : ∀ (n : Nat), ∀ (a2 : Int32) (a3 : Int32) (s : Nat → Int32) (l : Nat → Int64) (x : Nat → Int32) (y : Nat → Int64) (a : Int32 × pj_Z), pl_X4_isValid_v3_40 fu n a2 a3 s l x y = some a → pm_Gd 1 4007 ie_X4_isValid.1 pm_rI lf 40 [(1, .ref 16), (2, .int a2), (3, .int a3)] [] (s, l, x, y) a := by
  intro n
  induction n with
  | zero => intro a2 a3 s l x y a h; cases (show (none : Option (Int32 × pj_Z)) = some a from h)
  | succ n ih =>
    intro a2 a3 s l x y a h
    exact pm_run ((pq_X4_isValid_v3_40 fu n a2 a3 s l x y).symm.trans h) (pz_X4_isValid_v3 hT) (pm_bks_ok pb_X4_isValid_v3) (pm_bks_ok pb_X4_isValid_v3 _ _ rfl) (pm_ndb_ok rfl) (pj_as_all (p := pm_Ex 1 4007 ie_X4_isValid.1 pm_rI lf a) (List.forall_mem_cons.mpr ⟨pu_X4_isValid_v3_40 _ (fun c0 c1 s l x y h => ih c0 c1 s l x y _ h), (List.forall_mem_cons.mpr ⟨pu_X4_isValid_v3_56 _ (fun c0 c1 c2 s l x y h => pg_X4_isValid_v3_56 hT (fun a2 a3 s l x y a h => ih a2 a3 s l x y a h) c0 c1 c2 s l x y _ h), (fun _ h => by cases h)⟩)⟩))
set_option maxRecDepth 100000 in
theorem pm_X4_isValid_v3 {lf : pj_Z → mj_M} (hT : pj_Lt pj_TC lf)  (s : Nat → Int32) (l : Nat → Int64) (x : Nat → Int32) (y : Nat → Int64) (a : Int32 × pj_Z) (h : pf_X4_isValid_v3  s l x y = some a) : mj_R ic_P 2 4007 [.int (Int32.ofInt 1), .ref 16] (lf (s, l, x, y)) (pm_rI a.1) (lf a.2) := by
  refine pm_main (Y := ie_X4_isValid.1) rfl (Nat.le_of_ble_eq_true rfl) ?_
  exact pm_run ((pq_X4_isValid_v3_m 1000  s l x y).symm.trans h) (pz_X4_isValid_v3 hT) (pm_bks_ok pb_X4_isValid_v3) (pm_bks_ok pb_X4_isValid_v3 _ _ rfl) (pm_ndb_ok rfl) (pj_as_all (p := pm_Ex 1 4007 ie_X4_isValid.1 pm_rI lf a) (List.forall_mem_cons.mpr ⟨pu_X4_isValid_v3_40 _ (fun c0 c1 s l x y h => pg_X4_isValid_v3_40 hT _ c0 c1 s l x y _ h), (fun _ h => by cases h)⟩))
abbrev ph_X4_isValid_v3 {A : Type} : List pj_V → pj_Z → (List pj_V → pj_Z → Option A) → Option A := fun st z K => pj_pr st 15 1 fun st => pj_pc st 1 fun st => pj_ps st (pj_b (pf_X4_isValid_v3  z.1 z.2.1 z.2.2.1 z.2.2.2) fun r s l x y => K (pj_I r :: st) (s, l, x, y))
set_option maxRecDepth 100000 in
theorem pc_X4_isValid_v3 {A : Type} {OK : A → Option Value → mj_M → Prop} {d j pc ix : Nat} {Y : mj_Y} {lf : pj_Z → mj_M} (hT : pj_Lt pj_TC lf) (hd : 2 ≤ d) (hl : mj_lk Y.2.2.2.2 pc = some (.invokestatic ix, 3)) (hg : mj_pG ic_P j ix = some (4007, 2, none)) {lv : List (Nat × Value)} {st : List pj_V} {z : pj_Z} {K : List pj_V → pj_Z → Option A} {a : A} (hK : ∀ st z, K st z = some a → pj_Gd ic_P (mj_R ic_P d) j Y OK lf (pc + 3) lv (pj_es st) z a) (h : ph_X4_isValid_v3 st z K = some a) : pj_Gd ic_P (mj_R ic_P d) j Y OK lf pc lv (pj_es st) z a := by
  obtain ⟨r1, e1, h⟩ := pj_pr_inv h
  obtain ⟨r0, e0, h⟩ := pj_pc_inv h
  obtain ⟨hs, h⟩ := pj_ps_inv h
  obtain ⟨q, hq, h⟩ := pj_b_inv h
  exact pm_cs hl hg [.int (Int32.ofInt 1), .ref 16] rfl (by rw [e1, e0]; rfl) hs (pm_rI q.1) hd (pm_X4_isValid_v3 hT  z.1 z.2.1 z.2.2.1 z.2.2.2 q hq) rfl (hK _ _ h)
abbrev pe_X4_lookOver_v1_66 (f : Int32 → pj_F (Unit × pj_Z)) : pj_K (Unit × pj_Z) := fun lv st z => pj_xr lv 0 1 0 <| pj_xc lv 1 1 <| pj_xr lv 2 14 0 <| pj_xi lv 3 fun a3 => pj_pe st (f a3 z.1 z.2.1 z.2.2.1 z.2.2.2)
abbrev pe_X4_lookOver_v1_70 (f : Int32 → pj_F (Unit × pj_Z)) : pj_K (Unit × pj_Z) := fun lv st z => pj_xr lv 0 1 0 <| pj_xc lv 1 1 <| pj_xr lv 2 14 0 <| pj_xi lv 3 fun a3 => pj_pe st (f a3 z.1 z.2.1 z.2.2.1 z.2.2.2)
abbrev pe_X4_lookOver_v1_71 (f : Int32 → Int32 → pj_F (Unit × pj_Z)) : pj_K (Unit × pj_Z) := fun lv st z => pj_xr lv 0 1 0 <| pj_xc lv 1 1 <| pj_xr lv 2 14 0 <| pj_xi lv 3 fun a3 => pj_pi st fun b0 st => pj_pe st (f a3 b0 z.1 z.2.1 z.2.2.1 z.2.2.2)
abbrev pe_X4_lookOver_v1_96 (f : Int32 → Int32 → Int32 → pj_F (Unit × pj_Z)) : pj_K (Unit × pj_Z) := fun lv st z => pj_xr lv 0 1 0 <| pj_xc lv 1 1 <| pj_xr lv 2 14 0 <| pj_xi lv 3 fun a3 => pj_xi lv 5 fun a5 => pj_pi st fun b2 st => pj_pc st 1 fun st => pj_pr st 18 0 fun st => pj_pe st (f a3 a5 b2 z.1 z.2.1 z.2.2.1 z.2.2.2)
abbrev pe_X4_lookOver_v1_128 (f : Int32 → pj_F (Unit × pj_Z)) : pj_K (Unit × pj_Z) := fun lv st z => pj_pi st fun b2 st => pj_pc st 1 fun st => pj_pr st 19 0 fun st => pj_pe st (f b2 z.1 z.2.1 z.2.2.1 z.2.2.2)
abbrev px_X4_lookOver_v1 : pj_C (Unit × pj_Z) := ((pj_as [(1, 4, 10, 1, 0, true, 0, [(2, 2), (2, 3), (2, 8), (2, 11), (2, 14), (2, 17), (2, 18), (2, 19), (0, 44), (1, 3)]), (14, 103, 2, 1, 0, true, 15, []), (15, 100, 34, 2, 1, true, 14000, []), (18, 100, 2, 1, 0, false, 2000, []), (19, 100, 2, 1, 0, false, 3000, [])]), (pj_as [(26, 4, 4, 2, true), (32, 4, 6, 2, true), (35, 4, 7, 2, true)]), (fun _ => none), (fun _ => none), (fun _ => none), ic_X, 6, 0, pj_mU, (pj_as [(31, ph_X4_isValid_v2), (39, ph_X4_isValid_v3)]), fun _ => false)
abbrev pk_X4_lookOver_v1 : List (Nat × List (Nat × Instr × Nat)) := [(0, [(0, .iload_n 1, 1), (1, .ifCond .eq 9, 3)]), (4, [(4, .iload_n 1, 1), (5, .iconst 1, 1), (6, .if_icmp .eq 4, 3)]), (10, [(10, .iload_n 1, 1), (11, .iconst 1, 1), (12, .if_icmp .ne 10, 3)]), (15, [(15, .aload_n 0, 1), (16, .getfield 26, 3), (19, .goto 7, 3)]), (26, [(26, .astore_n 2, 1), (27, .iload_n 1, 1), (28, .aload_n 2, 1), (29, .iconst 0, 1), (30, .aaload, 1), (31, .invokestatic 73, 3), (34, .istore_n 3, 1), (35, .iload_n 1, 1), (36, .aload_n 2, 1), (37, .iconst 1, 1), (38, .aaload, 1), (39, .invokestatic 73, 3), (42, .istore 4, 2), (44, .iload 4, 2), (46, .ifCond .eq 24, 3)]), (49, [(49, .iload_n 3, 1), (50, .ifCond .eq 16, 3)]), (53, [(53, .aload_n 2, 1), (54, .iconst 1, 1), (55, .aaload, 1), (56, .iconst 0, 1), (57, .iaload, 1), (58, .aload_n 2, 1), (59, .iconst 0, 1), (60, .aaload, 1), (61, .iconst 0, 1), (62, .iaload, 1), (63, .if_icmp .le 7, 3)]), (66, [(66, .iconst 1, 1), (67, .goto 4, 3)]), (70, [(70, .iconst 0, 1)]), (71, [(71, .istore 5, 2), (73, .aload_n 0, 1), (74, .getfield 32, 3), (77, .iload_n 1, 1), (78, .iload 5, 2), (80, .ifCond .eq 7, 3)]), (83, [(83, .iconst 1, 1), (84, .goto 12, 3)]), (87, [(87, .iload_n 3, 1), (88, .ifCond .eq 7, 3)]), (91, [(91, .iconst 0, 1), (92, .goto 4, 3)]), (95, [(95, .iconst (-1), 1)]), (96, [(96, .iastore, 1), (97, .aload_n 0, 1), (98, .getfield 35, 3), (101, .iload_n 1, 1), (102, .iload 5, 2), (104, .ifCond .eq 11, 3)]), (107, [(107, .aload_n 2, 1), (108, .iconst 1, 1), (109, .aaload, 1), (110, .iconst 0, 1), (111, .iaload, 1), (112, .goto 16, 3)]), (115, [(115, .iload_n 3, 1), (116, .ifCond .eq 11, 3)]), (119, [(119, .aload_n 2, 1), (120, .iconst 0, 1), (121, .aaload, 1), (122, .iconst 0, 1), (123, .iaload, 1), (124, .goto 4, 3)]), (127, [(127, .iconst 0, 1)]), (128, [(128, .iastore, 1), (129, .return_, 1)])]
set_option maxRecDepth 100000 in
theorem pq_X4_lookOver_v1_128  (b2 : Int32) (s : Nat → Int32) (l : Nat → Int64) (x : Nat → Int32) (y : Nat → Int64) : pl_X4_lookOver_v1_128 b2 s l x y = pj_bl px_X4_lookOver_v1 (pj_rn px_X4_lookOver_v1 (pj_as pk_X4_lookOver_v1) (fun _ => none) 60) [(128, .iastore, 1), (129, .return_, 1)] 128 [] [pj_I b2, pj_N 1, pj_O (19, 0)] (s, l, x, y) := rfl
set_option maxRecDepth 100000 in
theorem pq_X4_lookOver_v1_96  (a3 : Int32) (a5 : Int32) (b2 : Int32) (s : Nat → Int32) (l : Nat → Int64) (x : Nat → Int32) (y : Nat → Int64) : pl_X4_lookOver_v1_96 a3 a5 b2 s l x y = pj_bl px_X4_lookOver_v1 (pj_rn px_X4_lookOver_v1 (pj_as pk_X4_lookOver_v1) (pj_as [(128, pe_X4_lookOver_v1_128 (pl_X4_lookOver_v1_128))]) 60) [(96, .iastore, 1), (97, .aload_n 0, 1), (98, .getfield 35, 3), (101, .iload_n 1, 1), (102, .iload 5, 2), (104, .ifCond .eq 11, 3)] 96 [(0, pj_O (1, 0)), (1, pj_N 1), (2, pj_O (14, 0)), (3, pj_I a3), (5, pj_I a5)] [pj_I b2, pj_N 1, pj_O (18, 0)] (s, l, x, y) := rfl
set_option maxRecDepth 100000 in
theorem pq_X4_lookOver_v1_71  (a3 : Int32) (b0 : Int32) (s : Nat → Int32) (l : Nat → Int64) (x : Nat → Int32) (y : Nat → Int64) : pl_X4_lookOver_v1_71 a3 b0 s l x y = pj_bl px_X4_lookOver_v1 (pj_rn px_X4_lookOver_v1 (pj_as pk_X4_lookOver_v1) (pj_as [(96, pe_X4_lookOver_v1_96 (pl_X4_lookOver_v1_96))]) 60) [(71, .istore 5, 2), (73, .aload_n 0, 1), (74, .getfield 32, 3), (77, .iload_n 1, 1), (78, .iload 5, 2), (80, .ifCond .eq 7, 3)] 71 [(0, pj_O (1, 0)), (1, pj_N 1), (2, pj_O (14, 0)), (3, pj_I a3)] [pj_I b0] (s, l, x, y) := rfl
set_option maxRecDepth 100000 in
theorem pq_X4_lookOver_v1_66  (a3 : Int32) (s : Nat → Int32) (l : Nat → Int64) (x : Nat → Int32) (y : Nat → Int64) : pl_X4_lookOver_v1_66 a3 s l x y = pj_bl px_X4_lookOver_v1 (pj_rn px_X4_lookOver_v1 (pj_as pk_X4_lookOver_v1) (pj_as [(71, pe_X4_lookOver_v1_71 (pl_X4_lookOver_v1_71))]) 60) [(66, .iconst 1, 1), (67, .goto 4, 3)] 66 [(0, pj_O (1, 0)), (1, pj_N 1), (2, pj_O (14, 0)), (3, pj_I a3)] [] (s, l, x, y) := rfl
set_option maxRecDepth 100000 in
theorem pq_X4_lookOver_v1_70  (a3 : Int32) (s : Nat → Int32) (l : Nat → Int64) (x : Nat → Int32) (y : Nat → Int64) : pl_X4_lookOver_v1_70 a3 s l x y = pj_bl px_X4_lookOver_v1 (pj_rn px_X4_lookOver_v1 (pj_as pk_X4_lookOver_v1) (pj_as [(71, pe_X4_lookOver_v1_71 (pl_X4_lookOver_v1_71))]) 60) [(70, .iconst 0, 1)] 70 [(0, pj_O (1, 0)), (1, pj_N 1), (2, pj_O (14, 0)), (3, pj_I a3)] [] (s, l, x, y) := rfl
set_option maxRecDepth 100000 in
theorem pq_X4_lookOver_v1_m   (s : Nat → Int32) (l : Nat → Int64) (x : Nat → Int32) (y : Nat → Int64) : pf_X4_lookOver_v1  s l x y = pj_bl px_X4_lookOver_v1 (pj_rn px_X4_lookOver_v1 (pj_as pk_X4_lookOver_v1) (pj_as [(66, pe_X4_lookOver_v1_66 (pl_X4_lookOver_v1_66)), (70, pe_X4_lookOver_v1_70 (pl_X4_lookOver_v1_70))]) 60) [(0, .iload_n 1, 1), (1, .ifCond .eq 9, 3)] 0 [(0, pj_O (1, 0)), (1, pj_N 1)] [] (s, l, x, y) := rfl
theorem pu_X4_lookOver_v1_66 {lf : pj_Z → mj_M} {a : Unit × pj_Z} (f : Int32 → pj_F (Unit × pj_Z)) (hf : ∀ (a3 : Int32) (s : Nat → Int32) (l : Nat → Int64) (x : Nat → Int32) (y : Nat → Int64), f a3 s l x y = some a → pm_Gd 2 4006 ie_X4_lookOver.1 pm_rU lf 66 [(0, .ref 1), (1, .int (Int32.ofInt 1)), (2, .ref 14), (3, .int a3)] [] (s, l, x, y) a) : pm_Ex 2 4006 ie_X4_lookOver.1 pm_rU lf a 66 (pe_X4_lookOver_v1_66 f) := by
  intro lv st z hd h
  obtain ⟨g0, h⟩ := pj_xr_inv h
  obtain ⟨g1, h⟩ := pj_xc_inv h
  obtain ⟨g2, h⟩ := pj_xr_inv h
  obtain ⟨a3, g3, h⟩ := pj_xi_inv h
  obtain ⟨e9, h⟩ := pj_pe_inv h
  rw [e9]
  exact mj_wp_sub (mj_sub_cons g0 (mj_sub_cons g1 (mj_sub_cons g2 (mj_sub_cons g3 (mj_sub_nil hd))))) (hf _ _ _ _ _ h)
theorem pu_X4_lookOver_v1_70 {lf : pj_Z → mj_M} {a : Unit × pj_Z} (f : Int32 → pj_F (Unit × pj_Z)) (hf : ∀ (a3 : Int32) (s : Nat → Int32) (l : Nat → Int64) (x : Nat → Int32) (y : Nat → Int64), f a3 s l x y = some a → pm_Gd 2 4006 ie_X4_lookOver.1 pm_rU lf 70 [(0, .ref 1), (1, .int (Int32.ofInt 1)), (2, .ref 14), (3, .int a3)] [] (s, l, x, y) a) : pm_Ex 2 4006 ie_X4_lookOver.1 pm_rU lf a 70 (pe_X4_lookOver_v1_70 f) := by
  intro lv st z hd h
  obtain ⟨g0, h⟩ := pj_xr_inv h
  obtain ⟨g1, h⟩ := pj_xc_inv h
  obtain ⟨g2, h⟩ := pj_xr_inv h
  obtain ⟨a3, g3, h⟩ := pj_xi_inv h
  obtain ⟨e9, h⟩ := pj_pe_inv h
  rw [e9]
  exact mj_wp_sub (mj_sub_cons g0 (mj_sub_cons g1 (mj_sub_cons g2 (mj_sub_cons g3 (mj_sub_nil hd))))) (hf _ _ _ _ _ h)
theorem pu_X4_lookOver_v1_71 {lf : pj_Z → mj_M} {a : Unit × pj_Z} (f : Int32 → Int32 → pj_F (Unit × pj_Z)) (hf : ∀ (a3 : Int32) (b0 : Int32) (s : Nat → Int32) (l : Nat → Int64) (x : Nat → Int32) (y : Nat → Int64), f a3 b0 s l x y = some a → pm_Gd 2 4006 ie_X4_lookOver.1 pm_rU lf 71 [(0, .ref 1), (1, .int (Int32.ofInt 1)), (2, .ref 14), (3, .int a3)] [.int b0] (s, l, x, y) a) : pm_Ex 2 4006 ie_X4_lookOver.1 pm_rU lf a 71 (pe_X4_lookOver_v1_71 f) := by
  intro lv st z hd h
  obtain ⟨g0, h⟩ := pj_xr_inv h
  obtain ⟨g1, h⟩ := pj_xc_inv h
  obtain ⟨g2, h⟩ := pj_xr_inv h
  obtain ⟨a3, g3, h⟩ := pj_xi_inv h
  obtain ⟨b0, r0, e0, h⟩ := pj_pi_inv h
  obtain ⟨e9, h⟩ := pj_pe_inv h
  rw [e0, e9]
  exact mj_wp_sub (mj_sub_cons g0 (mj_sub_cons g1 (mj_sub_cons g2 (mj_sub_cons g3 (mj_sub_nil hd))))) (hf _ _ _ _ _ _ h)
theorem pu_X4_lookOver_v1_96 {lf : pj_Z → mj_M} {a : Unit × pj_Z} (f : Int32 → Int32 → Int32 → pj_F (Unit × pj_Z)) (hf : ∀ (a3 : Int32) (a5 : Int32) (b2 : Int32) (s : Nat → Int32) (l : Nat → Int64) (x : Nat → Int32) (y : Nat → Int64), f a3 a5 b2 s l x y = some a → pm_Gd 2 4006 ie_X4_lookOver.1 pm_rU lf 96 [(0, .ref 1), (1, .int (Int32.ofInt 1)), (2, .ref 14), (3, .int a3), (5, .int a5)] [.int b2, .int (Int32.ofInt 1), .ref 18] (s, l, x, y) a) : pm_Ex 2 4006 ie_X4_lookOver.1 pm_rU lf a 96 (pe_X4_lookOver_v1_96 f) := by
  intro lv st z hd h
  obtain ⟨g0, h⟩ := pj_xr_inv h
  obtain ⟨g1, h⟩ := pj_xc_inv h
  obtain ⟨g2, h⟩ := pj_xr_inv h
  obtain ⟨a3, g3, h⟩ := pj_xi_inv h
  obtain ⟨a5, g5, h⟩ := pj_xi_inv h
  obtain ⟨b2, r2, e2, h⟩ := pj_pi_inv h
  obtain ⟨r1, e1, h⟩ := pj_pc_inv h
  obtain ⟨r0, e0, h⟩ := pj_pr_inv h
  obtain ⟨e9, h⟩ := pj_pe_inv h
  rw [e2, e1, e0, e9]
  exact mj_wp_sub (mj_sub_cons g0 (mj_sub_cons g1 (mj_sub_cons g2 (mj_sub_cons g3 (mj_sub_cons g5 (mj_sub_nil hd)))))) (hf _ _ _ _ _ _ _ h)
theorem pu_X4_lookOver_v1_128 {lf : pj_Z → mj_M} {a : Unit × pj_Z} (f : Int32 → pj_F (Unit × pj_Z)) (hf : ∀ (b2 : Int32) (s : Nat → Int32) (l : Nat → Int64) (x : Nat → Int32) (y : Nat → Int64), f b2 s l x y = some a → pm_Gd 2 4006 ie_X4_lookOver.1 pm_rU lf 128 [] [.int b2, .int (Int32.ofInt 1), .ref 19] (s, l, x, y) a) : pm_Ex 2 4006 ie_X4_lookOver.1 pm_rU lf a 128 (pe_X4_lookOver_v1_128 f) := by
  intro lv st z hd h
  obtain ⟨b2, r2, e2, h⟩ := pj_pi_inv h
  obtain ⟨r1, e1, h⟩ := pj_pc_inv h
  obtain ⟨r0, e0, h⟩ := pj_pr_inv h
  obtain ⟨e9, h⟩ := pj_pe_inv h
  rw [e2, e1, e0, e9]
  exact mj_wp_sub (mj_sub_nil hd) (hf _ _ _ _ _ h)
set_option maxRecDepth 100000 in
theorem pz_X4_lookOver_v1 {lf : pj_Z → mj_M} (hT : pj_Lt pj_TC lf) : pj_Cok ic_P (mj_R ic_P 2) 4006 ie_X4_lookOver.1 (pm_OK lf pm_rU) lf px_X4_lookOver_v1 := by
  exact pm_cok (c := px_X4_lookOver_v1) (pm_part hT (pj_as_all (p := fun b e => pj_TC b = some e) (List.forall_mem_cons.mpr ⟨rfl, (List.forall_mem_cons.mpr ⟨rfl, (List.forall_mem_cons.mpr ⟨rfl, (List.forall_mem_cons.mpr ⟨rfl, (List.forall_mem_cons.mpr ⟨rfl, (fun _ h => by cases h)⟩)⟩)⟩)⟩)⟩))) (pm_in_ok (L := [(26, 4, 4, 2, true), (32, 4, 6, 2, true), (35, 4, 7, 2, true)]) (f := mj_pF ic_P 4006) (by decide +kernel)) (fun _ _ h => by cases h) (fun _ _ h => by cases h) (fun _ _ h => by cases h) rfl rfl ⟨by decide, rfl⟩ pm_mU (pj_as_all (p := pm_Cl 2 4006 ie_X4_lookOver.1 lf (pm_OK lf pm_rU)) (List.forall_mem_cons.mpr ⟨fun _ _ lv st z K a hK h => pc_X4_isValid_v2 hT (by decide) (ix := 73) rfl rfl hK h, (List.forall_mem_cons.mpr ⟨fun _ _ lv st z K a hK h => pc_X4_isValid_v3 hT (by decide) (ix := 73) rfl rfl hK h, (fun _ h => by cases h)⟩)⟩)) (fun _ h => by cases h)
set_option maxRecDepth 100000 in
theorem pb_X4_lookOver_v1 : pm_bks ie_X4_lookOver.1.2.2.2.2 pk_X4_lookOver_v1 = true := by decide +kernel
set_option maxRecDepth 100000 in
theorem pg_X4_lookOver_v1_128 {lf : pj_Z → mj_M} (hT : pj_Lt pj_TC lf) : ∀ (b2 : Int32) (s : Nat → Int32) (l : Nat → Int64) (x : Nat → Int32) (y : Nat → Int64) (a : Unit × pj_Z), pl_X4_lookOver_v1_128 b2 s l x y = some a → pm_Gd 2 4006 ie_X4_lookOver.1 pm_rU lf 128 [] [.int b2, .int (Int32.ofInt 1), .ref 19] (s, l, x, y) a := by
  intro b2 s l x y a h
  exact pm_run ((pq_X4_lookOver_v1_128  b2 s l x y).symm.trans h) (pz_X4_lookOver_v1 hT) (pm_bks_ok pb_X4_lookOver_v1) (pm_bks_ok pb_X4_lookOver_v1 _ _ rfl) (pm_ndb_ok rfl) (fun _ _ h => by cases h)
set_option maxRecDepth 100000 in
theorem pg_X4_lookOver_v1_96 {lf : pj_Z → mj_M} (hT : pj_Lt pj_TC lf) : ∀ (a3 : Int32) (a5 : Int32) (b2 : Int32) (s : Nat → Int32) (l : Nat → Int64) (x : Nat → Int32) (y : Nat → Int64) (a : Unit × pj_Z), pl_X4_lookOver_v1_96 a3 a5 b2 s l x y = some a → pm_Gd 2 4006 ie_X4_lookOver.1 pm_rU lf 96 [(0, .ref 1), (1, .int (Int32.ofInt 1)), (2, .ref 14), (3, .int a3), (5, .int a5)] [.int b2, .int (Int32.ofInt 1), .ref 18] (s, l, x, y) a := by
  intro a3 a5 b2 s l x y a h
  exact pm_run ((pq_X4_lookOver_v1_96  a3 a5 b2 s l x y).symm.trans h) (pz_X4_lookOver_v1 hT) (pm_bks_ok pb_X4_lookOver_v1) (pm_bks_ok pb_X4_lookOver_v1 _ _ rfl) (pm_ndb_ok rfl) (pj_as_all (p := pm_Ex 2 4006 ie_X4_lookOver.1 pm_rU lf a) (List.forall_mem_cons.mpr ⟨pu_X4_lookOver_v1_128 _ (fun c0 s l x y h => pg_X4_lookOver_v1_128 hT c0 s l x y _ h), (fun _ h => by cases h)⟩))
set_option maxRecDepth 100000 in
theorem pg_X4_lookOver_v1_71 {lf : pj_Z → mj_M} (hT : pj_Lt pj_TC lf) : ∀ (a3 : Int32) (b0 : Int32) (s : Nat → Int32) (l : Nat → Int64) (x : Nat → Int32) (y : Nat → Int64) (a : Unit × pj_Z), pl_X4_lookOver_v1_71 a3 b0 s l x y = some a → pm_Gd 2 4006 ie_X4_lookOver.1 pm_rU lf 71 [(0, .ref 1), (1, .int (Int32.ofInt 1)), (2, .ref 14), (3, .int a3)] [.int b0] (s, l, x, y) a := by
  intro a3 b0 s l x y a h
  exact pm_run ((pq_X4_lookOver_v1_71  a3 b0 s l x y).symm.trans h) (pz_X4_lookOver_v1 hT) (pm_bks_ok pb_X4_lookOver_v1) (pm_bks_ok pb_X4_lookOver_v1 _ _ rfl) (pm_ndb_ok rfl) (pj_as_all (p := pm_Ex 2 4006 ie_X4_lookOver.1 pm_rU lf a) (List.forall_mem_cons.mpr ⟨pu_X4_lookOver_v1_96 _ (fun c0 c1 c2 s l x y h => pg_X4_lookOver_v1_96 hT c0 c1 c2 s l x y _ h), (fun _ h => by cases h)⟩))
set_option maxRecDepth 100000 in
theorem pg_X4_lookOver_v1_66 {lf : pj_Z → mj_M} (hT : pj_Lt pj_TC lf) : ∀ (a3 : Int32) (s : Nat → Int32) (l : Nat → Int64) (x : Nat → Int32) (y : Nat → Int64) (a : Unit × pj_Z), pl_X4_lookOver_v1_66 a3 s l x y = some a → pm_Gd 2 4006 ie_X4_lookOver.1 pm_rU lf 66 [(0, .ref 1), (1, .int (Int32.ofInt 1)), (2, .ref 14), (3, .int a3)] [] (s, l, x, y) a := by
  intro a3 s l x y a h
  exact pm_run ((pq_X4_lookOver_v1_66  a3 s l x y).symm.trans h) (pz_X4_lookOver_v1 hT) (pm_bks_ok pb_X4_lookOver_v1) (pm_bks_ok pb_X4_lookOver_v1 _ _ rfl) (pm_ndb_ok rfl) (pj_as_all (p := pm_Ex 2 4006 ie_X4_lookOver.1 pm_rU lf a) (List.forall_mem_cons.mpr ⟨pu_X4_lookOver_v1_71 _ (fun c0 c1 s l x y h => pg_X4_lookOver_v1_71 hT c0 c1 s l x y _ h), (fun _ h => by cases h)⟩))
set_option maxRecDepth 100000 in
theorem pg_X4_lookOver_v1_70 {lf : pj_Z → mj_M} (hT : pj_Lt pj_TC lf) : ∀ (a3 : Int32) (s : Nat → Int32) (l : Nat → Int64) (x : Nat → Int32) (y : Nat → Int64) (a : Unit × pj_Z), pl_X4_lookOver_v1_70 a3 s l x y = some a → pm_Gd 2 4006 ie_X4_lookOver.1 pm_rU lf 70 [(0, .ref 1), (1, .int (Int32.ofInt 1)), (2, .ref 14), (3, .int a3)] [] (s, l, x, y) a := by
  intro a3 s l x y a h
  exact pm_run ((pq_X4_lookOver_v1_70  a3 s l x y).symm.trans h) (pz_X4_lookOver_v1 hT) (pm_bks_ok pb_X4_lookOver_v1) (pm_bks_ok pb_X4_lookOver_v1 _ _ rfl) (pm_ndb_ok rfl) (pj_as_all (p := pm_Ex 2 4006 ie_X4_lookOver.1 pm_rU lf a) (List.forall_mem_cons.mpr ⟨pu_X4_lookOver_v1_71 _ (fun c0 c1 s l x y h => pg_X4_lookOver_v1_71 hT c0 c1 s l x y _ h), (fun _ h => by cases h)⟩))
set_option maxRecDepth 100000 in
theorem pm_X4_lookOver_v1 {lf : pj_Z → mj_M} (hT : pj_Lt pj_TC lf)  (s : Nat → Int32) (l : Nat → Int64) (x : Nat → Int32) (y : Nat → Int64) (a : Unit × pj_Z) (h : pf_X4_lookOver_v1  s l x y = some a) : mj_R ic_P 3 4006 [.ref 1, .int (Int32.ofInt 1)] (lf (s, l, x, y)) (pm_rU a.1) (lf a.2) := by
  refine pm_main (Y := ie_X4_lookOver.1) rfl (Nat.le_of_ble_eq_true rfl) ?_
  exact pm_run ((pq_X4_lookOver_v1_m  s l x y).symm.trans h) (pz_X4_lookOver_v1 hT) (pm_bks_ok pb_X4_lookOver_v1) (pm_bks_ok pb_X4_lookOver_v1 _ _ rfl) (pm_ndb_ok rfl) (pj_as_all (p := pm_Ex 2 4006 ie_X4_lookOver.1 pm_rU lf a) (List.forall_mem_cons.mpr ⟨pu_X4_lookOver_v1_66 _ (fun c0 s l x y h => pg_X4_lookOver_v1_66 hT c0 s l x y _ h), (List.forall_mem_cons.mpr ⟨pu_X4_lookOver_v1_70 _ (fun c0 s l x y h => pg_X4_lookOver_v1_70 hT c0 s l x y _ h), (fun _ h => by cases h)⟩)⟩))
abbrev ph_X4_lookOver_v1 {A : Type} : List pj_V → pj_Z → (List pj_V → pj_Z → Option A) → Option A := fun st z K => pj_pc st 1 fun st => pj_pr st 1 0 fun st => pj_ps st (pj_b (pf_X4_lookOver_v1  z.1 z.2.1 z.2.2.1 z.2.2.2) fun r s l x y => K st (s, l, x, y))
set_option maxRecDepth 100000 in
theorem pc_X4_lookOver_v1 {A : Type} {OK : A → Option Value → mj_M → Prop} {d j pc ix : Nat} {Y : mj_Y} {lf : pj_Z → mj_M} (hT : pj_Lt pj_TC lf) (hd : 3 ≤ d) (hl : mj_lk Y.2.2.2.2 pc = some (.invokevirtual ix, 3)) (hg : mj_pG ic_P j ix = some (4006, 1, some 4)) {lv : List (Nat × Value)} {st : List pj_V} {z : pj_Z} {K : List pj_V → pj_Z → Option A} {a : A} (hK : ∀ st z, K st z = some a → pj_Gd ic_P (mj_R ic_P d) j Y OK lf (pc + 3) lv (pj_es st) z a) (h : ph_X4_lookOver_v1 st z K = some a) : pj_Gd ic_P (mj_R ic_P d) j Y OK lf pc lv (pj_es st) z a := by
  obtain ⟨r1, e1, h⟩ := pj_pc_inv h
  obtain ⟨r0, e0, h⟩ := pj_pr_inv h
  obtain ⟨hs, h⟩ := pj_ps_inv h
  obtain ⟨q, hq, h⟩ := pj_b_inv h
  exact pm_cv (o := 1) hl hg [.int (Int32.ofInt 1)] rfl (by rw [e1, e0]; rfl) hs (by decide) ((hT.2 1 _ rfl).1.2 z 0 (by decide)) (pm_rU q.1) hd (pm_X4_lookOver_v1 hT  z.1 z.2.1 z.2.2.1 z.2.2.2 q hq) rfl (hK _ _ h)

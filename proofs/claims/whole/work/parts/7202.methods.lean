/-! METHODS 2, printed by gen_meth.py -/
abbrev px_X2_lose : pj_C (Unit × pj_Z) := ((pj_as [(58, 2, 19, 1, 0, true, 0, [(0, 19), (0, 20), (1, 4), (1, 5), (1, 6), (1, 7), (0, 21), (0, 22), (0, 23), (0, 24), (0, 25), (2, 59), (2, 63), (0, 26), (1, 8), (1, 9), (1, 10), (0, 27), (0, 28)])]), (pj_as [(22, 2, 0, 0, false), (30, 2, 2, 0, false)]), (fun _ => none), (fun _ => none), (fun _ => none), ic_X, 1, 0, pj_mU, (pj_as [(11, ph_X2_measure)]), fun _ => false)
abbrev pk_X2_lose : List (Nat × List (Nat × Instr × Nat)) := [(0, [(0, .aload_n 0, 1), (1, .iconst 0, 1), (2, .putfield 22, 3), (5, .aload_n 0, 1), (6, .iconst 0, 1), (7, .putfield 30, 3), (10, .aload_n 0, 1), (11, .invokevirtual 87, 3), (14, .return_, 1)])]
set_option maxRecDepth 100000 in
theorem pq_X2_lose_m   (s : Nat → Int32) (l : Nat → Int64) (x : Nat → Int32) (y : Nat → Int64) : pf_X2_lose  s l x y = pj_bl px_X2_lose (pj_rn px_X2_lose (pj_as pk_X2_lose) (fun _ => none) 60) [(0, .aload_n 0, 1), (1, .iconst 0, 1), (2, .putfield 22, 3), (5, .aload_n 0, 1), (6, .iconst 0, 1), (7, .putfield 30, 3), (10, .aload_n 0, 1), (11, .invokevirtual 87, 3), (14, .return_, 1)] 0 [(0, pj_O (58, 0))] [] (s, l, x, y) := rfl
set_option maxRecDepth 100000 in
theorem pz_X2_lose {lf : pj_Z → mj_M} (hT : pj_Lt pj_TC lf) : pj_Cok ic_P (mj_R ic_P 1) 2003 ie_X2_lose.1 (pm_OK lf pm_rU) lf px_X2_lose := by
  exact pm_cok (c := px_X2_lose) (pm_part hT (pj_as_all (p := fun b e => pj_TC b = some e) (List.forall_mem_cons.mpr ⟨rfl, (fun _ h => by cases h)⟩))) (pm_in_ok (L := [(22, 2, 0, 0, false), (30, 2, 2, 0, false)]) (f := mj_pF ic_P 2003) (by decide +kernel)) (fun _ _ h => by cases h) (fun _ _ h => by cases h) (fun _ _ h => by cases h) rfl rfl ⟨by decide, rfl⟩ pm_mU (pj_as_all (p := pm_Cl 1 2003 ie_X2_lose.1 lf (pm_OK lf pm_rU)) (List.forall_mem_cons.mpr ⟨fun _ _ lv st z K a hK h => pc_X2_measure hT (by decide) (ix := 87) rfl rfl hK h, (fun _ h => by cases h)⟩)) (fun _ h => by cases h)
set_option maxRecDepth 100000 in
theorem pb_X2_lose : pm_bks ie_X2_lose.1.2.2.2.2 pk_X2_lose = true := by decide +kernel
set_option maxRecDepth 100000 in
theorem pm_X2_lose {lf : pj_Z → mj_M} (hT : pj_Lt pj_TC lf)  (s : Nat → Int32) (l : Nat → Int64) (x : Nat → Int32) (y : Nat → Int64) (a : Unit × pj_Z) (h : pf_X2_lose  s l x y = some a) : mj_R ic_P 2 2003 [.ref 58] (lf (s, l, x, y)) (pm_rU a.1) (lf a.2) := by
  refine pm_main (Y := ie_X2_lose.1) rfl (Nat.le_of_ble_eq_true rfl) ?_
  exact pm_run ((pq_X2_lose_m  s l x y).symm.trans h) (pz_X2_lose hT) (pm_bks_ok pb_X2_lose) (pm_bks_ok pb_X2_lose _ _ rfl) (pm_ndb_ok rfl) (fun _ _ h => by cases h)
abbrev ph_X2_lose {A : Type} : List pj_V → pj_Z → (List pj_V → pj_Z → Option A) → Option A := fun st z K => pj_pr st 58 0 fun st => pj_ps st (pj_b (pf_X2_lose  z.1 z.2.1 z.2.2.1 z.2.2.2) fun r s l x y => K st (s, l, x, y))
set_option maxRecDepth 100000 in
theorem pc_X2_lose {A : Type} {OK : A → Option Value → mj_M → Prop} {d j pc ix : Nat} {Y : mj_Y} {lf : pj_Z → mj_M} (hT : pj_Lt pj_TC lf) (hd : 2 ≤ d) (hl : mj_lk Y.2.2.2.2 pc = some (.invokevirtual ix, 3)) (hg : mj_pG ic_P j ix = some (2003, 0, some 2)) {lv : List (Nat × Value)} {st : List pj_V} {z : pj_Z} {K : List pj_V → pj_Z → Option A} {a : A} (hK : ∀ st z, K st z = some a → pj_Gd ic_P (mj_R ic_P d) j Y OK lf (pc + 3) lv (pj_es st) z a) (h : ph_X2_lose st z K = some a) : pj_Gd ic_P (mj_R ic_P d) j Y OK lf pc lv (pj_es st) z a := by
  obtain ⟨r0, e0, h⟩ := pj_pr_inv h
  obtain ⟨hs, h⟩ := pj_ps_inv h
  obtain ⟨q, hq, h⟩ := pj_b_inv h
  exact pm_cv (o := 58) hl hg [] rfl (by rw [e0]; rfl) hs (by decide) ((hT.2 58 _ rfl).1.2 z 0 (by decide)) (pm_rU q.1) hd (pm_X2_lose hT  z.1 z.2.1 z.2.2.1 z.2.2.2 q hq) rfl (hK _ _ h)
abbrev px_X11_lookForStall : pj_C (Unit × pj_Z) := ((pj_as [(0, 11, 17, 1, 0, true, 0, [(2, 1), (2, 20), (2, 58), (2, 68), (2, 82), (2, 83), (2, 85), (2, 96), (2, 102), (2, 106), (2, 122), (0, 93), (0, 94), (0, 95), (1, 1), (1, 2), (0, 96)]), (1, 4, 10, 1, 0, true, 0, [(2, 2), (2, 3), (2, 8), (2, 11), (2, 14), (2, 17), (2, 18), (2, 19), (0, 44), (1, 3)]), (2, 100, 24, 1, 0, true, 10000, []), (58, 2, 19, 1, 0, true, 0, [(0, 19), (0, 20), (1, 4), (1, 5), (1, 6), (1, 7), (0, 21), (0, 22), (0, 23), (0, 24), (0, 25), (2, 59), (2, 63), (0, 26), (1, 8), (1, 9), (1, 10), (0, 27), (0, 28)])]), (pj_as [(10, 11, 0, 2, true), (26, 11, 2, 2, true), (86, 11, 11, 1, false), (127, 2, 0, 0, false), (287, 4, 0, 2, true), (731, 2, 1, 1, false)]), (fun _ => none), (fun _ => none), (fun _ => none), ic_X, 1, 0, pj_mU, (pj_as [(40, ph_X2_lose), (44, ph_X11_allOff)]), fun _ => false)
abbrev pk_X11_lookForStall : List (Nat × List (Nat × Instr × Nat)) := [(0, [(0, .aload_n 0, 1), (1, .getfield 26, 3), (4, .getfield 127, 3), (7, .ifCond .eq 40, 3)]), (10, [(10, .aload_n 0, 1), (11, .getfield 86, 3), (14, .aload_n 0, 1), (15, .getfield 26, 3), (18, .getfield 731, 3), (21, .lsub, 1), (22, .aload_n 0, 1), (23, .getfield 10, 3), (26, .getfield 287, 3), (29, .iconst 2, 1), (30, .iaload, 1), (31, .i2l, 1), (32, .lcmp, 1), (33, .ifCond .lt 14, 3)]), (36, [(36, .aload_n 0, 1), (37, .getfield 26, 3), (40, .invokevirtual 734, 3), (43, .aload_n 0, 1), (44, .invokevirtual 94, 3)]), (47, [(47, .return_, 1)])]
set_option maxRecDepth 100000 in
theorem pq_X11_lookForStall_m   (s : Nat → Int32) (l : Nat → Int64) (x : Nat → Int32) (y : Nat → Int64) : pf_X11_lookForStall  s l x y = pj_bl px_X11_lookForStall (pj_rn px_X11_lookForStall (pj_as pk_X11_lookForStall) (fun _ => none) 60) [(0, .aload_n 0, 1), (1, .getfield 26, 3), (4, .getfield 127, 3), (7, .ifCond .eq 40, 3)] 0 [(0, pj_O (0, 0))] [] (s, l, x, y) := rfl
set_option maxRecDepth 100000 in
theorem pz_X11_lookForStall {lf : pj_Z → mj_M} (hT : pj_Lt pj_TC lf) : pj_Cok ic_P (mj_R ic_P 3) 11068 ie_X11_lookForStall.1 (pm_OK lf pm_rU) lf px_X11_lookForStall := by
  exact pm_cok (c := px_X11_lookForStall) (pm_part hT (pj_as_all (p := fun b e => pj_TC b = some e) (List.forall_mem_cons.mpr ⟨rfl, (List.forall_mem_cons.mpr ⟨rfl, (List.forall_mem_cons.mpr ⟨rfl, (List.forall_mem_cons.mpr ⟨rfl, (fun _ h => by cases h)⟩)⟩)⟩)⟩))) (pm_in_ok (L := [(10, 11, 0, 2, true), (26, 11, 2, 2, true), (86, 11, 11, 1, false), (127, 2, 0, 0, false), (287, 4, 0, 2, true), (731, 2, 1, 1, false)]) (f := mj_pF ic_P 11068) (by decide +kernel)) (fun _ _ h => by cases h) (fun _ _ h => by cases h) (fun _ _ h => by cases h) rfl rfl ⟨by decide, rfl⟩ pm_mU (pj_as_all (p := pm_Cl 3 11068 ie_X11_lookForStall.1 lf (pm_OK lf pm_rU)) (List.forall_mem_cons.mpr ⟨fun _ _ lv st z K a hK h => pc_X2_lose hT (by decide) (ix := 734) rfl rfl hK h, (List.forall_mem_cons.mpr ⟨fun _ _ lv st z K a hK h => pc_X11_allOff hT (by decide) (ix := 94) rfl rfl hK h, (fun _ h => by cases h)⟩)⟩)) (fun _ h => by cases h)
set_option maxRecDepth 100000 in
theorem pb_X11_lookForStall : pm_bks ie_X11_lookForStall.1.2.2.2.2 pk_X11_lookForStall = true := by decide +kernel
set_option maxRecDepth 100000 in
theorem pm_X11_lookForStall {lf : pj_Z → mj_M} (hT : pj_Lt pj_TC lf)  (s : Nat → Int32) (l : Nat → Int64) (x : Nat → Int32) (y : Nat → Int64) (a : Unit × pj_Z) (h : pf_X11_lookForStall  s l x y = some a) : mj_R ic_P 4 11068 [.ref 0] (lf (s, l, x, y)) (pm_rU a.1) (lf a.2) := by
  refine pm_main (Y := ie_X11_lookForStall.1) rfl (Nat.le_of_ble_eq_true rfl) ?_
  exact pm_run ((pq_X11_lookForStall_m  s l x y).symm.trans h) (pz_X11_lookForStall hT) (pm_bks_ok pb_X11_lookForStall) (pm_bks_ok pb_X11_lookForStall _ _ rfl) (pm_ndb_ok rfl) (fun _ _ h => by cases h)
abbrev ph_X11_lookForStall {A : Type} : List pj_V → pj_Z → (List pj_V → pj_Z → Option A) → Option A := fun st z K => pj_pr st 0 0 fun st => pj_ps st (pj_b (pf_X11_lookForStall  z.1 z.2.1 z.2.2.1 z.2.2.2) fun r s l x y => K st (s, l, x, y))
set_option maxRecDepth 100000 in
theorem pc_X11_lookForStall {A : Type} {OK : A → Option Value → mj_M → Prop} {d j pc ix : Nat} {Y : mj_Y} {lf : pj_Z → mj_M} (hT : pj_Lt pj_TC lf) (hd : 4 ≤ d) (hl : mj_lk Y.2.2.2.2 pc = some (.invokevirtual ix, 3)) (hg : mj_pG ic_P j ix = some (11068, 0, some 11)) {lv : List (Nat × Value)} {st : List pj_V} {z : pj_Z} {K : List pj_V → pj_Z → Option A} {a : A} (hK : ∀ st z, K st z = some a → pj_Gd ic_P (mj_R ic_P d) j Y OK lf (pc + 3) lv (pj_es st) z a) (h : ph_X11_lookForStall st z K = some a) : pj_Gd ic_P (mj_R ic_P d) j Y OK lf pc lv (pj_es st) z a := by
  obtain ⟨r0, e0, h⟩ := pj_pr_inv h
  obtain ⟨hs, h⟩ := pj_ps_inv h
  obtain ⟨q, hq, h⟩ := pj_b_inv h
  exact pm_cv (o := 0) hl hg [] rfl (by rw [e0]; rfl) hs (by decide) ((hT.2 0 _ rfl).1.2 z 0 (by decide)) (pm_rU q.1) hd (pm_X11_lookForStall hT  z.1 z.2.1 z.2.2.1 z.2.2.2 q hq) rfl (hK _ _ h)
abbrev pe_X9_countApart_22 (f : Int64 → pj_F (Int32 × pj_Z)) : pj_K (Int32 × pj_Z) := fun lv st z => pj_pl st fun b0 st => pj_pe st (f b0 z.1 z.2.1 z.2.2.1 z.2.2.2)
abbrev px_X9_countApart : pj_C (Int32 × pj_Z) := ((fun _ => none), (fun _ => none), (fun _ => none), (fun _ => none), (fun _ => none), ic_X, 3, 1, pj_mI, (pj_as [(3, ph_J9_abs_0f7a4), (25, ph_X11_clip)]), fun _ => false)
abbrev pk_X9_countApart : List (Nat × List (Nat × Instr × Nat)) := [(0, [(0, .iload_n 1, 1), (1, .iload_n 2, 1), (2, .isub, 1), (3, .invokestatic 87, 3), (6, .bipush 60, 2), (8, .if_icmp .le 10, 3)]), (11, [(11, .iload_n 0, 1), (12, .iconst 1, 1), (13, .iadd, 1), (14, .i2l, 1), (15, .goto 7, 3)]), (18, [(18, .iload_n 0, 1), (19, .iconst 1, 1), (20, .isub, 1), (21, .i2l, 1)]), (22, [(22, .iconst 0, 1), (23, .bipush 20, 2), (25, .invokestatic 91, 3), (28, .ireturn, 1)])]
set_option maxRecDepth 100000 in
theorem pq_X9_countApart_22  (b0 : Int64) (s : Nat → Int32) (l : Nat → Int64) (x : Nat → Int32) (y : Nat → Int64) : pl_X9_countApart_22 b0 s l x y = pj_bl px_X9_countApart (pj_rn px_X9_countApart (pj_as pk_X9_countApart) (fun _ => none) 60) [(22, .iconst 0, 1), (23, .bipush 20, 2), (25, .invokestatic 91, 3), (28, .ireturn, 1)] 22 [] [pj_L b0] (s, l, x, y) := rfl
set_option maxRecDepth 100000 in
theorem pq_X9_countApart_m  (a0 : Int32) (a1 : Int32) (a2 : Int32) (s : Nat → Int32) (l : Nat → Int64) (x : Nat → Int32) (y : Nat → Int64) : pf_X9_countApart a0 a1 a2 s l x y = pj_bl px_X9_countApart (pj_rn px_X9_countApart (pj_as pk_X9_countApart) (pj_as [(22, pe_X9_countApart_22 (pl_X9_countApart_22))]) 60) [(0, .iload_n 1, 1), (1, .iload_n 2, 1), (2, .isub, 1), (3, .invokestatic 87, 3), (6, .bipush 60, 2), (8, .if_icmp .le 10, 3)] 0 [(0, pj_I a0), (1, pj_I a1), (2, pj_I a2)] [] (s, l, x, y) := rfl
theorem pu_X9_countApart_22 {lf : pj_Z → mj_M} {a : Int32 × pj_Z} (f : Int64 → pj_F (Int32 × pj_Z)) (hf : ∀ (b0 : Int64) (s : Nat → Int32) (l : Nat → Int64) (x : Nat → Int32) (y : Nat → Int64), f b0 s l x y = some a → pm_Gd 1 9005 ie_X9_countApart.1 pm_rI lf 22 [] [.long b0] (s, l, x, y) a) : pm_Ex 1 9005 ie_X9_countApart.1 pm_rI lf a 22 (pe_X9_countApart_22 f) := by
  intro lv st z hd h
  obtain ⟨b0, r0, e0, h⟩ := pj_pl_inv h
  obtain ⟨e9, h⟩ := pj_pe_inv h
  rw [e0, e9]
  exact mj_wp_sub (mj_sub_nil hd) (hf _ _ _ _ _ h)
set_option maxRecDepth 100000 in
theorem pz_X9_countApart {lf : pj_Z → mj_M} (hT : pj_Lt pj_TC lf) : pj_Cok ic_P (mj_R ic_P 1) 9005 ie_X9_countApart.1 (pm_OK lf pm_rI) lf px_X9_countApart := by
  exact pm_cok (c := px_X9_countApart) (pm_none hT) (fun _ _ h => by cases h) (fun _ _ h => by cases h) (fun _ _ h => by cases h) (fun _ _ h => by cases h) rfl rfl ⟨by decide, rfl⟩ pm_mI (pj_as_all (p := pm_Cl 1 9005 ie_X9_countApart.1 lf (pm_OK lf pm_rI)) (List.forall_mem_cons.mpr ⟨fun _ _ lv st z K a hK h => pc_J9_abs_0f7a4 (pm_none hT) (by decide) (ix := 87) rfl rfl hK h, (List.forall_mem_cons.mpr ⟨fun _ _ lv st z K a hK h => pc_X11_clip hT (by decide) (ix := 91) rfl rfl hK h, (fun _ h => by cases h)⟩)⟩)) (fun _ h => by cases h)
set_option maxRecDepth 100000 in
theorem pb_X9_countApart : pm_bks ie_X9_countApart.1.2.2.2.2 pk_X9_countApart = true := by decide +kernel
set_option maxRecDepth 100000 in
theorem pg_X9_countApart_22 {lf : pj_Z → mj_M} (hT : pj_Lt pj_TC lf) : ∀ (b0 : Int64) (s : Nat → Int32) (l : Nat → Int64) (x : Nat → Int32) (y : Nat → Int64) (a : Int32 × pj_Z), pl_X9_countApart_22 b0 s l x y = some a → pm_Gd 1 9005 ie_X9_countApart.1 pm_rI lf 22 [] [.long b0] (s, l, x, y) a := by
  intro b0 s l x y a h
  exact pm_run ((pq_X9_countApart_22  b0 s l x y).symm.trans h) (pz_X9_countApart hT) (pm_bks_ok pb_X9_countApart) (pm_bks_ok pb_X9_countApart _ _ rfl) (pm_ndb_ok rfl) (fun _ _ h => by cases h)
set_option maxRecDepth 100000 in
theorem pm_X9_countApart {lf : pj_Z → mj_M} (hT : pj_Lt pj_TC lf) (a0 : Int32) (a1 : Int32) (a2 : Int32) (s : Nat → Int32) (l : Nat → Int64) (x : Nat → Int32) (y : Nat → Int64) (a : Int32 × pj_Z) (h : pf_X9_countApart a0 a1 a2 s l x y = some a) : mj_R ic_P 2 9005 [.int a0, .int a1, .int a2] (lf (s, l, x, y)) (pm_rI a.1) (lf a.2) := by
  refine pm_main (Y := ie_X9_countApart.1) rfl (Nat.le_of_ble_eq_true rfl) ?_
  exact pm_run ((pq_X9_countApart_m a0 a1 a2 s l x y).symm.trans h) (pz_X9_countApart hT) (pm_bks_ok pb_X9_countApart) (pm_bks_ok pb_X9_countApart _ _ rfl) (pm_ndb_ok rfl) (pj_as_all (p := pm_Ex 1 9005 ie_X9_countApart.1 pm_rI lf a) (List.forall_mem_cons.mpr ⟨pu_X9_countApart_22 _ (fun c0 s l x y h => pg_X9_countApart_22 hT c0 s l x y _ h), (fun _ h => by cases h)⟩))
abbrev ph_X9_countApart {A : Type} : List pj_V → pj_Z → (List pj_V → pj_Z → Option A) → Option A := fun st z K => pj_pi st fun a2 st => pj_pi st fun a1 st => pj_pi st fun a0 st => pj_ps st (pj_b (pf_X9_countApart a0 a1 a2 z.1 z.2.1 z.2.2.1 z.2.2.2) fun r s l x y => K (pj_I r :: st) (s, l, x, y))
set_option maxRecDepth 100000 in
theorem pc_X9_countApart {A : Type} {OK : A → Option Value → mj_M → Prop} {d j pc ix : Nat} {Y : mj_Y} {lf : pj_Z → mj_M} (hT : pj_Lt pj_TC lf) (hd : 2 ≤ d) (hl : mj_lk Y.2.2.2.2 pc = some (.invokestatic ix, 3)) (hg : mj_pG ic_P j ix = some (9005, 3, none)) {lv : List (Nat × Value)} {st : List pj_V} {z : pj_Z} {K : List pj_V → pj_Z → Option A} {a : A} (hK : ∀ st z, K st z = some a → pj_Gd ic_P (mj_R ic_P d) j Y OK lf (pc + 3) lv (pj_es st) z a) (h : ph_X9_countApart st z K = some a) : pj_Gd ic_P (mj_R ic_P d) j Y OK lf pc lv (pj_es st) z a := by
  obtain ⟨a2, r2, e2, h⟩ := pj_pi_inv h
  obtain ⟨a1, r1, e1, h⟩ := pj_pi_inv h
  obtain ⟨a0, r0, e0, h⟩ := pj_pi_inv h
  obtain ⟨hs, h⟩ := pj_ps_inv h
  obtain ⟨q, hq, h⟩ := pj_b_inv h
  exact pm_cs hl hg [.int a0, .int a1, .int a2] rfl (by rw [e2, e1, e0]; rfl) hs (pm_rI q.1) hd (pm_X9_countApart hT a0 a1 a2 z.1 z.2.1 z.2.2.1 z.2.2.2 q hq) rfl (hK _ _ h)
abbrev pe_X9_readPedals_38 (f : Int32 → Int32 → Int32 → Int32 → pj_F (Unit × pj_Z)) : pj_K (Unit × pj_Z) := fun lv st z => pj_xr lv 0 82 0 <| pj_xi lv 2 fun a2 => pj_xi lv 3 fun a3 => pj_xi lv 4 fun a4 => pj_xi lv 5 fun a5 => pj_pe st (f a2 a3 a4 a5 z.1 z.2.1 z.2.2.1 z.2.2.2)
abbrev pe_X9_readPedals_58 (f : Int32 → pj_F (Unit × pj_Z)) : pj_K (Unit × pj_Z) := fun lv st z => pj_pi st fun b1 st => pj_pr st 82 0 fun st => pj_pe st (f b1 z.1 z.2.1 z.2.2.1 z.2.2.2)
abbrev px_X9_readPedals : pj_C (Unit × pj_Z) := ((pj_as [(20, 7, 11, 1, 0, true, 0, [(2, 21), (2, 35), (2, 49), (2, 50), (2, 51), (2, 52), (2, 53), (2, 54), (2, 55), (2, 56), (2, 57)]), (55, 100, 10, 1, 0, true, 34000, []), (57, 102, 10, 1, 0, true, 36000, []), (82, 9, 18, 1, 0, true, 0, [(0, 71), (0, 72), (1, 12), (0, 73), (0, 74), (0, 75), (0, 76), (0, 77), (0, 78), (0, 79), (0, 80), (1, 13), (0, 81), (0, 82), (0, 83), (0, 84), (0, 85), (0, 86)])]), (pj_as [(9, 9, 0, 0, false), (21, 9, 3, 0, false), (73, 7, 10, 2, true), (79, 7, 8, 2, true)]), (fun _ => none), (fun _ => none), (fun _ => none), ic_X, 6, 0, pj_mU, (pj_as [(71, ph_X9_countApart), (82, ph_J9_min_7cf53)]), fun _ => false)
abbrev pk_X9_readPedals : List (Nat × List (Nat × Instr × Nat)) := [(0, [(0, .aload_n 1, 1), (1, .getfield 73, 3), (4, .iconst 0, 1), (5, .baload, 1), (6, .istore_n 2, 1), (7, .aload_n 1, 1), (8, .getfield 73, 3), (11, .iconst 1, 1), (12, .baload, 1), (13, .istore_n 3, 1), (14, .aload_n 1, 1), (15, .getfield 79, 3), (18, .iconst 0, 1), (19, .iaload, 1), (20, .istore 4, 2), (22, .aload_n 1, 1), (23, .getfield 79, 3), (26, .iconst 1, 1), (27, .iaload, 1), (28, .istore 5, 2), (30, .iload_n 2, 1), (31, .ifCond .ne 7, 3)]), (34, [(34, .iload_n 3, 1), (35, .ifCond .eq 27, 3)]), (38, [(38, .aload_n 0, 1), (39, .iload_n 2, 1), (40, .ifCond .ne 8, 3)]), (43, [(43, .iload 4, 2), (45, .goto 13, 3)]), (48, [(48, .iload_n 3, 1), (49, .ifCond .ne 8, 3)]), (52, [(52, .iload 5, 2), (54, .goto 4, 3)]), (57, [(57, .iconst 0, 1)]), (58, [(58, .putfield 9, 3), (61, .return_, 1)]), (62, [(62, .aload_n 0, 1), (63, .aload_n 0, 1), (64, .getfield 21, 3), (67, .iload 4, 2), (69, .iload 5, 2), (71, .invokestatic 83, 3), (74, .putfield 21, 3), (77, .aload_n 0, 1), (78, .iload 4, 2), (80, .iload 5, 2), (82, .invokestatic 67, 3), (85, .putfield 9, 3), (88, .return_, 1)])]
set_option maxRecDepth 100000 in
theorem pq_X9_readPedals_58  (b1 : Int32) (s : Nat → Int32) (l : Nat → Int64) (x : Nat → Int32) (y : Nat → Int64) : pl_X9_readPedals_58 b1 s l x y = pj_bl px_X9_readPedals (pj_rn px_X9_readPedals (pj_as pk_X9_readPedals) (fun _ => none) 60) [(58, .putfield 9, 3), (61, .return_, 1)] 58 [] [pj_I b1, pj_O (82, 0)] (s, l, x, y) := rfl
set_option maxRecDepth 100000 in
theorem pq_X9_readPedals_38  (a2 : Int32) (a3 : Int32) (a4 : Int32) (a5 : Int32) (s : Nat → Int32) (l : Nat → Int64) (x : Nat → Int32) (y : Nat → Int64) : pl_X9_readPedals_38 a2 a3 a4 a5 s l x y = pj_bl px_X9_readPedals (pj_rn px_X9_readPedals (pj_as pk_X9_readPedals) (pj_as [(58, pe_X9_readPedals_58 (pl_X9_readPedals_58))]) 60) [(38, .aload_n 0, 1), (39, .iload_n 2, 1), (40, .ifCond .ne 8, 3)] 38 [(0, pj_O (82, 0)), (2, pj_I a2), (3, pj_I a3), (4, pj_I a4), (5, pj_I a5)] [] (s, l, x, y) := rfl
set_option maxRecDepth 100000 in
theorem pq_X9_readPedals_m   (s : Nat → Int32) (l : Nat → Int64) (x : Nat → Int32) (y : Nat → Int64) : pf_X9_readPedals  s l x y = pj_bl px_X9_readPedals (pj_rn px_X9_readPedals (pj_as pk_X9_readPedals) (pj_as [(38, pe_X9_readPedals_38 (pl_X9_readPedals_38))]) 60) [(0, .aload_n 1, 1), (1, .getfield 73, 3), (4, .iconst 0, 1), (5, .baload, 1), (6, .istore_n 2, 1), (7, .aload_n 1, 1), (8, .getfield 73, 3), (11, .iconst 1, 1), (12, .baload, 1), (13, .istore_n 3, 1), (14, .aload_n 1, 1), (15, .getfield 79, 3), (18, .iconst 0, 1), (19, .iaload, 1), (20, .istore 4, 2), (22, .aload_n 1, 1), (23, .getfield 79, 3), (26, .iconst 1, 1), (27, .iaload, 1), (28, .istore 5, 2), (30, .iload_n 2, 1), (31, .ifCond .ne 7, 3)] 0 [(0, pj_O (82, 0)), (1, pj_O (20, 0))] [] (s, l, x, y) := rfl
theorem pu_X9_readPedals_38 {lf : pj_Z → mj_M} {a : Unit × pj_Z} (f : Int32 → Int32 → Int32 → Int32 → pj_F (Unit × pj_Z)) (hf : ∀ (a2 : Int32) (a3 : Int32) (a4 : Int32) (a5 : Int32) (s : Nat → Int32) (l : Nat → Int64) (x : Nat → Int32) (y : Nat → Int64), f a2 a3 a4 a5 s l x y = some a → pm_Gd 2 9003 ie_X9_readPedals.1 pm_rU lf 38 [(0, .ref 82), (2, .int a2), (3, .int a3), (4, .int a4), (5, .int a5)] [] (s, l, x, y) a) : pm_Ex 2 9003 ie_X9_readPedals.1 pm_rU lf a 38 (pe_X9_readPedals_38 f) := by
  intro lv st z hd h
  obtain ⟨g0, h⟩ := pj_xr_inv h
  obtain ⟨a2, g2, h⟩ := pj_xi_inv h
  obtain ⟨a3, g3, h⟩ := pj_xi_inv h
  obtain ⟨a4, g4, h⟩ := pj_xi_inv h
  obtain ⟨a5, g5, h⟩ := pj_xi_inv h
  obtain ⟨e9, h⟩ := pj_pe_inv h
  rw [e9]
  exact mj_wp_sub (mj_sub_cons g0 (mj_sub_cons g2 (mj_sub_cons g3 (mj_sub_cons g4 (mj_sub_cons g5 (mj_sub_nil hd)))))) (hf _ _ _ _ _ _ _ _ h)
theorem pu_X9_readPedals_58 {lf : pj_Z → mj_M} {a : Unit × pj_Z} (f : Int32 → pj_F (Unit × pj_Z)) (hf : ∀ (b1 : Int32) (s : Nat → Int32) (l : Nat → Int64) (x : Nat → Int32) (y : Nat → Int64), f b1 s l x y = some a → pm_Gd 2 9003 ie_X9_readPedals.1 pm_rU lf 58 [] [.int b1, .ref 82] (s, l, x, y) a) : pm_Ex 2 9003 ie_X9_readPedals.1 pm_rU lf a 58 (pe_X9_readPedals_58 f) := by
  intro lv st z hd h
  obtain ⟨b1, r1, e1, h⟩ := pj_pi_inv h
  obtain ⟨r0, e0, h⟩ := pj_pr_inv h
  obtain ⟨e9, h⟩ := pj_pe_inv h
  rw [e1, e0, e9]
  exact mj_wp_sub (mj_sub_nil hd) (hf _ _ _ _ _ h)
set_option maxRecDepth 100000 in
theorem pz_X9_readPedals {lf : pj_Z → mj_M} (hT : pj_Lt pj_TC lf) : pj_Cok ic_P (mj_R ic_P 2) 9003 ie_X9_readPedals.1 (pm_OK lf pm_rU) lf px_X9_readPedals := by
  exact pm_cok (c := px_X9_readPedals) (pm_part hT (pj_as_all (p := fun b e => pj_TC b = some e) (List.forall_mem_cons.mpr ⟨rfl, (List.forall_mem_cons.mpr ⟨rfl, (List.forall_mem_cons.mpr ⟨rfl, (List.forall_mem_cons.mpr ⟨rfl, (fun _ h => by cases h)⟩)⟩)⟩)⟩))) (pm_in_ok (L := [(9, 9, 0, 0, false), (21, 9, 3, 0, false), (73, 7, 10, 2, true), (79, 7, 8, 2, true)]) (f := mj_pF ic_P 9003) (by decide +kernel)) (fun _ _ h => by cases h) (fun _ _ h => by cases h) (fun _ _ h => by cases h) rfl rfl ⟨by decide, rfl⟩ pm_mU (pj_as_all (p := pm_Cl 2 9003 ie_X9_readPedals.1 lf (pm_OK lf pm_rU)) (List.forall_mem_cons.mpr ⟨fun _ _ lv st z K a hK h => pc_X9_countApart hT (by decide) (ix := 83) rfl rfl hK h, (List.forall_mem_cons.mpr ⟨fun _ _ lv st z K a hK h => pc_J9_min_7cf53 (pm_none hT) (by decide) (ix := 67) rfl rfl hK h, (fun _ h => by cases h)⟩)⟩)) (fun _ h => by cases h)
set_option maxRecDepth 100000 in
theorem pb_X9_readPedals : pm_bks ie_X9_readPedals.1.2.2.2.2 pk_X9_readPedals = true := by decide +kernel
set_option maxRecDepth 100000 in
theorem pg_X9_readPedals_58 {lf : pj_Z → mj_M} (hT : pj_Lt pj_TC lf) : ∀ (b1 : Int32) (s : Nat → Int32) (l : Nat → Int64) (x : Nat → Int32) (y : Nat → Int64) (a : Unit × pj_Z), pl_X9_readPedals_58 b1 s l x y = some a → pm_Gd 2 9003 ie_X9_readPedals.1 pm_rU lf 58 [] [.int b1, .ref 82] (s, l, x, y) a := by
  intro b1 s l x y a h
  exact pm_run ((pq_X9_readPedals_58  b1 s l x y).symm.trans h) (pz_X9_readPedals hT) (pm_bks_ok pb_X9_readPedals) (pm_bks_ok pb_X9_readPedals _ _ rfl) (pm_ndb_ok rfl) (fun _ _ h => by cases h)
set_option maxRecDepth 100000 in
theorem pg_X9_readPedals_38 {lf : pj_Z → mj_M} (hT : pj_Lt pj_TC lf) : ∀ (a2 : Int32) (a3 : Int32) (a4 : Int32) (a5 : Int32) (s : Nat → Int32) (l : Nat → Int64) (x : Nat → Int32) (y : Nat → Int64) (a : Unit × pj_Z), pl_X9_readPedals_38 a2 a3 a4 a5 s l x y = some a → pm_Gd 2 9003 ie_X9_readPedals.1 pm_rU lf 38 [(0, .ref 82), (2, .int a2), (3, .int a3), (4, .int a4), (5, .int a5)] [] (s, l, x, y) a := by
  intro a2 a3 a4 a5 s l x y a h
  exact pm_run ((pq_X9_readPedals_38  a2 a3 a4 a5 s l x y).symm.trans h) (pz_X9_readPedals hT) (pm_bks_ok pb_X9_readPedals) (pm_bks_ok pb_X9_readPedals _ _ rfl) (pm_ndb_ok rfl) (pj_as_all (p := pm_Ex 2 9003 ie_X9_readPedals.1 pm_rU lf a) (List.forall_mem_cons.mpr ⟨pu_X9_readPedals_58 _ (fun c0 s l x y h => pg_X9_readPedals_58 hT c0 s l x y _ h), (fun _ h => by cases h)⟩))
set_option maxRecDepth 100000 in
theorem pm_X9_readPedals {lf : pj_Z → mj_M} (hT : pj_Lt pj_TC lf)  (s : Nat → Int32) (l : Nat → Int64) (x : Nat → Int32) (y : Nat → Int64) (a : Unit × pj_Z) (h : pf_X9_readPedals  s l x y = some a) : mj_R ic_P 3 9003 [.ref 82, .ref 20] (lf (s, l, x, y)) (pm_rU a.1) (lf a.2) := by
  refine pm_main (Y := ie_X9_readPedals.1) rfl (Nat.le_of_ble_eq_true rfl) ?_
  exact pm_run ((pq_X9_readPedals_m  s l x y).symm.trans h) (pz_X9_readPedals hT) (pm_bks_ok pb_X9_readPedals) (pm_bks_ok pb_X9_readPedals _ _ rfl) (pm_ndb_ok rfl) (pj_as_all (p := pm_Ex 2 9003 ie_X9_readPedals.1 pm_rU lf a) (List.forall_mem_cons.mpr ⟨pu_X9_readPedals_38 _ (fun c0 c1 c2 c3 s l x y h => pg_X9_readPedals_38 hT c0 c1 c2 c3 s l x y _ h), (fun _ h => by cases h)⟩))
abbrev ph_X9_readPedals {A : Type} : List pj_V → pj_Z → (List pj_V → pj_Z → Option A) → Option A := fun st z K => pj_pr st 20 0 fun st => pj_pr st 82 0 fun st => pj_ps st (pj_b (pf_X9_readPedals  z.1 z.2.1 z.2.2.1 z.2.2.2) fun r s l x y => K st (s, l, x, y))
set_option maxRecDepth 100000 in
theorem pc_X9_readPedals {A : Type} {OK : A → Option Value → mj_M → Prop} {d j pc ix : Nat} {Y : mj_Y} {lf : pj_Z → mj_M} (hT : pj_Lt pj_TC lf) (hd : 3 ≤ d) (hl : mj_lk Y.2.2.2.2 pc = some (.invokevirtual ix, 3)) (hg : mj_pG ic_P j ix = some (9003, 1, some 9)) {lv : List (Nat × Value)} {st : List pj_V} {z : pj_Z} {K : List pj_V → pj_Z → Option A} {a : A} (hK : ∀ st z, K st z = some a → pj_Gd ic_P (mj_R ic_P d) j Y OK lf (pc + 3) lv (pj_es st) z a) (h : ph_X9_readPedals st z K = some a) : pj_Gd ic_P (mj_R ic_P d) j Y OK lf pc lv (pj_es st) z a := by
  obtain ⟨r1, e1, h⟩ := pj_pr_inv h
  obtain ⟨r0, e0, h⟩ := pj_pr_inv h
  obtain ⟨hs, h⟩ := pj_ps_inv h
  obtain ⟨q, hq, h⟩ := pj_b_inv h
  exact pm_cv (o := 82) hl hg [.ref 20] rfl (by rw [e1, e0]; rfl) hs (by decide) ((hT.2 82 _ rfl).1.2 z 0 (by decide)) (pm_rU q.1) hd (pm_X9_readPedals hT  z.1 z.2.1 z.2.2.1 z.2.2.2 q hq) rfl (hK _ _ h)
abbrev pe_X9_readPlates_53 (f : Int32 → Int32 → Int32 → Int32 → pj_F (Int32 × pj_Z)) : pj_K (Int32 × pj_Z) := fun lv st z => pj_xr lv 0 82 0 <| pj_xi lv 2 fun a2 => pj_xi lv 3 fun a3 => pj_xi lv 4 fun a4 => pj_xi lv 5 fun a5 => pj_pe st (f a2 a3 a4 a5 z.1 z.2.1 z.2.2.1 z.2.2.2)
abbrev pe_X9_readPlates_82 (f : Int32 → Int32 → Int32 → pj_F (Int32 × pj_Z)) : pj_K (Int32 × pj_Z) := fun lv st z => pj_xr lv 0 82 0 <| pj_xi lv 2 fun a2 => pj_xi lv 3 fun a3 => pj_pi st fun b1 st => pj_pr st 82 0 fun st => pj_pe st (f a2 a3 b1 z.1 z.2.1 z.2.2.1 z.2.2.2)
abbrev pe_X9_readPlates_102 (f : pj_F (Int32 × pj_Z)) : pj_K (Int32 × pj_Z) := fun lv st z => pj_pe st (f  z.1 z.2.1 z.2.2.1 z.2.2.2)
abbrev px_X9_readPlates : pj_C (Int32 × pj_Z) := ((pj_as [(20, 7, 11, 1, 0, true, 0, [(2, 21), (2, 35), (2, 49), (2, 50), (2, 51), (2, 52), (2, 53), (2, 54), (2, 55), (2, 56), (2, 57)]), (55, 100, 10, 1, 0, true, 34000, []), (57, 102, 10, 1, 0, true, 36000, []), (82, 9, 18, 1, 0, true, 0, [(0, 71), (0, 72), (1, 12), (0, 73), (0, 74), (0, 75), (0, 76), (0, 77), (0, 78), (0, 79), (0, 80), (1, 13), (0, 81), (0, 82), (0, 83), (0, 84), (0, 85), (0, 86)])]), (pj_as [(15, 9, 1, 0, false), (18, 9, 2, 0, false), (24, 9, 4, 0, false), (73, 7, 10, 2, true), (79, 7, 8, 2, true)]), (fun _ => none), (fun _ => none), (fun _ => none), ic_X, 6, 2, pj_mI, (pj_as [(47, ph_X9_countApart)]), fun _ => false)
abbrev pk_X9_readPlates : List (Nat × List (Nat × Instr × Nat)) := [(0, [(0, .aload_n 1, 1), (1, .getfield 73, 3), (4, .iconst 2, 1), (5, .baload, 1), (6, .istore_n 2, 1), (7, .aload_n 1, 1), (8, .getfield 73, 3), (11, .iconst 3, 1), (12, .baload, 1), (13, .istore_n 3, 1), (14, .aload_n 1, 1), (15, .getfield 79, 3), (18, .iconst 2, 1), (19, .iaload, 1), (20, .istore 4, 2), (22, .aload_n 1, 1), (23, .getfield 79, 3), (26, .iconst 3, 1), (27, .iaload, 1), (28, .istore 5, 2), (30, .iload_n 2, 1), (31, .ifCond .ne 22, 3)]), (34, [(34, .iload_n 3, 1), (35, .ifCond .ne 18, 3)]), (38, [(38, .aload_n 0, 1), (39, .aload_n 0, 1), (40, .getfield 24, 3), (43, .iload 4, 2), (45, .iload 5, 2), (47, .invokestatic 83, 3), (50, .putfield 24, 3)]), (53, [(53, .aload_n 0, 1), (54, .aload_n 0, 1), (55, .getfield 15, 3), (58, .putfield 18, 3), (61, .aload_n 0, 1), (62, .iload_n 2, 1), (63, .ifCond .ne 8, 3)]), (66, [(66, .iload 4, 2), (68, .goto 14, 3)]), (71, [(71, .iload_n 3, 1), (72, .ifCond .ne 8, 3)]), (75, [(75, .iload 5, 2), (77, .goto 5, 3)]), (80, [(80, .bipush 60, 2)]), (82, [(82, .putfield 15, 3), (85, .aload_n 0, 1), (86, .getfield 24, 3), (89, .bipush 10, 2), (91, .if_icmp .ge 11, 3)]), (94, [(94, .iload_n 2, 1), (95, .ifCond .eq 11, 3)]), (98, [(98, .iload_n 3, 1), (99, .ifCond .eq 7, 3)]), (102, [(102, .iconst 1, 1), (103, .goto 4, 3)]), (106, [(106, .iconst 0, 1)]), (107, [(107, .ireturn, 1)])]
set_option maxRecDepth 100000 in
theorem pq_X9_readPlates_102   (s : Nat → Int32) (l : Nat → Int64) (x : Nat → Int32) (y : Nat → Int64) : pl_X9_readPlates_102 s l x y = pj_bl px_X9_readPlates (pj_rn px_X9_readPlates (pj_as pk_X9_readPlates) (fun _ => none) 60) [(102, .iconst 1, 1), (103, .goto 4, 3)] 102 [] [] (s, l, x, y) := rfl
set_option maxRecDepth 100000 in
theorem pq_X9_readPlates_82  (a2 : Int32) (a3 : Int32) (b1 : Int32) (s : Nat → Int32) (l : Nat → Int64) (x : Nat → Int32) (y : Nat → Int64) : pl_X9_readPlates_82 a2 a3 b1 s l x y = pj_bl px_X9_readPlates (pj_rn px_X9_readPlates (pj_as pk_X9_readPlates) (pj_as [(102, pe_X9_readPlates_102 (pl_X9_readPlates_102))]) 60) [(82, .putfield 15, 3), (85, .aload_n 0, 1), (86, .getfield 24, 3), (89, .bipush 10, 2), (91, .if_icmp .ge 11, 3)] 82 [(0, pj_O (82, 0)), (2, pj_I a2), (3, pj_I a3)] [pj_I b1, pj_O (82, 0)] (s, l, x, y) := rfl
set_option maxRecDepth 100000 in
theorem pq_X9_readPlates_53  (a2 : Int32) (a3 : Int32) (a4 : Int32) (a5 : Int32) (s : Nat → Int32) (l : Nat → Int64) (x : Nat → Int32) (y : Nat → Int64) : pl_X9_readPlates_53 a2 a3 a4 a5 s l x y = pj_bl px_X9_readPlates (pj_rn px_X9_readPlates (pj_as pk_X9_readPlates) (pj_as [(82, pe_X9_readPlates_82 (pl_X9_readPlates_82))]) 60) [(53, .aload_n 0, 1), (54, .aload_n 0, 1), (55, .getfield 15, 3), (58, .putfield 18, 3), (61, .aload_n 0, 1), (62, .iload_n 2, 1), (63, .ifCond .ne 8, 3)] 53 [(0, pj_O (82, 0)), (2, pj_I a2), (3, pj_I a3), (4, pj_I a4), (5, pj_I a5)] [] (s, l, x, y) := rfl
set_option maxRecDepth 100000 in
theorem pq_X9_readPlates_m   (s : Nat → Int32) (l : Nat → Int64) (x : Nat → Int32) (y : Nat → Int64) : pf_X9_readPlates  s l x y = pj_bl px_X9_readPlates (pj_rn px_X9_readPlates (pj_as pk_X9_readPlates) (pj_as [(53, pe_X9_readPlates_53 (pl_X9_readPlates_53))]) 60) [(0, .aload_n 1, 1), (1, .getfield 73, 3), (4, .iconst 2, 1), (5, .baload, 1), (6, .istore_n 2, 1), (7, .aload_n 1, 1), (8, .getfield 73, 3), (11, .iconst 3, 1), (12, .baload, 1), (13, .istore_n 3, 1), (14, .aload_n 1, 1), (15, .getfield 79, 3), (18, .iconst 2, 1), (19, .iaload, 1), (20, .istore 4, 2), (22, .aload_n 1, 1), (23, .getfield 79, 3), (26, .iconst 3, 1), (27, .iaload, 1), (28, .istore 5, 2), (30, .iload_n 2, 1), (31, .ifCond .ne 22, 3)] 0 [(0, pj_O (82, 0)), (1, pj_O (20, 0))] [] (s, l, x, y) := rfl
theorem pu_X9_readPlates_53 {lf : pj_Z → mj_M} {a : Int32 × pj_Z} (f : Int32 → Int32 → Int32 → Int32 → pj_F (Int32 × pj_Z)) (hf : ∀ (a2 : Int32) (a3 : Int32) (a4 : Int32) (a5 : Int32) (s : Nat → Int32) (l : Nat → Int64) (x : Nat → Int32) (y : Nat → Int64), f a2 a3 a4 a5 s l x y = some a → pm_Gd 2 9004 ie_X9_readPlates.1 pm_rI lf 53 [(0, .ref 82), (2, .int a2), (3, .int a3), (4, .int a4), (5, .int a5)] [] (s, l, x, y) a) : pm_Ex 2 9004 ie_X9_readPlates.1 pm_rI lf a 53 (pe_X9_readPlates_53 f) := by
  intro lv st z hd h
  obtain ⟨g0, h⟩ := pj_xr_inv h
  obtain ⟨a2, g2, h⟩ := pj_xi_inv h
  obtain ⟨a3, g3, h⟩ := pj_xi_inv h
  obtain ⟨a4, g4, h⟩ := pj_xi_inv h
  obtain ⟨a5, g5, h⟩ := pj_xi_inv h
  obtain ⟨e9, h⟩ := pj_pe_inv h
  rw [e9]
  exact mj_wp_sub (mj_sub_cons g0 (mj_sub_cons g2 (mj_sub_cons g3 (mj_sub_cons g4 (mj_sub_cons g5 (mj_sub_nil hd)))))) (hf _ _ _ _ _ _ _ _ h)
theorem pu_X9_readPlates_82 {lf : pj_Z → mj_M} {a : Int32 × pj_Z} (f : Int32 → Int32 → Int32 → pj_F (Int32 × pj_Z)) (hf : ∀ (a2 : Int32) (a3 : Int32) (b1 : Int32) (s : Nat → Int32) (l : Nat → Int64) (x : Nat → Int32) (y : Nat → Int64), f a2 a3 b1 s l x y = some a → pm_Gd 2 9004 ie_X9_readPlates.1 pm_rI lf 82 [(0, .ref 82), (2, .int a2), (3, .int a3)] [.int b1, .ref 82] (s, l, x, y) a) : pm_Ex 2 9004 ie_X9_readPlates.1 pm_rI lf a 82 (pe_X9_readPlates_82 f) := by
  intro lv st z hd h
  obtain ⟨g0, h⟩ := pj_xr_inv h
  obtain ⟨a2, g2, h⟩ := pj_xi_inv h
  obtain ⟨a3, g3, h⟩ := pj_xi_inv h
  obtain ⟨b1, r1, e1, h⟩ := pj_pi_inv h
  obtain ⟨r0, e0, h⟩ := pj_pr_inv h
  obtain ⟨e9, h⟩ := pj_pe_inv h
  rw [e1, e0, e9]
  exact mj_wp_sub (mj_sub_cons g0 (mj_sub_cons g2 (mj_sub_cons g3 (mj_sub_nil hd)))) (hf _ _ _ _ _ _ _ h)
theorem pu_X9_readPlates_102 {lf : pj_Z → mj_M} {a : Int32 × pj_Z} (f : pj_F (Int32 × pj_Z)) (hf : ∀  (s : Nat → Int32) (l : Nat → Int64) (x : Nat → Int32) (y : Nat → Int64), f  s l x y = some a → pm_Gd 2 9004 ie_X9_readPlates.1 pm_rI lf 102 [] [] (s, l, x, y) a) : pm_Ex 2 9004 ie_X9_readPlates.1 pm_rI lf a 102 (pe_X9_readPlates_102 f) := by
  intro lv st z hd h
  obtain ⟨e9, h⟩ := pj_pe_inv h
  rw [e9]
  exact mj_wp_sub (mj_sub_nil hd) (hf  _ _ _ _ h)
set_option maxRecDepth 100000 in
theorem pz_X9_readPlates {lf : pj_Z → mj_M} (hT : pj_Lt pj_TC lf) : pj_Cok ic_P (mj_R ic_P 2) 9004 ie_X9_readPlates.1 (pm_OK lf pm_rI) lf px_X9_readPlates := by
  exact pm_cok (c := px_X9_readPlates) (pm_part hT (pj_as_all (p := fun b e => pj_TC b = some e) (List.forall_mem_cons.mpr ⟨rfl, (List.forall_mem_cons.mpr ⟨rfl, (List.forall_mem_cons.mpr ⟨rfl, (List.forall_mem_cons.mpr ⟨rfl, (fun _ h => by cases h)⟩)⟩)⟩)⟩))) (pm_in_ok (L := [(15, 9, 1, 0, false), (18, 9, 2, 0, false), (24, 9, 4, 0, false), (73, 7, 10, 2, true), (79, 7, 8, 2, true)]) (f := mj_pF ic_P 9004) (by decide +kernel)) (fun _ _ h => by cases h) (fun _ _ h => by cases h) (fun _ _ h => by cases h) rfl rfl ⟨by decide, rfl⟩ pm_mI (pj_as_all (p := pm_Cl 2 9004 ie_X9_readPlates.1 lf (pm_OK lf pm_rI)) (List.forall_mem_cons.mpr ⟨fun _ _ lv st z K a hK h => pc_X9_countApart hT (by decide) (ix := 83) rfl rfl hK h, (fun _ h => by cases h)⟩)) (fun _ h => by cases h)
set_option maxRecDepth 100000 in
theorem pb_X9_readPlates : pm_bks ie_X9_readPlates.1.2.2.2.2 pk_X9_readPlates = true := by decide +kernel
set_option maxRecDepth 100000 in
theorem pg_X9_readPlates_102 {lf : pj_Z → mj_M} (hT : pj_Lt pj_TC lf) : ∀  (s : Nat → Int32) (l : Nat → Int64) (x : Nat → Int32) (y : Nat → Int64) (a : Int32 × pj_Z), pl_X9_readPlates_102 s l x y = some a → pm_Gd 2 9004 ie_X9_readPlates.1 pm_rI lf 102 [] [] (s, l, x, y) a := by
  intro  s l x y a h
  exact pm_run ((pq_X9_readPlates_102   s l x y).symm.trans h) (pz_X9_readPlates hT) (pm_bks_ok pb_X9_readPlates) (pm_bks_ok pb_X9_readPlates _ _ rfl) (pm_ndb_ok rfl) (fun _ _ h => by cases h)
set_option maxRecDepth 100000 in
theorem pg_X9_readPlates_82 {lf : pj_Z → mj_M} (hT : pj_Lt pj_TC lf) : ∀ (a2 : Int32) (a3 : Int32) (b1 : Int32) (s : Nat → Int32) (l : Nat → Int64) (x : Nat → Int32) (y : Nat → Int64) (a : Int32 × pj_Z), pl_X9_readPlates_82 a2 a3 b1 s l x y = some a → pm_Gd 2 9004 ie_X9_readPlates.1 pm_rI lf 82 [(0, .ref 82), (2, .int a2), (3, .int a3)] [.int b1, .ref 82] (s, l, x, y) a := by
  intro a2 a3 b1 s l x y a h
  exact pm_run ((pq_X9_readPlates_82  a2 a3 b1 s l x y).symm.trans h) (pz_X9_readPlates hT) (pm_bks_ok pb_X9_readPlates) (pm_bks_ok pb_X9_readPlates _ _ rfl) (pm_ndb_ok rfl) (pj_as_all (p := pm_Ex 2 9004 ie_X9_readPlates.1 pm_rI lf a) (List.forall_mem_cons.mpr ⟨pu_X9_readPlates_102 _ (fun  s l x y h => pg_X9_readPlates_102 hT  s l x y _ h), (fun _ h => by cases h)⟩))
set_option maxRecDepth 100000 in
theorem pg_X9_readPlates_53 {lf : pj_Z → mj_M} (hT : pj_Lt pj_TC lf) : ∀ (a2 : Int32) (a3 : Int32) (a4 : Int32) (a5 : Int32) (s : Nat → Int32) (l : Nat → Int64) (x : Nat → Int32) (y : Nat → Int64) (a : Int32 × pj_Z), pl_X9_readPlates_53 a2 a3 a4 a5 s l x y = some a → pm_Gd 2 9004 ie_X9_readPlates.1 pm_rI lf 53 [(0, .ref 82), (2, .int a2), (3, .int a3), (4, .int a4), (5, .int a5)] [] (s, l, x, y) a := by
  intro a2 a3 a4 a5 s l x y a h
  exact pm_run ((pq_X9_readPlates_53  a2 a3 a4 a5 s l x y).symm.trans h) (pz_X9_readPlates hT) (pm_bks_ok pb_X9_readPlates) (pm_bks_ok pb_X9_readPlates _ _ rfl) (pm_ndb_ok rfl) (pj_as_all (p := pm_Ex 2 9004 ie_X9_readPlates.1 pm_rI lf a) (List.forall_mem_cons.mpr ⟨pu_X9_readPlates_82 _ (fun c0 c1 c2 s l x y h => pg_X9_readPlates_82 hT c0 c1 c2 s l x y _ h), (fun _ h => by cases h)⟩))
set_option maxRecDepth 100000 in
theorem pm_X9_readPlates {lf : pj_Z → mj_M} (hT : pj_Lt pj_TC lf)  (s : Nat → Int32) (l : Nat → Int64) (x : Nat → Int32) (y : Nat → Int64) (a : Int32 × pj_Z) (h : pf_X9_readPlates  s l x y = some a) : mj_R ic_P 3 9004 [.ref 82, .ref 20] (lf (s, l, x, y)) (pm_rI a.1) (lf a.2) := by
  refine pm_main (Y := ie_X9_readPlates.1) rfl (Nat.le_of_ble_eq_true rfl) ?_
  exact pm_run ((pq_X9_readPlates_m  s l x y).symm.trans h) (pz_X9_readPlates hT) (pm_bks_ok pb_X9_readPlates) (pm_bks_ok pb_X9_readPlates _ _ rfl) (pm_ndb_ok rfl) (pj_as_all (p := pm_Ex 2 9004 ie_X9_readPlates.1 pm_rI lf a) (List.forall_mem_cons.mpr ⟨pu_X9_readPlates_53 _ (fun c0 c1 c2 c3 s l x y h => pg_X9_readPlates_53 hT c0 c1 c2 c3 s l x y _ h), (fun _ h => by cases h)⟩))
abbrev ph_X9_readPlates {A : Type} : List pj_V → pj_Z → (List pj_V → pj_Z → Option A) → Option A := fun st z K => pj_pr st 20 0 fun st => pj_pr st 82 0 fun st => pj_ps st (pj_b (pf_X9_readPlates  z.1 z.2.1 z.2.2.1 z.2.2.2) fun r s l x y => K (pj_I r :: st) (s, l, x, y))
set_option maxRecDepth 100000 in
theorem pc_X9_readPlates {A : Type} {OK : A → Option Value → mj_M → Prop} {d j pc ix : Nat} {Y : mj_Y} {lf : pj_Z → mj_M} (hT : pj_Lt pj_TC lf) (hd : 3 ≤ d) (hl : mj_lk Y.2.2.2.2 pc = some (.invokevirtual ix, 3)) (hg : mj_pG ic_P j ix = some (9004, 1, some 9)) {lv : List (Nat × Value)} {st : List pj_V} {z : pj_Z} {K : List pj_V → pj_Z → Option A} {a : A} (hK : ∀ st z, K st z = some a → pj_Gd ic_P (mj_R ic_P d) j Y OK lf (pc + 3) lv (pj_es st) z a) (h : ph_X9_readPlates st z K = some a) : pj_Gd ic_P (mj_R ic_P d) j Y OK lf pc lv (pj_es st) z a := by
  obtain ⟨r1, e1, h⟩ := pj_pr_inv h
  obtain ⟨r0, e0, h⟩ := pj_pr_inv h
  obtain ⟨hs, h⟩ := pj_ps_inv h
  obtain ⟨q, hq, h⟩ := pj_b_inv h
  exact pm_cv (o := 82) hl hg [.ref 20] rfl (by rw [e1, e0]; rfl) hs (by decide) ((hT.2 82 _ rfl).1.2 z 0 (by decide)) (pm_rI q.1) hd (pm_X9_readPlates hT  z.1 z.2.1 z.2.2.1 z.2.2.2 q hq) rfl (hK _ _ h)
abbrev pe_X9_enrich_45 (f : pj_F (Unit × pj_Z)) : pj_K (Unit × pj_Z) := fun lv st z => pj_xr lv 0 82 0 <| pj_pe st (f  z.1 z.2.1 z.2.2.1 z.2.2.2)
abbrev pe_X9_enrich_69 (f : Int32 → Int32 → Int32 → pj_F (Unit × pj_Z)) : pj_K (Unit × pj_Z) := fun lv st z => pj_pi st fun b3 st => pj_pi st fun b2 st => pj_pi st fun b1 st => pj_pr st 82 0 fun st => pj_pe st (f b1 b2 b3 z.1 z.2.1 z.2.2.1 z.2.2.2)
abbrev px_X9_enrich : pj_C (Unit × pj_Z) := ((pj_as [(82, 9, 18, 1, 0, true, 0, [(0, 71), (0, 72), (1, 12), (0, 73), (0, 74), (0, 75), (0, 76), (0, 77), (0, 78), (0, 79), (0, 80), (1, 13), (0, 81), (0, 82), (0, 83), (0, 84), (0, 85), (0, 86)])]), (pj_as [(15, 9, 1, 0, false), (18, 9, 2, 0, false), (27, 9, 5, 0, false)]), (fun _ => none), (fun _ => none), (fun _ => none), ic_X, 5, 0, pj_mU, (pj_as [(33, ph_J9_min_7cf53), (36, ph_J9_max_7cf53)]), fun _ => false)
abbrev pk_X9_enrich : List (Nat × List (Nat × Instr × Nat)) := [(0, [(0, .aload_n 0, 1), (1, .getfield 15, 3), (4, .aload_n 0, 1), (5, .getfield 18, 3), (8, .isub, 1), (9, .istore 4, 2), (11, .iload_n 1, 1), (12, .ifCond .ne 33, 3)]), (15, [(15, .iload 4, 2), (17, .iload_n 2, 1), (18, .if_icmp .le 27, 3)]), (21, [(21, .aload_n 0, 1), (22, .aload_n 0, 1), (23, .getfield 27, 3), (26, .sipush 500, 3), (29, .iload 4, 2), (31, .iload_n 3, 1), (32, .imul, 1), (33, .invokestatic 67, 3), (36, .invokestatic 95, 3), (39, .putfield 27, 3), (42, .goto 32, 3)]), (45, [(45, .aload_n 0, 1), (46, .dup, 1), (47, .getfield 27, 3), (50, .aload_n 0, 1), (51, .getfield 27, 3), (54, .bipush 8, 2), (56, .idiv, 1), (57, .aload_n 0, 1), (58, .getfield 27, 3), (61, .ifCond .le 7, 3)]), (64, [(64, .iconst 1, 1), (65, .goto 4, 3)]), (68, [(68, .iconst 0, 1)]), (69, [(69, .iadd, 1), (70, .isub, 1), (71, .putfield 27, 3)]), (74, [(74, .return_, 1)])]
set_option maxRecDepth 100000 in
theorem pq_X9_enrich_69  (b1 : Int32) (b2 : Int32) (b3 : Int32) (s : Nat → Int32) (l : Nat → Int64) (x : Nat → Int32) (y : Nat → Int64) : pl_X9_enrich_69 b1 b2 b3 s l x y = pj_bl px_X9_enrich (pj_rn px_X9_enrich (pj_as pk_X9_enrich) (fun _ => none) 60) [(69, .iadd, 1), (70, .isub, 1), (71, .putfield 27, 3)] 69 [] [pj_I b3, pj_I b2, pj_I b1, pj_O (82, 0)] (s, l, x, y) := rfl
set_option maxRecDepth 100000 in
theorem pq_X9_enrich_45   (s : Nat → Int32) (l : Nat → Int64) (x : Nat → Int32) (y : Nat → Int64) : pl_X9_enrich_45 s l x y = pj_bl px_X9_enrich (pj_rn px_X9_enrich (pj_as pk_X9_enrich) (pj_as [(69, pe_X9_enrich_69 (pl_X9_enrich_69))]) 60) [(45, .aload_n 0, 1), (46, .dup, 1), (47, .getfield 27, 3), (50, .aload_n 0, 1), (51, .getfield 27, 3), (54, .bipush 8, 2), (56, .idiv, 1), (57, .aload_n 0, 1), (58, .getfield 27, 3), (61, .ifCond .le 7, 3)] 45 [(0, pj_O (82, 0))] [] (s, l, x, y) := rfl
set_option maxRecDepth 100000 in
theorem pq_X9_enrich_m  (a1 : Int32) (a2 : Int32) (a3 : Int32) (s : Nat → Int32) (l : Nat → Int64) (x : Nat → Int32) (y : Nat → Int64) : pf_X9_enrich a1 a2 a3 s l x y = pj_bl px_X9_enrich (pj_rn px_X9_enrich (pj_as pk_X9_enrich) (pj_as [(45, pe_X9_enrich_45 (pl_X9_enrich_45))]) 60) [(0, .aload_n 0, 1), (1, .getfield 15, 3), (4, .aload_n 0, 1), (5, .getfield 18, 3), (8, .isub, 1), (9, .istore 4, 2), (11, .iload_n 1, 1), (12, .ifCond .ne 33, 3)] 0 [(0, pj_O (82, 0)), (1, pj_I a1), (2, pj_I a2), (3, pj_I a3)] [] (s, l, x, y) := rfl
theorem pu_X9_enrich_45 {lf : pj_Z → mj_M} {a : Unit × pj_Z} (f : pj_F (Unit × pj_Z)) (hf : ∀  (s : Nat → Int32) (l : Nat → Int64) (x : Nat → Int32) (y : Nat → Int64), f  s l x y = some a → pm_Gd 1 9006 ie_X9_enrich.1 pm_rU lf 45 [(0, .ref 82)] [] (s, l, x, y) a) : pm_Ex 1 9006 ie_X9_enrich.1 pm_rU lf a 45 (pe_X9_enrich_45 f) := by
  intro lv st z hd h
  obtain ⟨g0, h⟩ := pj_xr_inv h
  obtain ⟨e9, h⟩ := pj_pe_inv h
  rw [e9]
  exact mj_wp_sub (mj_sub_cons g0 (mj_sub_nil hd)) (hf  _ _ _ _ h)
theorem pu_X9_enrich_69 {lf : pj_Z → mj_M} {a : Unit × pj_Z} (f : Int32 → Int32 → Int32 → pj_F (Unit × pj_Z)) (hf : ∀ (b1 : Int32) (b2 : Int32) (b3 : Int32) (s : Nat → Int32) (l : Nat → Int64) (x : Nat → Int32) (y : Nat → Int64), f b1 b2 b3 s l x y = some a → pm_Gd 1 9006 ie_X9_enrich.1 pm_rU lf 69 [] [.int b3, .int b2, .int b1, .ref 82] (s, l, x, y) a) : pm_Ex 1 9006 ie_X9_enrich.1 pm_rU lf a 69 (pe_X9_enrich_69 f) := by
  intro lv st z hd h
  obtain ⟨b3, r3, e3, h⟩ := pj_pi_inv h
  obtain ⟨b2, r2, e2, h⟩ := pj_pi_inv h
  obtain ⟨b1, r1, e1, h⟩ := pj_pi_inv h
  obtain ⟨r0, e0, h⟩ := pj_pr_inv h
  obtain ⟨e9, h⟩ := pj_pe_inv h
  rw [e3, e2, e1, e0, e9]
  exact mj_wp_sub (mj_sub_nil hd) (hf _ _ _ _ _ _ _ h)
set_option maxRecDepth 100000 in
theorem pz_X9_enrich {lf : pj_Z → mj_M} (hT : pj_Lt pj_TC lf) : pj_Cok ic_P (mj_R ic_P 1) 9006 ie_X9_enrich.1 (pm_OK lf pm_rU) lf px_X9_enrich := by
  exact pm_cok (c := px_X9_enrich) (pm_part hT (pj_as_all (p := fun b e => pj_TC b = some e) (List.forall_mem_cons.mpr ⟨rfl, (fun _ h => by cases h)⟩))) (pm_in_ok (L := [(15, 9, 1, 0, false), (18, 9, 2, 0, false), (27, 9, 5, 0, false)]) (f := mj_pF ic_P 9006) (by decide +kernel)) (fun _ _ h => by cases h) (fun _ _ h => by cases h) (fun _ _ h => by cases h) rfl rfl ⟨by decide, rfl⟩ pm_mU (pj_as_all (p := pm_Cl 1 9006 ie_X9_enrich.1 lf (pm_OK lf pm_rU)) (List.forall_mem_cons.mpr ⟨fun _ _ lv st z K a hK h => pc_J9_min_7cf53 (pm_none hT) (by decide) (ix := 67) rfl rfl hK h, (List.forall_mem_cons.mpr ⟨fun _ _ lv st z K a hK h => pc_J9_max_7cf53 (pm_none hT) (by decide) (ix := 95) rfl rfl hK h, (fun _ h => by cases h)⟩)⟩)) (fun _ h => by cases h)
set_option maxRecDepth 100000 in
theorem pb_X9_enrich : pm_bks ie_X9_enrich.1.2.2.2.2 pk_X9_enrich = true := by decide +kernel
set_option maxRecDepth 100000 in
theorem pg_X9_enrich_69 {lf : pj_Z → mj_M} (hT : pj_Lt pj_TC lf) : ∀ (b1 : Int32) (b2 : Int32) (b3 : Int32) (s : Nat → Int32) (l : Nat → Int64) (x : Nat → Int32) (y : Nat → Int64) (a : Unit × pj_Z), pl_X9_enrich_69 b1 b2 b3 s l x y = some a → pm_Gd 1 9006 ie_X9_enrich.1 pm_rU lf 69 [] [.int b3, .int b2, .int b1, .ref 82] (s, l, x, y) a := by
  intro b1 b2 b3 s l x y a h
  exact pm_run ((pq_X9_enrich_69  b1 b2 b3 s l x y).symm.trans h) (pz_X9_enrich hT) (pm_bks_ok pb_X9_enrich) (pm_bks_ok pb_X9_enrich _ _ rfl) (pm_ndb_ok rfl) (fun _ _ h => by cases h)
set_option maxRecDepth 100000 in
theorem pg_X9_enrich_45 {lf : pj_Z → mj_M} (hT : pj_Lt pj_TC lf) : ∀  (s : Nat → Int32) (l : Nat → Int64) (x : Nat → Int32) (y : Nat → Int64) (a : Unit × pj_Z), pl_X9_enrich_45 s l x y = some a → pm_Gd 1 9006 ie_X9_enrich.1 pm_rU lf 45 [(0, .ref 82)] [] (s, l, x, y) a := by
  intro  s l x y a h
  exact pm_run ((pq_X9_enrich_45   s l x y).symm.trans h) (pz_X9_enrich hT) (pm_bks_ok pb_X9_enrich) (pm_bks_ok pb_X9_enrich _ _ rfl) (pm_ndb_ok rfl) (pj_as_all (p := pm_Ex 1 9006 ie_X9_enrich.1 pm_rU lf a) (List.forall_mem_cons.mpr ⟨pu_X9_enrich_69 _ (fun c0 c1 c2 s l x y h => pg_X9_enrich_69 hT c0 c1 c2 s l x y _ h), (fun _ h => by cases h)⟩))
set_option maxRecDepth 100000 in
theorem pm_X9_enrich {lf : pj_Z → mj_M} (hT : pj_Lt pj_TC lf) (a1 : Int32) (a2 : Int32) (a3 : Int32) (s : Nat → Int32) (l : Nat → Int64) (x : Nat → Int32) (y : Nat → Int64) (a : Unit × pj_Z) (h : pf_X9_enrich a1 a2 a3 s l x y = some a) : mj_R ic_P 2 9006 [.ref 82, .int a1, .int a2, .int a3] (lf (s, l, x, y)) (pm_rU a.1) (lf a.2) := by
  refine pm_main (Y := ie_X9_enrich.1) rfl (Nat.le_of_ble_eq_true rfl) ?_
  exact pm_run ((pq_X9_enrich_m a1 a2 a3 s l x y).symm.trans h) (pz_X9_enrich hT) (pm_bks_ok pb_X9_enrich) (pm_bks_ok pb_X9_enrich _ _ rfl) (pm_ndb_ok rfl) (pj_as_all (p := pm_Ex 1 9006 ie_X9_enrich.1 pm_rU lf a) (List.forall_mem_cons.mpr ⟨pu_X9_enrich_45 _ (fun  s l x y h => pg_X9_enrich_45 hT  s l x y _ h), (fun _ h => by cases h)⟩))
abbrev ph_X9_enrich {A : Type} : List pj_V → pj_Z → (List pj_V → pj_Z → Option A) → Option A := fun st z K => pj_pi st fun a3 st => pj_pi st fun a2 st => pj_pi st fun a1 st => pj_pr st 82 0 fun st => pj_ps st (pj_b (pf_X9_enrich a1 a2 a3 z.1 z.2.1 z.2.2.1 z.2.2.2) fun r s l x y => K st (s, l, x, y))
set_option maxRecDepth 100000 in
theorem pc_X9_enrich {A : Type} {OK : A → Option Value → mj_M → Prop} {d j pc ix : Nat} {Y : mj_Y} {lf : pj_Z → mj_M} (hT : pj_Lt pj_TC lf) (hd : 2 ≤ d) (hl : mj_lk Y.2.2.2.2 pc = some (.invokevirtual ix, 3)) (hg : mj_pG ic_P j ix = some (9006, 3, some 9)) {lv : List (Nat × Value)} {st : List pj_V} {z : pj_Z} {K : List pj_V → pj_Z → Option A} {a : A} (hK : ∀ st z, K st z = some a → pj_Gd ic_P (mj_R ic_P d) j Y OK lf (pc + 3) lv (pj_es st) z a) (h : ph_X9_enrich st z K = some a) : pj_Gd ic_P (mj_R ic_P d) j Y OK lf pc lv (pj_es st) z a := by
  obtain ⟨a3, r3, e3, h⟩ := pj_pi_inv h
  obtain ⟨a2, r2, e2, h⟩ := pj_pi_inv h
  obtain ⟨a1, r1, e1, h⟩ := pj_pi_inv h
  obtain ⟨r0, e0, h⟩ := pj_pr_inv h
  obtain ⟨hs, h⟩ := pj_ps_inv h
  obtain ⟨q, hq, h⟩ := pj_b_inv h
  exact pm_cv (o := 82) hl hg [.int a1, .int a2, .int a3] rfl (by rw [e3, e2, e1, e0]; rfl) hs (by decide) ((hT.2 82 _ rfl).1.2 z 0 (by decide)) (pm_rU q.1) hd (pm_X9_enrich hT a1 a2 a3 z.1 z.2.1 z.2.2.1 z.2.2.2 q hq) rfl (hK _ _ h)
abbrev px_J9_floorDiv_7cf53 : pj_C (Int32 × pj_Z) := ((fun _ => none), (fun _ => none), (fun _ => none), (fun _ => none), (fun _ => none), ic_X, 3, 1, pj_mI, (fun _ => none), fun _ => false)
abbrev pk_J9_floorDiv_7cf53 : List (Nat × List (Nat × Instr × Nat)) := [(0, [(0, .iload_n 0, 1), (1, .iload_n 1, 1), (2, .idiv, 1), (3, .istore_n 2, 1), (4, .iload_n 0, 1), (5, .iload_n 1, 1), (6, .ixor, 1), (7, .ifCond .ge 14, 3)]), (10, [(10, .iload_n 2, 1), (11, .iload_n 1, 1), (12, .imul, 1), (13, .iload_n 0, 1), (14, .if_icmp .eq 7, 3)]), (17, [(17, .iload_n 2, 1), (18, .iconst 1, 1), (19, .isub, 1), (20, .ireturn, 1)]), (21, [(21, .iload_n 2, 1), (22, .ireturn, 1)])]
set_option maxRecDepth 100000 in
theorem pq_J9_floorDiv_7cf53_m  (a0 : Int32) (a1 : Int32) (s : Nat → Int32) (l : Nat → Int64) (x : Nat → Int32) (y : Nat → Int64) : pf_J9_floorDiv_7cf53 a0 a1 s l x y = pj_bl px_J9_floorDiv_7cf53 (pj_rn px_J9_floorDiv_7cf53 (pj_as pk_J9_floorDiv_7cf53) (fun _ => none) 60) [(0, .iload_n 0, 1), (1, .iload_n 1, 1), (2, .idiv, 1), (3, .istore_n 2, 1), (4, .iload_n 0, 1), (5, .iload_n 1, 1), (6, .ixor, 1), (7, .ifCond .ge 14, 3)] 0 [(0, pj_I a0), (1, pj_I a1)] [] (s, l, x, y) := rfl
set_option maxRecDepth 100000 in
theorem pz_J9_floorDiv_7cf53 {lf : pj_Z → mj_M} (hT : pj_Lt (fun _ => none) lf) : pj_Cok ic_P (mj_R ic_P 0) 29000 ie_J9_floorDiv_7cf53.1 (pm_OK lf pm_rI) lf px_J9_floorDiv_7cf53 := by
  exact pm_cok (c := px_J9_floorDiv_7cf53) hT (fun _ _ h => by cases h) (fun _ _ h => by cases h) (fun _ _ h => by cases h) (fun _ _ h => by cases h) rfl rfl ⟨by decide, rfl⟩ pm_mI (fun _ _ h => by cases h) (fun _ h => by cases h)
set_option maxRecDepth 100000 in
theorem pb_J9_floorDiv_7cf53 : pm_bks ie_J9_floorDiv_7cf53.1.2.2.2.2 pk_J9_floorDiv_7cf53 = true := by decide +kernel
set_option maxRecDepth 100000 in
theorem pm_J9_floorDiv_7cf53 {lf : pj_Z → mj_M} (hT : pj_Lt (fun _ => none) lf) (a0 : Int32) (a1 : Int32) (s : Nat → Int32) (l : Nat → Int64) (x : Nat → Int32) (y : Nat → Int64) (a : Int32 × pj_Z) (h : pf_J9_floorDiv_7cf53 a0 a1 s l x y = some a) : mj_R ic_P 1 29000 [.int a0, .int a1] (lf (s, l, x, y)) (pm_rI a.1) (lf a.2) := by
  refine pm_main (Y := ie_J9_floorDiv_7cf53.1) rfl (Nat.le_of_ble_eq_true rfl) ?_
  exact pm_run ((pq_J9_floorDiv_7cf53_m a0 a1 s l x y).symm.trans h) (pz_J9_floorDiv_7cf53 hT) (pm_bks_ok pb_J9_floorDiv_7cf53) (pm_bks_ok pb_J9_floorDiv_7cf53 _ _ rfl) (pm_ndb_ok rfl) (fun _ _ h => by cases h)
abbrev ph_J9_floorDiv_7cf53 {A : Type} : List pj_V → pj_Z → (List pj_V → pj_Z → Option A) → Option A := fun st z K => pj_pi st fun a1 st => pj_pi st fun a0 st => pj_ps st (pj_b (pf_J9_floorDiv_7cf53 a0 a1 z.1 z.2.1 z.2.2.1 z.2.2.2) fun r s l x y => K (pj_I r :: st) (s, l, x, y))
set_option maxRecDepth 100000 in
theorem pc_J9_floorDiv_7cf53 {A : Type} {OK : A → Option Value → mj_M → Prop} {d j pc ix : Nat} {Y : mj_Y} {lf : pj_Z → mj_M} (hT : pj_Lt (fun _ => none) lf) (hd : 1 ≤ d) (hl : mj_lk Y.2.2.2.2 pc = some (.invokestatic ix, 3)) (hg : mj_pG ic_P j ix = some (29000, 2, none)) {lv : List (Nat × Value)} {st : List pj_V} {z : pj_Z} {K : List pj_V → pj_Z → Option A} {a : A} (hK : ∀ st z, K st z = some a → pj_Gd ic_P (mj_R ic_P d) j Y OK lf (pc + 3) lv (pj_es st) z a) (h : ph_J9_floorDiv_7cf53 st z K = some a) : pj_Gd ic_P (mj_R ic_P d) j Y OK lf pc lv (pj_es st) z a := by
  obtain ⟨a1, r1, e1, h⟩ := pj_pi_inv h
  obtain ⟨a0, r0, e0, h⟩ := pj_pi_inv h
  obtain ⟨hs, h⟩ := pj_ps_inv h
  obtain ⟨q, hq, h⟩ := pj_b_inv h
  exact pm_cs hl hg [.int a0, .int a1] rfl (by rw [e1, e0]; rfl) hs (pm_rI q.1) hd (pm_J9_floorDiv_7cf53 hT a0 a1 z.1 z.2.1 z.2.2.1 z.2.2.2 q hq) rfl (hK _ _ h)
abbrev pe_X11_idle_53 (f : pj_F (Unit × pj_Z)) : pj_K (Unit × pj_Z) := fun lv st z => pj_xr lv 0 0 0 <| pj_pe st (f  z.1 z.2.1 z.2.2.1 z.2.2.2)
abbrev pe_X11_idle_54 (f : Int32 → pj_F (Unit × pj_Z)) : pj_K (Unit × pj_Z) := fun lv st z => pj_xr lv 0 0 0 <| pj_pi st fun b0 st => pj_pe st (f b0 z.1 z.2.1 z.2.2.1 z.2.2.2)
abbrev pe_X11_idle_140 (f : Int32 → pj_F (Unit × pj_Z)) : pj_K (Unit × pj_Z) := fun lv st z => pj_pi st fun b1 st => pj_pr st 82 0 fun st => pj_pe st (f b1 z.1 z.2.1 z.2.2.1 z.2.2.2)
abbrev px_X11_idle : pj_C (Unit × pj_Z) := ((pj_as [(0, 11, 17, 1, 0, true, 0, [(2, 1), (2, 20), (2, 58), (2, 68), (2, 82), (2, 83), (2, 85), (2, 96), (2, 102), (2, 106), (2, 122), (0, 93), (0, 94), (0, 95), (1, 1), (1, 2), (0, 96)]), (1, 4, 10, 1, 0, true, 0, [(2, 2), (2, 3), (2, 8), (2, 11), (2, 14), (2, 17), (2, 18), (2, 19), (0, 44), (1, 3)]), (2, 100, 24, 1, 0, true, 10000, []), (58, 2, 19, 1, 0, true, 0, [(0, 19), (0, 20), (1, 4), (1, 5), (1, 6), (1, 7), (0, 21), (0, 22), (0, 23), (0, 24), (0, 25), (2, 59), (2, 63), (0, 26), (1, 8), (1, 9), (1, 10), (0, 27), (0, 28)]), (82, 9, 18, 1, 0, true, 0, [(0, 71), (0, 72), (1, 12), (0, 73), (0, 74), (0, 75), (0, 76), (0, 77), (0, 78), (0, 79), (0, 80), (1, 13), (0, 81), (0, 82), (0, 83), (0, 84), (0, 85), (0, 86)]), (83, 3, 20, 1, 0, true, 0, [(0, 29), (0, 30), (1, 14), (1, 15), (0, 31), (0, 32), (0, 33), (0, 34), (0, 35), (0, 36), (0, 37), (0, 38), (0, 39), (0, 40), (1, 16), (1, 17), (0, 41), (0, 42), (0, 43), (2, 84)]), (106, 0, 19, 1, 0, true, 0, [(2, 107), (0, 1), (2, 108), (1, 24), (0, 2), (2, 111), (1, 25), (1, 26), (2, 114), (2, 115), (2, 116), (0, 3), (2, 117), (2, 118), (1, 27), (1, 28), (0, 4), (0, 5), (1, 29)]), (114, 100, 4, 1, 0, true, 2000, [])]), (pj_as [(10, 11, 0, 2, true), (26, 11, 2, 2, true), (40, 11, 4, 2, true), (47, 11, 5, 2, true), (75, 11, 9, 2, true), (90, 11, 12, 0, false), (127, 2, 0, 0, false), (287, 4, 0, 2, true), (538, 3, 0, 3, false), (628, 2, 3, 0, false), (693, 0, 8, 2, true), (737, 9, 0, 0, false), (740, 9, 6, 0, false)]), (fun _ => none), (fun _ => none), (fun _ => none), ic_X, 3, 0, pj_mU, (pj_as [(81, ph_X11_clip), (112, ph_J9_floorDiv_7cf53), (121, ph_X11_clip), (137, ph_J9_max_7cf53)]), fun _ => false)
abbrev pk_X11_idle : List (Nat × List (Nat × Instr × Nat)) := [(0, [(0, .aload_n 0, 1), (1, .getfield 90, 3), (4, .iconst 1, 1), (5, .if_icmp .ne 48, 3)]), (8, [(8, .aload_n 0, 1), (9, .getfield 40, 3), (12, .getfield 737, 3), (15, .aload_n 0, 1), (16, .getfield 10, 3), (19, .getfield 287, 3), (22, .bipush 23, 2), (24, .iaload, 1), (25, .if_icmp .gt 28, 3)]), (28, [(28, .aload_n 0, 1), (29, .getfield 26, 3), (32, .getfield 127, 3), (35, .iconst 2, 1), (36, .if_icmp .lt 17, 3)]), (39, [(39, .aload_n 0, 1), (40, .getfield 47, 3), (43, .getfield 538, 3), (46, .ifCond .ne 7, 3)]), (49, [(49, .iconst 1, 1), (50, .goto 4, 3)]), (53, [(53, .iconst 0, 1)]), (54, [(54, .istore_n 1, 1), (55, .aload_n 0, 1), (56, .getfield 10, 3), (59, .getfield 287, 3), (62, .bipush 9, 2), (64, .iaload, 1), (65, .aload_n 0, 1), (66, .getfield 75, 3), (69, .getfield 693, 3), (72, .iconst 0, 1), (73, .iaload, 1), (74, .i2l, 1), (75, .sipush (-200), 3), (78, .sipush 200, 3), (81, .invokestatic 644, 3), (84, .iadd, 1), (85, .istore_n 2, 1), (86, .aload_n 0, 1), (87, .getfield 40, 3), (90, .iload_n 1, 1), (91, .ifCond .eq 36, 3)]), (94, [(94, .aload_n 0, 1), (95, .getfield 40, 3), (98, .getfield 740, 3), (101, .iload_n 2, 1), (102, .aload_n 0, 1), (103, .getfield 26, 3), (106, .getfield 628, 3), (109, .isub, 1), (110, .bipush 32, 2), (112, .invokestatic 691, 3), (115, .iadd, 1), (116, .i2l, 1), (117, .iconst 0, 1), (118, .sipush 250, 3), (121, .invokestatic 644, 3), (124, .goto 16, 3)]), (127, [(127, .iconst 0, 1), (128, .aload_n 0, 1), (129, .getfield 40, 3), (132, .getfield 740, 3), (135, .iconst 1, 1), (136, .isub, 1), (137, .invokestatic 725, 3)]), (140, [(140, .putfield 740, 3), (143, .return_, 1)])]
set_option maxRecDepth 100000 in
theorem pq_X11_idle_140  (b1 : Int32) (s : Nat → Int32) (l : Nat → Int64) (x : Nat → Int32) (y : Nat → Int64) : pl_X11_idle_140 b1 s l x y = pj_bl px_X11_idle (pj_rn px_X11_idle (pj_as pk_X11_idle) (fun _ => none) 60) [(140, .putfield 740, 3), (143, .return_, 1)] 140 [] [pj_I b1, pj_O (82, 0)] (s, l, x, y) := rfl
set_option maxRecDepth 100000 in
theorem pq_X11_idle_54  (b0 : Int32) (s : Nat → Int32) (l : Nat → Int64) (x : Nat → Int32) (y : Nat → Int64) : pl_X11_idle_54 b0 s l x y = pj_bl px_X11_idle (pj_rn px_X11_idle (pj_as pk_X11_idle) (pj_as [(140, pe_X11_idle_140 (pl_X11_idle_140))]) 60) [(54, .istore_n 1, 1), (55, .aload_n 0, 1), (56, .getfield 10, 3), (59, .getfield 287, 3), (62, .bipush 9, 2), (64, .iaload, 1), (65, .aload_n 0, 1), (66, .getfield 75, 3), (69, .getfield 693, 3), (72, .iconst 0, 1), (73, .iaload, 1), (74, .i2l, 1), (75, .sipush (-200), 3), (78, .sipush 200, 3), (81, .invokestatic 644, 3), (84, .iadd, 1), (85, .istore_n 2, 1), (86, .aload_n 0, 1), (87, .getfield 40, 3), (90, .iload_n 1, 1), (91, .ifCond .eq 36, 3)] 54 [(0, pj_O (0, 0))] [pj_I b0] (s, l, x, y) := rfl
set_option maxRecDepth 100000 in
theorem pq_X11_idle_53   (s : Nat → Int32) (l : Nat → Int64) (x : Nat → Int32) (y : Nat → Int64) : pl_X11_idle_53 s l x y = pj_bl px_X11_idle (pj_rn px_X11_idle (pj_as pk_X11_idle) (pj_as [(54, pe_X11_idle_54 (pl_X11_idle_54))]) 60) [(53, .iconst 0, 1)] 53 [(0, pj_O (0, 0))] [] (s, l, x, y) := rfl
set_option maxRecDepth 100000 in
theorem pq_X11_idle_m   (s : Nat → Int32) (l : Nat → Int64) (x : Nat → Int32) (y : Nat → Int64) : pf_X11_idle  s l x y = pj_bl px_X11_idle (pj_rn px_X11_idle (pj_as pk_X11_idle) (pj_as [(53, pe_X11_idle_53 (pl_X11_idle_53)), (54, pe_X11_idle_54 (pl_X11_idle_54))]) 60) [(0, .aload_n 0, 1), (1, .getfield 90, 3), (4, .iconst 1, 1), (5, .if_icmp .ne 48, 3)] 0 [(0, pj_O (0, 0))] [] (s, l, x, y) := rfl
theorem pu_X11_idle_53 {lf : pj_Z → mj_M} {a : Unit × pj_Z} (f : pj_F (Unit × pj_Z)) (hf : ∀  (s : Nat → Int32) (l : Nat → Int64) (x : Nat → Int32) (y : Nat → Int64), f  s l x y = some a → pm_Gd 1 11069 ie_X11_idle.1 pm_rU lf 53 [(0, .ref 0)] [] (s, l, x, y) a) : pm_Ex 1 11069 ie_X11_idle.1 pm_rU lf a 53 (pe_X11_idle_53 f) := by
  intro lv st z hd h
  obtain ⟨g0, h⟩ := pj_xr_inv h
  obtain ⟨e9, h⟩ := pj_pe_inv h
  rw [e9]
  exact mj_wp_sub (mj_sub_cons g0 (mj_sub_nil hd)) (hf  _ _ _ _ h)
theorem pu_X11_idle_54 {lf : pj_Z → mj_M} {a : Unit × pj_Z} (f : Int32 → pj_F (Unit × pj_Z)) (hf : ∀ (b0 : Int32) (s : Nat → Int32) (l : Nat → Int64) (x : Nat → Int32) (y : Nat → Int64), f b0 s l x y = some a → pm_Gd 1 11069 ie_X11_idle.1 pm_rU lf 54 [(0, .ref 0)] [.int b0] (s, l, x, y) a) : pm_Ex 1 11069 ie_X11_idle.1 pm_rU lf a 54 (pe_X11_idle_54 f) := by
  intro lv st z hd h
  obtain ⟨g0, h⟩ := pj_xr_inv h
  obtain ⟨b0, r0, e0, h⟩ := pj_pi_inv h
  obtain ⟨e9, h⟩ := pj_pe_inv h
  rw [e0, e9]
  exact mj_wp_sub (mj_sub_cons g0 (mj_sub_nil hd)) (hf _ _ _ _ _ h)
theorem pu_X11_idle_140 {lf : pj_Z → mj_M} {a : Unit × pj_Z} (f : Int32 → pj_F (Unit × pj_Z)) (hf : ∀ (b1 : Int32) (s : Nat → Int32) (l : Nat → Int64) (x : Nat → Int32) (y : Nat → Int64), f b1 s l x y = some a → pm_Gd 1 11069 ie_X11_idle.1 pm_rU lf 140 [] [.int b1, .ref 82] (s, l, x, y) a) : pm_Ex 1 11069 ie_X11_idle.1 pm_rU lf a 140 (pe_X11_idle_140 f) := by
  intro lv st z hd h
  obtain ⟨b1, r1, e1, h⟩ := pj_pi_inv h
  obtain ⟨r0, e0, h⟩ := pj_pr_inv h
  obtain ⟨e9, h⟩ := pj_pe_inv h
  rw [e1, e0, e9]
  exact mj_wp_sub (mj_sub_nil hd) (hf _ _ _ _ _ h)
set_option maxRecDepth 100000 in
theorem pz_X11_idle {lf : pj_Z → mj_M} (hT : pj_Lt pj_TC lf) : pj_Cok ic_P (mj_R ic_P 1) 11069 ie_X11_idle.1 (pm_OK lf pm_rU) lf px_X11_idle := by
  exact pm_cok (c := px_X11_idle) (pm_part hT (pj_as_all (p := fun b e => pj_TC b = some e) (List.forall_mem_cons.mpr ⟨rfl, (List.forall_mem_cons.mpr ⟨rfl, (List.forall_mem_cons.mpr ⟨rfl, (List.forall_mem_cons.mpr ⟨rfl, (List.forall_mem_cons.mpr ⟨rfl, (List.forall_mem_cons.mpr ⟨rfl, (List.forall_mem_cons.mpr ⟨rfl, (List.forall_mem_cons.mpr ⟨rfl, (fun _ h => by cases h)⟩)⟩)⟩)⟩)⟩)⟩)⟩)⟩))) (pm_in_ok (L := [(10, 11, 0, 2, true), (26, 11, 2, 2, true), (40, 11, 4, 2, true), (47, 11, 5, 2, true), (75, 11, 9, 2, true), (90, 11, 12, 0, false), (127, 2, 0, 0, false), (287, 4, 0, 2, true), (538, 3, 0, 3, false), (628, 2, 3, 0, false), (693, 0, 8, 2, true), (737, 9, 0, 0, false), (740, 9, 6, 0, false)]) (f := mj_pF ic_P 11069) (by decide +kernel)) (fun _ _ h => by cases h) (fun _ _ h => by cases h) (fun _ _ h => by cases h) rfl rfl ⟨by decide, rfl⟩ pm_mU (pj_as_all (p := pm_Cl 1 11069 ie_X11_idle.1 lf (pm_OK lf pm_rU)) (List.forall_mem_cons.mpr ⟨fun _ _ lv st z K a hK h => pc_X11_clip hT (by decide) (ix := 644) rfl rfl hK h, (List.forall_mem_cons.mpr ⟨fun _ _ lv st z K a hK h => pc_J9_floorDiv_7cf53 (pm_none hT) (by decide) (ix := 691) rfl rfl hK h, (List.forall_mem_cons.mpr ⟨fun _ _ lv st z K a hK h => pc_X11_clip hT (by decide) (ix := 644) rfl rfl hK h, (List.forall_mem_cons.mpr ⟨fun _ _ lv st z K a hK h => pc_J9_max_7cf53 (pm_none hT) (by decide) (ix := 725) rfl rfl hK h, (fun _ h => by cases h)⟩)⟩)⟩)⟩)) (fun _ h => by cases h)
set_option maxRecDepth 100000 in
theorem pb_X11_idle : pm_bks ie_X11_idle.1.2.2.2.2 pk_X11_idle = true := by decide +kernel
set_option maxRecDepth 100000 in
theorem pg_X11_idle_140 {lf : pj_Z → mj_M} (hT : pj_Lt pj_TC lf) : ∀ (b1 : Int32) (s : Nat → Int32) (l : Nat → Int64) (x : Nat → Int32) (y : Nat → Int64) (a : Unit × pj_Z), pl_X11_idle_140 b1 s l x y = some a → pm_Gd 1 11069 ie_X11_idle.1 pm_rU lf 140 [] [.int b1, .ref 82] (s, l, x, y) a := by
  intro b1 s l x y a h
  exact pm_run ((pq_X11_idle_140  b1 s l x y).symm.trans h) (pz_X11_idle hT) (pm_bks_ok pb_X11_idle) (pm_bks_ok pb_X11_idle _ _ rfl) (pm_ndb_ok rfl) (fun _ _ h => by cases h)
set_option maxRecDepth 100000 in
theorem pg_X11_idle_54 {lf : pj_Z → mj_M} (hT : pj_Lt pj_TC lf) : ∀ (b0 : Int32) (s : Nat → Int32) (l : Nat → Int64) (x : Nat → Int32) (y : Nat → Int64) (a : Unit × pj_Z), pl_X11_idle_54 b0 s l x y = some a → pm_Gd 1 11069 ie_X11_idle.1 pm_rU lf 54 [(0, .ref 0)] [.int b0] (s, l, x, y) a := by
  intro b0 s l x y a h
  exact pm_run ((pq_X11_idle_54  b0 s l x y).symm.trans h) (pz_X11_idle hT) (pm_bks_ok pb_X11_idle) (pm_bks_ok pb_X11_idle _ _ rfl) (pm_ndb_ok rfl) (pj_as_all (p := pm_Ex 1 11069 ie_X11_idle.1 pm_rU lf a) (List.forall_mem_cons.mpr ⟨pu_X11_idle_140 _ (fun c0 s l x y h => pg_X11_idle_140 hT c0 s l x y _ h), (fun _ h => by cases h)⟩))
set_option maxRecDepth 100000 in
theorem pg_X11_idle_53 {lf : pj_Z → mj_M} (hT : pj_Lt pj_TC lf) : ∀  (s : Nat → Int32) (l : Nat → Int64) (x : Nat → Int32) (y : Nat → Int64) (a : Unit × pj_Z), pl_X11_idle_53 s l x y = some a → pm_Gd 1 11069 ie_X11_idle.1 pm_rU lf 53 [(0, .ref 0)] [] (s, l, x, y) a := by
  intro  s l x y a h
  exact pm_run ((pq_X11_idle_53   s l x y).symm.trans h) (pz_X11_idle hT) (pm_bks_ok pb_X11_idle) (pm_bks_ok pb_X11_idle _ _ rfl) (pm_ndb_ok rfl) (pj_as_all (p := pm_Ex 1 11069 ie_X11_idle.1 pm_rU lf a) (List.forall_mem_cons.mpr ⟨pu_X11_idle_54 _ (fun c0 s l x y h => pg_X11_idle_54 hT c0 s l x y _ h), (fun _ h => by cases h)⟩))
set_option maxRecDepth 100000 in
theorem pm_X11_idle {lf : pj_Z → mj_M} (hT : pj_Lt pj_TC lf)  (s : Nat → Int32) (l : Nat → Int64) (x : Nat → Int32) (y : Nat → Int64) (a : Unit × pj_Z) (h : pf_X11_idle  s l x y = some a) : mj_R ic_P 2 11069 [.ref 0] (lf (s, l, x, y)) (pm_rU a.1) (lf a.2) := by
  refine pm_main (Y := ie_X11_idle.1) rfl (Nat.le_of_ble_eq_true rfl) ?_
  exact pm_run ((pq_X11_idle_m  s l x y).symm.trans h) (pz_X11_idle hT) (pm_bks_ok pb_X11_idle) (pm_bks_ok pb_X11_idle _ _ rfl) (pm_ndb_ok rfl) (pj_as_all (p := pm_Ex 1 11069 ie_X11_idle.1 pm_rU lf a) (List.forall_mem_cons.mpr ⟨pu_X11_idle_53 _ (fun  s l x y h => pg_X11_idle_53 hT  s l x y _ h), (List.forall_mem_cons.mpr ⟨pu_X11_idle_54 _ (fun c0 s l x y h => pg_X11_idle_54 hT c0 s l x y _ h), (fun _ h => by cases h)⟩)⟩))
abbrev ph_X11_idle {A : Type} : List pj_V → pj_Z → (List pj_V → pj_Z → Option A) → Option A := fun st z K => pj_pr st 0 0 fun st => pj_ps st (pj_b (pf_X11_idle  z.1 z.2.1 z.2.2.1 z.2.2.2) fun r s l x y => K st (s, l, x, y))
set_option maxRecDepth 100000 in
theorem pc_X11_idle {A : Type} {OK : A → Option Value → mj_M → Prop} {d j pc ix : Nat} {Y : mj_Y} {lf : pj_Z → mj_M} (hT : pj_Lt pj_TC lf) (hd : 2 ≤ d) (hl : mj_lk Y.2.2.2.2 pc = some (.invokevirtual ix, 3)) (hg : mj_pG ic_P j ix = some (11069, 0, some 11)) {lv : List (Nat × Value)} {st : List pj_V} {z : pj_Z} {K : List pj_V → pj_Z → Option A} {a : A} (hK : ∀ st z, K st z = some a → pj_Gd ic_P (mj_R ic_P d) j Y OK lf (pc + 3) lv (pj_es st) z a) (h : ph_X11_idle st z K = some a) : pj_Gd ic_P (mj_R ic_P d) j Y OK lf pc lv (pj_es st) z a := by
  obtain ⟨r0, e0, h⟩ := pj_pr_inv h
  obtain ⟨hs, h⟩ := pj_ps_inv h
  obtain ⟨q, hq, h⟩ := pj_b_inv h
  exact pm_cv (o := 0) hl hg [] rfl (by rw [e0]; rfl) hs (by decide) ((hT.2 0 _ rfl).1.2 z 0 (by decide)) (pm_rU q.1) hd (pm_X11_idle hT  z.1 z.2.1 z.2.2.1 z.2.2.2 q hq) rfl (hK _ _ h)
abbrev pe_X11_isBraking_34 (f : pj_F (Int32 × pj_Z)) : pj_K (Int32 × pj_Z) := fun lv st z => pj_pe st (f  z.1 z.2.1 z.2.2.1 z.2.2.2)
abbrev px_X11_isBraking : pj_C (Int32 × pj_Z) := ((pj_as [(0, 11, 17, 1, 0, true, 0, [(2, 1), (2, 20), (2, 58), (2, 68), (2, 82), (2, 83), (2, 85), (2, 96), (2, 102), (2, 106), (2, 122), (0, 93), (0, 94), (0, 95), (1, 1), (1, 2), (0, 96)]), (82, 9, 18, 1, 0, true, 0, [(0, 71), (0, 72), (1, 12), (0, 73), (0, 74), (0, 75), (0, 76), (0, 77), (0, 78), (0, 79), (0, 80), (1, 13), (0, 81), (0, 82), (0, 83), (0, 84), (0, 85), (0, 86)]), (122, 5, 13, 1, 0, true, 0, [(0, 45), (0, 46), (0, 47), (0, 48), (0, 49), (0, 50), (0, 51), (0, 52), (0, 53), (0, 54), (0, 55), (2, 123), (0, 56)]), (123, 102, 2, 1, 0, true, 15000, [])]), (pj_as [(40, 11, 4, 2, true), (82, 11, 10, 2, true), (213, 5, 11, 2, true), (743, 9, 17, 3, false)]), (fun _ => none), (fun _ => none), (fun _ => none), ic_X, 1, 2, pj_mI, (fun _ => none), fun _ => false)
abbrev pk_X11_isBraking : List (Nat × List (Nat × Instr × Nat)) := [(0, [(0, .aload_n 0, 1), (1, .getfield 82, 3), (4, .getfield 213, 3), (7, .iconst 0, 1), (8, .baload, 1), (9, .ifCond .ne 25, 3)]), (12, [(12, .aload_n 0, 1), (13, .getfield 82, 3), (16, .getfield 213, 3), (19, .iconst 1, 1), (20, .baload, 1), (21, .ifCond .ne 13, 3)]), (24, [(24, .aload_n 0, 1), (25, .getfield 40, 3), (28, .getfield 743, 3), (31, .ifCond .eq 7, 3)]), (34, [(34, .iconst 1, 1), (35, .goto 4, 3)]), (38, [(38, .iconst 0, 1)]), (39, [(39, .ireturn, 1)])]
set_option maxRecDepth 100000 in
theorem pq_X11_isBraking_34   (s : Nat → Int32) (l : Nat → Int64) (x : Nat → Int32) (y : Nat → Int64) : pl_X11_isBraking_34 s l x y = pj_bl px_X11_isBraking (pj_rn px_X11_isBraking (pj_as pk_X11_isBraking) (fun _ => none) 60) [(34, .iconst 1, 1), (35, .goto 4, 3)] 34 [] [] (s, l, x, y) := rfl
set_option maxRecDepth 100000 in
theorem pq_X11_isBraking_m   (s : Nat → Int32) (l : Nat → Int64) (x : Nat → Int32) (y : Nat → Int64) : pf_X11_isBraking  s l x y = pj_bl px_X11_isBraking (pj_rn px_X11_isBraking (pj_as pk_X11_isBraking) (pj_as [(34, pe_X11_isBraking_34 (pl_X11_isBraking_34))]) 60) [(0, .aload_n 0, 1), (1, .getfield 82, 3), (4, .getfield 213, 3), (7, .iconst 0, 1), (8, .baload, 1), (9, .ifCond .ne 25, 3)] 0 [(0, pj_O (0, 0))] [] (s, l, x, y) := rfl
theorem pu_X11_isBraking_34 {lf : pj_Z → mj_M} {a : Int32 × pj_Z} (f : pj_F (Int32 × pj_Z)) (hf : ∀  (s : Nat → Int32) (l : Nat → Int64) (x : Nat → Int32) (y : Nat → Int64), f  s l x y = some a → pm_Gd 0 11070 ie_X11_isBraking.1 pm_rI lf 34 [] [] (s, l, x, y) a) : pm_Ex 0 11070 ie_X11_isBraking.1 pm_rI lf a 34 (pe_X11_isBraking_34 f) := by
  intro lv st z hd h
  obtain ⟨e9, h⟩ := pj_pe_inv h
  rw [e9]
  exact mj_wp_sub (mj_sub_nil hd) (hf  _ _ _ _ h)
set_option maxRecDepth 100000 in
theorem pz_X11_isBraking {lf : pj_Z → mj_M} (hT : pj_Lt pj_TC lf) : pj_Cok ic_P (mj_R ic_P 0) 11070 ie_X11_isBraking.1 (pm_OK lf pm_rI) lf px_X11_isBraking := by
  exact pm_cok (c := px_X11_isBraking) (pm_part hT (pj_as_all (p := fun b e => pj_TC b = some e) (List.forall_mem_cons.mpr ⟨rfl, (List.forall_mem_cons.mpr ⟨rfl, (List.forall_mem_cons.mpr ⟨rfl, (List.forall_mem_cons.mpr ⟨rfl, (fun _ h => by cases h)⟩)⟩)⟩)⟩))) (pm_in_ok (L := [(40, 11, 4, 2, true), (82, 11, 10, 2, true), (213, 5, 11, 2, true), (743, 9, 17, 3, false)]) (f := mj_pF ic_P 11070) (by decide +kernel)) (fun _ _ h => by cases h) (fun _ _ h => by cases h) (fun _ _ h => by cases h) rfl rfl ⟨by decide, rfl⟩ pm_mI (fun _ _ h => by cases h) (fun _ h => by cases h)
set_option maxRecDepth 100000 in
theorem pb_X11_isBraking : pm_bks ie_X11_isBraking.1.2.2.2.2 pk_X11_isBraking = true := by decide +kernel
set_option maxRecDepth 100000 in
theorem pg_X11_isBraking_34 {lf : pj_Z → mj_M} (hT : pj_Lt pj_TC lf) : ∀  (s : Nat → Int32) (l : Nat → Int64) (x : Nat → Int32) (y : Nat → Int64) (a : Int32 × pj_Z), pl_X11_isBraking_34 s l x y = some a → pm_Gd 0 11070 ie_X11_isBraking.1 pm_rI lf 34 [] [] (s, l, x, y) a := by
  intro  s l x y a h
  exact pm_run ((pq_X11_isBraking_34   s l x y).symm.trans h) (pz_X11_isBraking hT) (pm_bks_ok pb_X11_isBraking) (pm_bks_ok pb_X11_isBraking _ _ rfl) (pm_ndb_ok rfl) (fun _ _ h => by cases h)
set_option maxRecDepth 100000 in
theorem pm_X11_isBraking {lf : pj_Z → mj_M} (hT : pj_Lt pj_TC lf)  (s : Nat → Int32) (l : Nat → Int64) (x : Nat → Int32) (y : Nat → Int64) (a : Int32 × pj_Z) (h : pf_X11_isBraking  s l x y = some a) : mj_R ic_P 1 11070 [.ref 0] (lf (s, l, x, y)) (pm_rI a.1) (lf a.2) := by
  refine pm_main (Y := ie_X11_isBraking.1) rfl (Nat.le_of_ble_eq_true rfl) ?_
  exact pm_run ((pq_X11_isBraking_m  s l x y).symm.trans h) (pz_X11_isBraking hT) (pm_bks_ok pb_X11_isBraking) (pm_bks_ok pb_X11_isBraking _ _ rfl) (pm_ndb_ok rfl) (pj_as_all (p := pm_Ex 0 11070 ie_X11_isBraking.1 pm_rI lf a) (List.forall_mem_cons.mpr ⟨pu_X11_isBraking_34 _ (fun  s l x y h => pg_X11_isBraking_34 hT  s l x y _ h), (fun _ h => by cases h)⟩))
abbrev ph_X11_isBraking {A : Type} : List pj_V → pj_Z → (List pj_V → pj_Z → Option A) → Option A := fun st z K => pj_pr st 0 0 fun st => pj_ps st (pj_b (pf_X11_isBraking  z.1 z.2.1 z.2.2.1 z.2.2.2) fun r s l x y => K (pj_I r :: st) (s, l, x, y))
set_option maxRecDepth 100000 in
theorem pc_X11_isBraking {A : Type} {OK : A → Option Value → mj_M → Prop} {d j pc ix : Nat} {Y : mj_Y} {lf : pj_Z → mj_M} (hT : pj_Lt pj_TC lf) (hd : 1 ≤ d) (hl : mj_lk Y.2.2.2.2 pc = some (.invokevirtual ix, 3)) (hg : mj_pG ic_P j ix = some (11070, 0, some 11)) {lv : List (Nat × Value)} {st : List pj_V} {z : pj_Z} {K : List pj_V → pj_Z → Option A} {a : A} (hK : ∀ st z, K st z = some a → pj_Gd ic_P (mj_R ic_P d) j Y OK lf (pc + 3) lv (pj_es st) z a) (h : ph_X11_isBraking st z K = some a) : pj_Gd ic_P (mj_R ic_P d) j Y OK lf pc lv (pj_es st) z a := by
  obtain ⟨r0, e0, h⟩ := pj_pr_inv h
  obtain ⟨hs, h⟩ := pj_ps_inv h
  obtain ⟨q, hq, h⟩ := pj_b_inv h
  exact pm_cv (o := 0) hl hg [] rfl (by rw [e0]; rfl) hs (by decide) ((hT.2 0 _ rfl).1.2 z 0 (by decide)) (pm_rI q.1) hd (pm_X11_isBraking hT  z.1 z.2.1 z.2.2.1 z.2.2.2 q hq) rfl (hK _ _ h)
abbrev pe_X9_holdRoadSpeed_17 (f : Int32 → pj_F (Unit × pj_Z)) : pj_K (Unit × pj_Z) := fun lv st z => pj_xr lv 0 82 0 <| pj_xi lv 2 fun a2 => pj_pe st (f a2 z.1 z.2.1 z.2.2.1 z.2.2.2)
abbrev px_X9_holdRoadSpeed : pj_C (Unit × pj_Z) := ((pj_as [(82, 9, 18, 1, 0, true, 0, [(0, 71), (0, 72), (1, 12), (0, 73), (0, 74), (0, 75), (0, 76), (0, 77), (0, 78), (0, 79), (0, 80), (1, 13), (0, 81), (0, 82), (0, 83), (0, 84), (0, 85), (0, 86)])]), (pj_as [(49, 9, 12, 0, false), (52, 9, 13, 0, false), (55, 9, 14, 0, false), (58, 9, 15, 0, false)]), (fun _ => none), (fun _ => none), (fun _ => none), ic_X, 3, 0, pj_mU, (pj_as [(38, ph_J9_floorDiv_7cf53), (47, ph_X11_clip), (61, ph_J9_floorDiv_7cf53), (77, ph_X11_clip)]), fun _ => false)
abbrev pk_X9_holdRoadSpeed : List (Nat × List (Nat × Instr × Nat)) := [(0, [(0, .aload_n 0, 1), (1, .getfield 49, 3), (4, .iconst 2, 1), (5, .if_icmp .ne 12, 3)]), (8, [(8, .iload_n 1, 1), (9, .ifCond .ne 8, 3)]), (12, [(12, .aload_n 0, 1), (13, .iconst 1, 1), (14, .putfield 49, 3)]), (17, [(17, .aload_n 0, 1), (18, .getfield 49, 3), (21, .iconst 2, 1), (22, .if_icmp .ne 64, 3)]), (25, [(25, .aload_n 0, 1), (26, .aload_n 0, 1), (27, .getfield 55, 3), (30, .aload_n 0, 1), (31, .getfield 52, 3), (34, .iload_n 2, 1), (35, .isub, 1), (36, .bipush 8, 2), (38, .invokestatic 101, 3), (41, .iadd, 1), (42, .i2l, 1), (43, .iconst 0, 1), (44, .sipush 16000, 3), (47, .invokestatic 91, 3), (50, .putfield 55, 3), (53, .aload_n 0, 1), (54, .aload_n 0, 1), (55, .getfield 52, 3), (58, .iload_n 2, 1), (59, .isub, 1), (60, .iconst 4, 1), (61, .invokestatic 101, 3), (64, .aload_n 0, 1), (65, .getfield 55, 3), (68, .bipush 16, 2), (70, .idiv, 1), (71, .iadd, 1), (72, .i2l, 1), (73, .iconst 0, 1), (74, .sipush 800, 3), (77, .invokestatic 91, 3), (80, .putfield 58, 3), (83, .goto 13, 3)]), (86, [(86, .aload_n 0, 1), (87, .iconst 0, 1), (88, .putfield 55, 3), (91, .aload_n 0, 1), (92, .iconst 0, 1), (93, .putfield 58, 3)]), (96, [(96, .return_, 1)])]
set_option maxRecDepth 100000 in
theorem pq_X9_holdRoadSpeed_17  (a2 : Int32) (s : Nat → Int32) (l : Nat → Int64) (x : Nat → Int32) (y : Nat → Int64) : pl_X9_holdRoadSpeed_17 a2 s l x y = pj_bl px_X9_holdRoadSpeed (pj_rn px_X9_holdRoadSpeed (pj_as pk_X9_holdRoadSpeed) (fun _ => none) 60) [(17, .aload_n 0, 1), (18, .getfield 49, 3), (21, .iconst 2, 1), (22, .if_icmp .ne 64, 3)] 17 [(0, pj_O (82, 0)), (2, pj_I a2)] [] (s, l, x, y) := rfl
set_option maxRecDepth 100000 in
theorem pq_X9_holdRoadSpeed_m  (a1 : Int32) (a2 : Int32) (s : Nat → Int32) (l : Nat → Int64) (x : Nat → Int32) (y : Nat → Int64) : pf_X9_holdRoadSpeed a1 a2 s l x y = pj_bl px_X9_holdRoadSpeed (pj_rn px_X9_holdRoadSpeed (pj_as pk_X9_holdRoadSpeed) (pj_as [(17, pe_X9_holdRoadSpeed_17 (pl_X9_holdRoadSpeed_17))]) 60) [(0, .aload_n 0, 1), (1, .getfield 49, 3), (4, .iconst 2, 1), (5, .if_icmp .ne 12, 3)] 0 [(0, pj_O (82, 0)), (1, pj_I a1), (2, pj_I a2)] [] (s, l, x, y) := rfl
theorem pu_X9_holdRoadSpeed_17 {lf : pj_Z → mj_M} {a : Unit × pj_Z} (f : Int32 → pj_F (Unit × pj_Z)) (hf : ∀ (a2 : Int32) (s : Nat → Int32) (l : Nat → Int64) (x : Nat → Int32) (y : Nat → Int64), f a2 s l x y = some a → pm_Gd 1 9009 ie_X9_holdRoadSpeed.1 pm_rU lf 17 [(0, .ref 82), (2, .int a2)] [] (s, l, x, y) a) : pm_Ex 1 9009 ie_X9_holdRoadSpeed.1 pm_rU lf a 17 (pe_X9_holdRoadSpeed_17 f) := by
  intro lv st z hd h
  obtain ⟨g0, h⟩ := pj_xr_inv h
  obtain ⟨a2, g2, h⟩ := pj_xi_inv h
  obtain ⟨e9, h⟩ := pj_pe_inv h
  rw [e9]
  exact mj_wp_sub (mj_sub_cons g0 (mj_sub_cons g2 (mj_sub_nil hd))) (hf _ _ _ _ _ h)
set_option maxRecDepth 100000 in
theorem pz_X9_holdRoadSpeed {lf : pj_Z → mj_M} (hT : pj_Lt pj_TC lf) : pj_Cok ic_P (mj_R ic_P 1) 9009 ie_X9_holdRoadSpeed.1 (pm_OK lf pm_rU) lf px_X9_holdRoadSpeed := by
  exact pm_cok (c := px_X9_holdRoadSpeed) (pm_part hT (pj_as_all (p := fun b e => pj_TC b = some e) (List.forall_mem_cons.mpr ⟨rfl, (fun _ h => by cases h)⟩))) (pm_in_ok (L := [(49, 9, 12, 0, false), (52, 9, 13, 0, false), (55, 9, 14, 0, false), (58, 9, 15, 0, false)]) (f := mj_pF ic_P 9009) (by decide +kernel)) (fun _ _ h => by cases h) (fun _ _ h => by cases h) (fun _ _ h => by cases h) rfl rfl ⟨by decide, rfl⟩ pm_mU (pj_as_all (p := pm_Cl 1 9009 ie_X9_holdRoadSpeed.1 lf (pm_OK lf pm_rU)) (List.forall_mem_cons.mpr ⟨fun _ _ lv st z K a hK h => pc_J9_floorDiv_7cf53 (pm_none hT) (by decide) (ix := 101) rfl rfl hK h, (List.forall_mem_cons.mpr ⟨fun _ _ lv st z K a hK h => pc_X11_clip hT (by decide) (ix := 91) rfl rfl hK h, (List.forall_mem_cons.mpr ⟨fun _ _ lv st z K a hK h => pc_J9_floorDiv_7cf53 (pm_none hT) (by decide) (ix := 101) rfl rfl hK h, (List.forall_mem_cons.mpr ⟨fun _ _ lv st z K a hK h => pc_X11_clip hT (by decide) (ix := 91) rfl rfl hK h, (fun _ h => by cases h)⟩)⟩)⟩)⟩)) (fun _ h => by cases h)
set_option maxRecDepth 100000 in
theorem pb_X9_holdRoadSpeed : pm_bks ie_X9_holdRoadSpeed.1.2.2.2.2 pk_X9_holdRoadSpeed = true := by decide +kernel
set_option maxRecDepth 100000 in
theorem pg_X9_holdRoadSpeed_17 {lf : pj_Z → mj_M} (hT : pj_Lt pj_TC lf) : ∀ (a2 : Int32) (s : Nat → Int32) (l : Nat → Int64) (x : Nat → Int32) (y : Nat → Int64) (a : Unit × pj_Z), pl_X9_holdRoadSpeed_17 a2 s l x y = some a → pm_Gd 1 9009 ie_X9_holdRoadSpeed.1 pm_rU lf 17 [(0, .ref 82), (2, .int a2)] [] (s, l, x, y) a := by
  intro a2 s l x y a h
  exact pm_run ((pq_X9_holdRoadSpeed_17  a2 s l x y).symm.trans h) (pz_X9_holdRoadSpeed hT) (pm_bks_ok pb_X9_holdRoadSpeed) (pm_bks_ok pb_X9_holdRoadSpeed _ _ rfl) (pm_ndb_ok rfl) (fun _ _ h => by cases h)
set_option maxRecDepth 100000 in
theorem pm_X9_holdRoadSpeed {lf : pj_Z → mj_M} (hT : pj_Lt pj_TC lf) (a1 : Int32) (a2 : Int32) (s : Nat → Int32) (l : Nat → Int64) (x : Nat → Int32) (y : Nat → Int64) (a : Unit × pj_Z) (h : pf_X9_holdRoadSpeed a1 a2 s l x y = some a) : mj_R ic_P 2 9009 [.ref 82, .int a1, .int a2] (lf (s, l, x, y)) (pm_rU a.1) (lf a.2) := by
  refine pm_main (Y := ie_X9_holdRoadSpeed.1) rfl (Nat.le_of_ble_eq_true rfl) ?_
  exact pm_run ((pq_X9_holdRoadSpeed_m a1 a2 s l x y).symm.trans h) (pz_X9_holdRoadSpeed hT) (pm_bks_ok pb_X9_holdRoadSpeed) (pm_bks_ok pb_X9_holdRoadSpeed _ _ rfl) (pm_ndb_ok rfl) (pj_as_all (p := pm_Ex 1 9009 ie_X9_holdRoadSpeed.1 pm_rU lf a) (List.forall_mem_cons.mpr ⟨pu_X9_holdRoadSpeed_17 _ (fun c0 s l x y h => pg_X9_holdRoadSpeed_17 hT c0 s l x y _ h), (fun _ h => by cases h)⟩))
abbrev ph_X9_holdRoadSpeed {A : Type} : List pj_V → pj_Z → (List pj_V → pj_Z → Option A) → Option A := fun st z K => pj_pi st fun a2 st => pj_pi st fun a1 st => pj_pr st 82 0 fun st => pj_ps st (pj_b (pf_X9_holdRoadSpeed a1 a2 z.1 z.2.1 z.2.2.1 z.2.2.2) fun r s l x y => K st (s, l, x, y))
set_option maxRecDepth 100000 in
theorem pc_X9_holdRoadSpeed {A : Type} {OK : A → Option Value → mj_M → Prop} {d j pc ix : Nat} {Y : mj_Y} {lf : pj_Z → mj_M} (hT : pj_Lt pj_TC lf) (hd : 2 ≤ d) (hl : mj_lk Y.2.2.2.2 pc = some (.invokevirtual ix, 3)) (hg : mj_pG ic_P j ix = some (9009, 2, some 9)) {lv : List (Nat × Value)} {st : List pj_V} {z : pj_Z} {K : List pj_V → pj_Z → Option A} {a : A} (hK : ∀ st z, K st z = some a → pj_Gd ic_P (mj_R ic_P d) j Y OK lf (pc + 3) lv (pj_es st) z a) (h : ph_X9_holdRoadSpeed st z K = some a) : pj_Gd ic_P (mj_R ic_P d) j Y OK lf pc lv (pj_es st) z a := by
  obtain ⟨a2, r2, e2, h⟩ := pj_pi_inv h
  obtain ⟨a1, r1, e1, h⟩ := pj_pi_inv h
  obtain ⟨r0, e0, h⟩ := pj_pr_inv h
  obtain ⟨hs, h⟩ := pj_ps_inv h
  obtain ⟨q, hq, h⟩ := pj_b_inv h
  exact pm_cv (o := 82) hl hg [.int a1, .int a2] rfl (by rw [e2, e1, e0]; rfl) hs (by decide) ((hT.2 82 _ rfl).1.2 z 0 (by decide)) (pm_rU q.1) hd (pm_X9_holdRoadSpeed hT a1 a2 z.1 z.2.1 z.2.2.1 z.2.2.2 q hq) rfl (hK _ _ h)
abbrev pe_X11_cruise_36 (f : pj_F (Unit × pj_Z)) : pj_K (Unit × pj_Z) := fun lv st z => pj_xr lv 0 0 0 <| pj_pe st (f  z.1 z.2.1 z.2.2.1 z.2.2.2)
abbrev pe_X11_cruise_37 (f : Int32 → pj_F (Unit × pj_Z)) : pj_K (Unit × pj_Z) := fun lv st z => pj_xr lv 0 0 0 <| pj_pi st fun b0 st => pj_pe st (f b0 z.1 z.2.1 z.2.2.1 z.2.2.2)
abbrev pe_X11_cruise_77 (f : pj_F (Unit × pj_Z)) : pj_K (Unit × pj_Z) := fun lv st z => pj_xr lv 0 0 0 <| pj_pr st 82 0 fun st => pj_pe st (f  z.1 z.2.1 z.2.2.1 z.2.2.2)
abbrev pe_X11_cruise_78 (f : Int32 → pj_F (Unit × pj_Z)) : pj_K (Unit × pj_Z) := fun lv st z => pj_xr lv 0 0 0 <| pj_pi st fun b1 st => pj_pr st 82 0 fun st => pj_pe st (f b1 z.1 z.2.1 z.2.2.1 z.2.2.2)
abbrev px_X11_cruise : pj_C (Unit × pj_Z) := ((pj_as [(0, 11, 17, 1, 0, true, 0, [(2, 1), (2, 20), (2, 58), (2, 68), (2, 82), (2, 83), (2, 85), (2, 96), (2, 102), (2, 106), (2, 122), (0, 93), (0, 94), (0, 95), (1, 1), (1, 2), (0, 96)]), (83, 3, 20, 1, 0, true, 0, [(0, 29), (0, 30), (1, 14), (1, 15), (0, 31), (0, 32), (0, 33), (0, 34), (0, 35), (0, 36), (0, 37), (0, 38), (0, 39), (0, 40), (1, 16), (1, 17), (0, 41), (0, 42), (0, 43), (2, 84)]), (122, 5, 13, 1, 0, true, 0, [(0, 45), (0, 46), (0, 47), (0, 48), (0, 49), (0, 50), (0, 51), (0, 52), (0, 53), (0, 54), (0, 55), (2, 123), (0, 56)])]), (pj_as [(40, 11, 4, 2, true), (47, 11, 5, 2, true), (82, 11, 10, 2, true), (90, 11, 12, 0, false), (205, 5, 7, 0, false), (208, 5, 8, 0, false), (538, 3, 0, 3, false), (667, 3, 9, 3, false)]), (fun _ => none), (fun _ => none), (fun _ => none), ic_X, 2, 0, pj_mU, (pj_as [(47, ph_X11_isBraking), (85, ph_X9_holdRoadSpeed)]), fun _ => false)
abbrev pk_X11_cruise : List (Nat × List (Nat × Instr × Nat)) := [(0, [(0, .aload_n 0, 1), (1, .getfield 90, 3), (4, .iconst 1, 1), (5, .if_icmp .ne 31, 3)]), (8, [(8, .aload_n 0, 1), (9, .getfield 82, 3), (12, .getfield 205, 3), (15, .sipush 2500, 3), (18, .if_icmp .lt 18, 3)]), (21, [(21, .aload_n 0, 1), (22, .getfield 82, 3), (25, .getfield 208, 3), (28, .iconst 3, 1), (29, .if_icmp .lt 7, 3)]), (32, [(32, .iconst 1, 1), (33, .goto 4, 3)]), (36, [(36, .iconst 0, 1)]), (37, [(37, .istore_n 1, 1), (38, .aload_n 0, 1), (39, .getfield 40, 3), (42, .iload_n 1, 1), (43, .ifCond .eq 34, 3)]), (46, [(46, .aload_n 0, 1), (47, .invokevirtual 746, 3), (50, .ifCond .ne 27, 3)]), (53, [(53, .aload_n 0, 1), (54, .getfield 47, 3), (57, .getfield 538, 3), (60, .ifCond .ne 17, 3)]), (63, [(63, .aload_n 0, 1), (64, .getfield 47, 3), (67, .getfield 667, 3), (70, .ifCond .ne 7, 3)]), (73, [(73, .iconst 1, 1), (74, .goto 4, 3)]), (77, [(77, .iconst 0, 1)]), (78, [(78, .aload_n 0, 1), (79, .getfield 82, 3), (82, .getfield 205, 3), (85, .invokevirtual 749, 3), (88, .return_, 1)])]
set_option maxRecDepth 100000 in
theorem pq_X11_cruise_78  (b1 : Int32) (s : Nat → Int32) (l : Nat → Int64) (x : Nat → Int32) (y : Nat → Int64) : pl_X11_cruise_78 b1 s l x y = pj_bl px_X11_cruise (pj_rn px_X11_cruise (pj_as pk_X11_cruise) (fun _ => none) 60) [(78, .aload_n 0, 1), (79, .getfield 82, 3), (82, .getfield 205, 3), (85, .invokevirtual 749, 3), (88, .return_, 1)] 78 [(0, pj_O (0, 0))] [pj_I b1, pj_O (82, 0)] (s, l, x, y) := rfl
set_option maxRecDepth 100000 in
theorem pq_X11_cruise_77   (s : Nat → Int32) (l : Nat → Int64) (x : Nat → Int32) (y : Nat → Int64) : pl_X11_cruise_77 s l x y = pj_bl px_X11_cruise (pj_rn px_X11_cruise (pj_as pk_X11_cruise) (pj_as [(78, pe_X11_cruise_78 (pl_X11_cruise_78))]) 60) [(77, .iconst 0, 1)] 77 [(0, pj_O (0, 0))] [pj_O (82, 0)] (s, l, x, y) := rfl
set_option maxRecDepth 100000 in
theorem pq_X11_cruise_37  (b0 : Int32) (s : Nat → Int32) (l : Nat → Int64) (x : Nat → Int32) (y : Nat → Int64) : pl_X11_cruise_37 b0 s l x y = pj_bl px_X11_cruise (pj_rn px_X11_cruise (pj_as pk_X11_cruise) (pj_as [(77, pe_X11_cruise_77 (pl_X11_cruise_77)), (78, pe_X11_cruise_78 (pl_X11_cruise_78))]) 60) [(37, .istore_n 1, 1), (38, .aload_n 0, 1), (39, .getfield 40, 3), (42, .iload_n 1, 1), (43, .ifCond .eq 34, 3)] 37 [(0, pj_O (0, 0))] [pj_I b0] (s, l, x, y) := rfl
set_option maxRecDepth 100000 in
theorem pq_X11_cruise_36   (s : Nat → Int32) (l : Nat → Int64) (x : Nat → Int32) (y : Nat → Int64) : pl_X11_cruise_36 s l x y = pj_bl px_X11_cruise (pj_rn px_X11_cruise (pj_as pk_X11_cruise) (pj_as [(37, pe_X11_cruise_37 (pl_X11_cruise_37))]) 60) [(36, .iconst 0, 1)] 36 [(0, pj_O (0, 0))] [] (s, l, x, y) := rfl
set_option maxRecDepth 100000 in
theorem pq_X11_cruise_m   (s : Nat → Int32) (l : Nat → Int64) (x : Nat → Int32) (y : Nat → Int64) : pf_X11_cruise  s l x y = pj_bl px_X11_cruise (pj_rn px_X11_cruise (pj_as pk_X11_cruise) (pj_as [(36, pe_X11_cruise_36 (pl_X11_cruise_36)), (37, pe_X11_cruise_37 (pl_X11_cruise_37))]) 60) [(0, .aload_n 0, 1), (1, .getfield 90, 3), (4, .iconst 1, 1), (5, .if_icmp .ne 31, 3)] 0 [(0, pj_O (0, 0))] [] (s, l, x, y) := rfl
theorem pu_X11_cruise_36 {lf : pj_Z → mj_M} {a : Unit × pj_Z} (f : pj_F (Unit × pj_Z)) (hf : ∀  (s : Nat → Int32) (l : Nat → Int64) (x : Nat → Int32) (y : Nat → Int64), f  s l x y = some a → pm_Gd 2 11072 ie_X11_cruise.1 pm_rU lf 36 [(0, .ref 0)] [] (s, l, x, y) a) : pm_Ex 2 11072 ie_X11_cruise.1 pm_rU lf a 36 (pe_X11_cruise_36 f) := by
  intro lv st z hd h
  obtain ⟨g0, h⟩ := pj_xr_inv h
  obtain ⟨e9, h⟩ := pj_pe_inv h
  rw [e9]
  exact mj_wp_sub (mj_sub_cons g0 (mj_sub_nil hd)) (hf  _ _ _ _ h)
theorem pu_X11_cruise_37 {lf : pj_Z → mj_M} {a : Unit × pj_Z} (f : Int32 → pj_F (Unit × pj_Z)) (hf : ∀ (b0 : Int32) (s : Nat → Int32) (l : Nat → Int64) (x : Nat → Int32) (y : Nat → Int64), f b0 s l x y = some a → pm_Gd 2 11072 ie_X11_cruise.1 pm_rU lf 37 [(0, .ref 0)] [.int b0] (s, l, x, y) a) : pm_Ex 2 11072 ie_X11_cruise.1 pm_rU lf a 37 (pe_X11_cruise_37 f) := by
  intro lv st z hd h
  obtain ⟨g0, h⟩ := pj_xr_inv h
  obtain ⟨b0, r0, e0, h⟩ := pj_pi_inv h
  obtain ⟨e9, h⟩ := pj_pe_inv h
  rw [e0, e9]
  exact mj_wp_sub (mj_sub_cons g0 (mj_sub_nil hd)) (hf _ _ _ _ _ h)
theorem pu_X11_cruise_77 {lf : pj_Z → mj_M} {a : Unit × pj_Z} (f : pj_F (Unit × pj_Z)) (hf : ∀  (s : Nat → Int32) (l : Nat → Int64) (x : Nat → Int32) (y : Nat → Int64), f  s l x y = some a → pm_Gd 2 11072 ie_X11_cruise.1 pm_rU lf 77 [(0, .ref 0)] [.ref 82] (s, l, x, y) a) : pm_Ex 2 11072 ie_X11_cruise.1 pm_rU lf a 77 (pe_X11_cruise_77 f) := by
  intro lv st z hd h
  obtain ⟨g0, h⟩ := pj_xr_inv h
  obtain ⟨r0, e0, h⟩ := pj_pr_inv h
  obtain ⟨e9, h⟩ := pj_pe_inv h
  rw [e0, e9]
  exact mj_wp_sub (mj_sub_cons g0 (mj_sub_nil hd)) (hf  _ _ _ _ h)
theorem pu_X11_cruise_78 {lf : pj_Z → mj_M} {a : Unit × pj_Z} (f : Int32 → pj_F (Unit × pj_Z)) (hf : ∀ (b1 : Int32) (s : Nat → Int32) (l : Nat → Int64) (x : Nat → Int32) (y : Nat → Int64), f b1 s l x y = some a → pm_Gd 2 11072 ie_X11_cruise.1 pm_rU lf 78 [(0, .ref 0)] [.int b1, .ref 82] (s, l, x, y) a) : pm_Ex 2 11072 ie_X11_cruise.1 pm_rU lf a 78 (pe_X11_cruise_78 f) := by
  intro lv st z hd h
  obtain ⟨g0, h⟩ := pj_xr_inv h
  obtain ⟨b1, r1, e1, h⟩ := pj_pi_inv h
  obtain ⟨r0, e0, h⟩ := pj_pr_inv h
  obtain ⟨e9, h⟩ := pj_pe_inv h
  rw [e1, e0, e9]
  exact mj_wp_sub (mj_sub_cons g0 (mj_sub_nil hd)) (hf _ _ _ _ _ h)
set_option maxRecDepth 100000 in
theorem pz_X11_cruise {lf : pj_Z → mj_M} (hT : pj_Lt pj_TC lf) : pj_Cok ic_P (mj_R ic_P 2) 11072 ie_X11_cruise.1 (pm_OK lf pm_rU) lf px_X11_cruise := by
  exact pm_cok (c := px_X11_cruise) (pm_part hT (pj_as_all (p := fun b e => pj_TC b = some e) (List.forall_mem_cons.mpr ⟨rfl, (List.forall_mem_cons.mpr ⟨rfl, (List.forall_mem_cons.mpr ⟨rfl, (fun _ h => by cases h)⟩)⟩)⟩))) (pm_in_ok (L := [(40, 11, 4, 2, true), (47, 11, 5, 2, true), (82, 11, 10, 2, true), (90, 11, 12, 0, false), (205, 5, 7, 0, false), (208, 5, 8, 0, false), (538, 3, 0, 3, false), (667, 3, 9, 3, false)]) (f := mj_pF ic_P 11072) (by decide +kernel)) (fun _ _ h => by cases h) (fun _ _ h => by cases h) (fun _ _ h => by cases h) rfl rfl ⟨by decide, rfl⟩ pm_mU (pj_as_all (p := pm_Cl 2 11072 ie_X11_cruise.1 lf (pm_OK lf pm_rU)) (List.forall_mem_cons.mpr ⟨fun _ _ lv st z K a hK h => pc_X11_isBraking hT (by decide) (ix := 746) rfl rfl hK h, (List.forall_mem_cons.mpr ⟨fun _ _ lv st z K a hK h => pc_X9_holdRoadSpeed hT (by decide) (ix := 749) rfl rfl hK h, (fun _ h => by cases h)⟩)⟩)) (fun _ h => by cases h)
set_option maxRecDepth 100000 in
theorem pb_X11_cruise : pm_bks ie_X11_cruise.1.2.2.2.2 pk_X11_cruise = true := by decide +kernel
set_option maxRecDepth 100000 in
theorem pg_X11_cruise_78 {lf : pj_Z → mj_M} (hT : pj_Lt pj_TC lf) : ∀ (b1 : Int32) (s : Nat → Int32) (l : Nat → Int64) (x : Nat → Int32) (y : Nat → Int64) (a : Unit × pj_Z), pl_X11_cruise_78 b1 s l x y = some a → pm_Gd 2 11072 ie_X11_cruise.1 pm_rU lf 78 [(0, .ref 0)] [.int b1, .ref 82] (s, l, x, y) a := by
  intro b1 s l x y a h
  exact pm_run ((pq_X11_cruise_78  b1 s l x y).symm.trans h) (pz_X11_cruise hT) (pm_bks_ok pb_X11_cruise) (pm_bks_ok pb_X11_cruise _ _ rfl) (pm_ndb_ok rfl) (fun _ _ h => by cases h)
set_option maxRecDepth 100000 in
theorem pg_X11_cruise_77 {lf : pj_Z → mj_M} (hT : pj_Lt pj_TC lf) : ∀  (s : Nat → Int32) (l : Nat → Int64) (x : Nat → Int32) (y : Nat → Int64) (a : Unit × pj_Z), pl_X11_cruise_77 s l x y = some a → pm_Gd 2 11072 ie_X11_cruise.1 pm_rU lf 77 [(0, .ref 0)] [.ref 82] (s, l, x, y) a := by
  intro  s l x y a h
  exact pm_run ((pq_X11_cruise_77   s l x y).symm.trans h) (pz_X11_cruise hT) (pm_bks_ok pb_X11_cruise) (pm_bks_ok pb_X11_cruise _ _ rfl) (pm_ndb_ok rfl) (pj_as_all (p := pm_Ex 2 11072 ie_X11_cruise.1 pm_rU lf a) (List.forall_mem_cons.mpr ⟨pu_X11_cruise_78 _ (fun c0 s l x y h => pg_X11_cruise_78 hT c0 s l x y _ h), (fun _ h => by cases h)⟩))
set_option maxRecDepth 100000 in
theorem pg_X11_cruise_37 {lf : pj_Z → mj_M} (hT : pj_Lt pj_TC lf) : ∀ (b0 : Int32) (s : Nat → Int32) (l : Nat → Int64) (x : Nat → Int32) (y : Nat → Int64) (a : Unit × pj_Z), pl_X11_cruise_37 b0 s l x y = some a → pm_Gd 2 11072 ie_X11_cruise.1 pm_rU lf 37 [(0, .ref 0)] [.int b0] (s, l, x, y) a := by
  intro b0 s l x y a h
  exact pm_run ((pq_X11_cruise_37  b0 s l x y).symm.trans h) (pz_X11_cruise hT) (pm_bks_ok pb_X11_cruise) (pm_bks_ok pb_X11_cruise _ _ rfl) (pm_ndb_ok rfl) (pj_as_all (p := pm_Ex 2 11072 ie_X11_cruise.1 pm_rU lf a) (List.forall_mem_cons.mpr ⟨pu_X11_cruise_77 _ (fun  s l x y h => pg_X11_cruise_77 hT  s l x y _ h), (List.forall_mem_cons.mpr ⟨pu_X11_cruise_78 _ (fun c0 s l x y h => pg_X11_cruise_78 hT c0 s l x y _ h), (fun _ h => by cases h)⟩)⟩))
set_option maxRecDepth 100000 in
theorem pg_X11_cruise_36 {lf : pj_Z → mj_M} (hT : pj_Lt pj_TC lf) : ∀  (s : Nat → Int32) (l : Nat → Int64) (x : Nat → Int32) (y : Nat → Int64) (a : Unit × pj_Z), pl_X11_cruise_36 s l x y = some a → pm_Gd 2 11072 ie_X11_cruise.1 pm_rU lf 36 [(0, .ref 0)] [] (s, l, x, y) a := by
  intro  s l x y a h
  exact pm_run ((pq_X11_cruise_36   s l x y).symm.trans h) (pz_X11_cruise hT) (pm_bks_ok pb_X11_cruise) (pm_bks_ok pb_X11_cruise _ _ rfl) (pm_ndb_ok rfl) (pj_as_all (p := pm_Ex 2 11072 ie_X11_cruise.1 pm_rU lf a) (List.forall_mem_cons.mpr ⟨pu_X11_cruise_37 _ (fun c0 s l x y h => pg_X11_cruise_37 hT c0 s l x y _ h), (fun _ h => by cases h)⟩))
set_option maxRecDepth 100000 in
theorem pm_X11_cruise {lf : pj_Z → mj_M} (hT : pj_Lt pj_TC lf)  (s : Nat → Int32) (l : Nat → Int64) (x : Nat → Int32) (y : Nat → Int64) (a : Unit × pj_Z) (h : pf_X11_cruise  s l x y = some a) : mj_R ic_P 3 11072 [.ref 0] (lf (s, l, x, y)) (pm_rU a.1) (lf a.2) := by
  refine pm_main (Y := ie_X11_cruise.1) rfl (Nat.le_of_ble_eq_true rfl) ?_
  exact pm_run ((pq_X11_cruise_m  s l x y).symm.trans h) (pz_X11_cruise hT) (pm_bks_ok pb_X11_cruise) (pm_bks_ok pb_X11_cruise _ _ rfl) (pm_ndb_ok rfl) (pj_as_all (p := pm_Ex 2 11072 ie_X11_cruise.1 pm_rU lf a) (List.forall_mem_cons.mpr ⟨pu_X11_cruise_36 _ (fun  s l x y h => pg_X11_cruise_36 hT  s l x y _ h), (List.forall_mem_cons.mpr ⟨pu_X11_cruise_37 _ (fun c0 s l x y h => pg_X11_cruise_37 hT c0 s l x y _ h), (fun _ h => by cases h)⟩)⟩))
abbrev ph_X11_cruise {A : Type} : List pj_V → pj_Z → (List pj_V → pj_Z → Option A) → Option A := fun st z K => pj_pr st 0 0 fun st => pj_ps st (pj_b (pf_X11_cruise  z.1 z.2.1 z.2.2.1 z.2.2.2) fun r s l x y => K st (s, l, x, y))
set_option maxRecDepth 100000 in
theorem pc_X11_cruise {A : Type} {OK : A → Option Value → mj_M → Prop} {d j pc ix : Nat} {Y : mj_Y} {lf : pj_Z → mj_M} (hT : pj_Lt pj_TC lf) (hd : 3 ≤ d) (hl : mj_lk Y.2.2.2.2 pc = some (.invokevirtual ix, 3)) (hg : mj_pG ic_P j ix = some (11072, 0, some 11)) {lv : List (Nat × Value)} {st : List pj_V} {z : pj_Z} {K : List pj_V → pj_Z → Option A} {a : A} (hK : ∀ st z, K st z = some a → pj_Gd ic_P (mj_R ic_P d) j Y OK lf (pc + 3) lv (pj_es st) z a) (h : ph_X11_cruise st z K = some a) : pj_Gd ic_P (mj_R ic_P d) j Y OK lf pc lv (pj_es st) z a := by
  obtain ⟨r0, e0, h⟩ := pj_pr_inv h
  obtain ⟨hs, h⟩ := pj_ps_inv h
  obtain ⟨q, hq, h⟩ := pj_b_inv h
  exact pm_cv (o := 0) hl hg [] rfl (by rw [e0]; rfl) hs (by decide) ((hT.2 0 _ rfl).1.2 z 0 (by decide)) (pm_rU q.1) hd (pm_X11_cruise hT  z.1 z.2.1 z.2.2.1 z.2.2.2 q hq) rfl (hK _ _ h)
abbrev px_X9_drive : pj_C (Unit × pj_Z) := ((pj_as [(82, 9, 18, 1, 0, true, 0, [(0, 71), (0, 72), (1, 12), (0, 73), (0, 74), (0, 75), (0, 76), (0, 77), (0, 78), (0, 79), (0, 80), (1, 13), (0, 81), (0, 82), (0, 83), (0, 84), (0, 85), (0, 86)])]), (pj_as [(9, 9, 0, 0, false), (15, 9, 1, 0, false), (30, 9, 6, 0, false), (33, 9, 7, 0, false), (36, 9, 8, 0, false), (39, 9, 9, 0, false), (42, 9, 10, 0, false), (58, 9, 15, 0, false)]), (fun _ => none), (fun _ => none), (fun _ => none), ic_X, 4, 0, pj_mU, (pj_as [(5, ph_J9_min_7cf53), (20, ph_J9_max_7cf53), (24, ph_J9_min_7cf53), (64, ph_X11_clip), (85, ph_J9_floorDiv_7cf53), (96, ph_X11_clip)]), fun _ => false)
abbrev pk_X9_drive : List (Nat × List (Nat × Instr × Nat)) := [(0, [(0, .aload_n 0, 1), (1, .sipush 1000, 3), (4, .iload_n 1, 1), (5, .invokestatic 67, 3), (8, .aload_n 0, 1), (9, .getfield 30, 3), (12, .aload_n 0, 1), (13, .getfield 9, 3), (16, .aload_n 0, 1), (17, .getfield 58, 3), (20, .invokestatic 95, 3), (23, .iadd, 1), (24, .invokestatic 67, 3), (27, .putfield 33, 3), (30, .aload_n 0, 1), (31, .aload_n 0, 1), (32, .getfield 33, 3), (35, .aload_n 0, 1), (36, .getfield 15, 3), (39, .isub, 1), (40, .putfield 42, 3), (43, .aload_n 0, 1), (44, .aload_n 0, 1), (45, .getfield 39, 3), (48, .i2l, 1), (49, .aload_n 0, 1), (50, .getfield 42, 3), (53, .i2l, 1), (54, .iload_n 3, 1), (55, .i2l, 1), (56, .lmul, 1), (57, .ladd, 1), (58, .sipush (-16000), 3), (61, .sipush 16000, 3), (64, .invokestatic 91, 3), (67, .putfield 39, 3), (70, .aload_n 0, 1), (71, .aload_n 0, 1), (72, .getfield 42, 3), (75, .i2l, 1), (76, .iload_n 2, 1), (77, .i2l, 1), (78, .lmul, 1), (79, .aload_n 0, 1), (80, .getfield 39, 3), (83, .bipush 16, 2), (85, .invokestatic 101, 3), (88, .i2l, 1), (89, .ladd, 1), (90, .sipush (-1000), 3), (93, .sipush 1000, 3), (96, .invokestatic 91, 3), (99, .putfield 36, 3), (102, .return_, 1)])]
set_option maxRecDepth 100000 in
theorem pq_X9_drive_m  (a1 : Int32) (a2 : Int32) (a3 : Int32) (s : Nat → Int32) (l : Nat → Int64) (x : Nat → Int32) (y : Nat → Int64) : pf_X9_drive a1 a2 a3 s l x y = pj_bl px_X9_drive (pj_rn px_X9_drive (pj_as pk_X9_drive) (fun _ => none) 60) [(0, .aload_n 0, 1), (1, .sipush 1000, 3), (4, .iload_n 1, 1), (5, .invokestatic 67, 3), (8, .aload_n 0, 1), (9, .getfield 30, 3), (12, .aload_n 0, 1), (13, .getfield 9, 3), (16, .aload_n 0, 1), (17, .getfield 58, 3), (20, .invokestatic 95, 3), (23, .iadd, 1), (24, .invokestatic 67, 3), (27, .putfield 33, 3), (30, .aload_n 0, 1), (31, .aload_n 0, 1), (32, .getfield 33, 3), (35, .aload_n 0, 1), (36, .getfield 15, 3), (39, .isub, 1), (40, .putfield 42, 3), (43, .aload_n 0, 1), (44, .aload_n 0, 1), (45, .getfield 39, 3), (48, .i2l, 1), (49, .aload_n 0, 1), (50, .getfield 42, 3), (53, .i2l, 1), (54, .iload_n 3, 1), (55, .i2l, 1), (56, .lmul, 1), (57, .ladd, 1), (58, .sipush (-16000), 3), (61, .sipush 16000, 3), (64, .invokestatic 91, 3), (67, .putfield 39, 3), (70, .aload_n 0, 1), (71, .aload_n 0, 1), (72, .getfield 42, 3), (75, .i2l, 1), (76, .iload_n 2, 1), (77, .i2l, 1), (78, .lmul, 1), (79, .aload_n 0, 1), (80, .getfield 39, 3), (83, .bipush 16, 2), (85, .invokestatic 101, 3), (88, .i2l, 1), (89, .ladd, 1), (90, .sipush (-1000), 3), (93, .sipush 1000, 3), (96, .invokestatic 91, 3), (99, .putfield 36, 3), (102, .return_, 1)] 0 [(0, pj_O (82, 0)), (1, pj_I a1), (2, pj_I a2), (3, pj_I a3)] [] (s, l, x, y) := rfl
set_option maxRecDepth 100000 in
theorem pz_X9_drive {lf : pj_Z → mj_M} (hT : pj_Lt pj_TC lf) : pj_Cok ic_P (mj_R ic_P 1) 9010 ie_X9_drive.1 (pm_OK lf pm_rU) lf px_X9_drive := by
  exact pm_cok (c := px_X9_drive) (pm_part hT (pj_as_all (p := fun b e => pj_TC b = some e) (List.forall_mem_cons.mpr ⟨rfl, (fun _ h => by cases h)⟩))) (pm_in_ok (L := [(9, 9, 0, 0, false), (15, 9, 1, 0, false), (30, 9, 6, 0, false), (33, 9, 7, 0, false), (36, 9, 8, 0, false), (39, 9, 9, 0, false), (42, 9, 10, 0, false), (58, 9, 15, 0, false)]) (f := mj_pF ic_P 9010) (by decide +kernel)) (fun _ _ h => by cases h) (fun _ _ h => by cases h) (fun _ _ h => by cases h) rfl rfl ⟨by decide, rfl⟩ pm_mU (pj_as_all (p := pm_Cl 1 9010 ie_X9_drive.1 lf (pm_OK lf pm_rU)) (List.forall_mem_cons.mpr ⟨fun _ _ lv st z K a hK h => pc_J9_min_7cf53 (pm_none hT) (by decide) (ix := 67) rfl rfl hK h, (List.forall_mem_cons.mpr ⟨fun _ _ lv st z K a hK h => pc_J9_max_7cf53 (pm_none hT) (by decide) (ix := 95) rfl rfl hK h, (List.forall_mem_cons.mpr ⟨fun _ _ lv st z K a hK h => pc_J9_min_7cf53 (pm_none hT) (by decide) (ix := 67) rfl rfl hK h, (List.forall_mem_cons.mpr ⟨fun _ _ lv st z K a hK h => pc_X11_clip hT (by decide) (ix := 91) rfl rfl hK h, (List.forall_mem_cons.mpr ⟨fun _ _ lv st z K a hK h => pc_J9_floorDiv_7cf53 (pm_none hT) (by decide) (ix := 101) rfl rfl hK h, (List.forall_mem_cons.mpr ⟨fun _ _ lv st z K a hK h => pc_X11_clip hT (by decide) (ix := 91) rfl rfl hK h, (fun _ h => by cases h)⟩)⟩)⟩)⟩)⟩)⟩)) (fun _ h => by cases h)
set_option maxRecDepth 100000 in
theorem pb_X9_drive : pm_bks ie_X9_drive.1.2.2.2.2 pk_X9_drive = true := by decide +kernel
set_option maxRecDepth 100000 in
theorem pm_X9_drive {lf : pj_Z → mj_M} (hT : pj_Lt pj_TC lf) (a1 : Int32) (a2 : Int32) (a3 : Int32) (s : Nat → Int32) (l : Nat → Int64) (x : Nat → Int32) (y : Nat → Int64) (a : Unit × pj_Z) (h : pf_X9_drive a1 a2 a3 s l x y = some a) : mj_R ic_P 2 9010 [.ref 82, .int a1, .int a2, .int a3] (lf (s, l, x, y)) (pm_rU a.1) (lf a.2) := by
  refine pm_main (Y := ie_X9_drive.1) rfl (Nat.le_of_ble_eq_true rfl) ?_
  exact pm_run ((pq_X9_drive_m a1 a2 a3 s l x y).symm.trans h) (pz_X9_drive hT) (pm_bks_ok pb_X9_drive) (pm_bks_ok pb_X9_drive _ _ rfl) (pm_ndb_ok rfl) (fun _ _ h => by cases h)
abbrev ph_X9_drive {A : Type} : List pj_V → pj_Z → (List pj_V → pj_Z → Option A) → Option A := fun st z K => pj_pi st fun a3 st => pj_pi st fun a2 st => pj_pi st fun a1 st => pj_pr st 82 0 fun st => pj_ps st (pj_b (pf_X9_drive a1 a2 a3 z.1 z.2.1 z.2.2.1 z.2.2.2) fun r s l x y => K st (s, l, x, y))
set_option maxRecDepth 100000 in
theorem pc_X9_drive {A : Type} {OK : A → Option Value → mj_M → Prop} {d j pc ix : Nat} {Y : mj_Y} {lf : pj_Z → mj_M} (hT : pj_Lt pj_TC lf) (hd : 2 ≤ d) (hl : mj_lk Y.2.2.2.2 pc = some (.invokevirtual ix, 3)) (hg : mj_pG ic_P j ix = some (9010, 3, some 9)) {lv : List (Nat × Value)} {st : List pj_V} {z : pj_Z} {K : List pj_V → pj_Z → Option A} {a : A} (hK : ∀ st z, K st z = some a → pj_Gd ic_P (mj_R ic_P d) j Y OK lf (pc + 3) lv (pj_es st) z a) (h : ph_X9_drive st z K = some a) : pj_Gd ic_P (mj_R ic_P d) j Y OK lf pc lv (pj_es st) z a := by
  obtain ⟨a3, r3, e3, h⟩ := pj_pi_inv h
  obtain ⟨a2, r2, e2, h⟩ := pj_pi_inv h
  obtain ⟨a1, r1, e1, h⟩ := pj_pi_inv h
  obtain ⟨r0, e0, h⟩ := pj_pr_inv h
  obtain ⟨hs, h⟩ := pj_ps_inv h
  obtain ⟨q, hq, h⟩ := pj_b_inv h
  exact pm_cv (o := 82) hl hg [.int a1, .int a2, .int a3] rfl (by rw [e3, e2, e1, e0]; rfl) hs (by decide) ((hT.2 82 _ rfl).1.2 z 0 (by decide)) (pm_rU q.1) hd (pm_X9_drive hT a1 a2 a3 z.1 z.2.1 z.2.2.1 z.2.2.2 q hq) rfl (hK _ _ h)
abbrev px_X9_letGo : pj_C (Unit × pj_Z) := ((pj_as [(82, 9, 18, 1, 0, true, 0, [(0, 71), (0, 72), (1, 12), (0, 73), (0, 74), (0, 75), (0, 76), (0, 77), (0, 78), (0, 79), (0, 80), (1, 13), (0, 81), (0, 82), (0, 83), (0, 84), (0, 85), (0, 86)])]), (pj_as [(33, 9, 7, 0, false), (36, 9, 8, 0, false), (39, 9, 9, 0, false)]), (fun _ => none), (fun _ => none), (fun _ => none), ic_X, 1, 0, pj_mU, (fun _ => none), fun _ => false)
abbrev pk_X9_letGo : List (Nat × List (Nat × Instr × Nat)) := [(0, [(0, .aload_n 0, 1), (1, .bipush 60, 2), (3, .putfield 33, 3), (6, .aload_n 0, 1), (7, .iconst 0, 1), (8, .putfield 36, 3), (11, .aload_n 0, 1), (12, .iconst 0, 1), (13, .putfield 39, 3), (16, .return_, 1)])]
set_option maxRecDepth 100000 in
theorem pq_X9_letGo_m   (s : Nat → Int32) (l : Nat → Int64) (x : Nat → Int32) (y : Nat → Int64) : pf_X9_letGo  s l x y = pj_bl px_X9_letGo (pj_rn px_X9_letGo (pj_as pk_X9_letGo) (fun _ => none) 60) [(0, .aload_n 0, 1), (1, .bipush 60, 2), (3, .putfield 33, 3), (6, .aload_n 0, 1), (7, .iconst 0, 1), (8, .putfield 36, 3), (11, .aload_n 0, 1), (12, .iconst 0, 1), (13, .putfield 39, 3), (16, .return_, 1)] 0 [(0, pj_O (82, 0))] [] (s, l, x, y) := rfl
set_option maxRecDepth 100000 in
theorem pz_X9_letGo {lf : pj_Z → mj_M} (hT : pj_Lt pj_TC lf) : pj_Cok ic_P (mj_R ic_P 0) 9011 ie_X9_letGo.1 (pm_OK lf pm_rU) lf px_X9_letGo := by
  exact pm_cok (c := px_X9_letGo) (pm_part hT (pj_as_all (p := fun b e => pj_TC b = some e) (List.forall_mem_cons.mpr ⟨rfl, (fun _ h => by cases h)⟩))) (pm_in_ok (L := [(33, 9, 7, 0, false), (36, 9, 8, 0, false), (39, 9, 9, 0, false)]) (f := mj_pF ic_P 9011) (by decide +kernel)) (fun _ _ h => by cases h) (fun _ _ h => by cases h) (fun _ _ h => by cases h) rfl rfl ⟨by decide, rfl⟩ pm_mU (fun _ _ h => by cases h) (fun _ h => by cases h)
set_option maxRecDepth 100000 in
theorem pb_X9_letGo : pm_bks ie_X9_letGo.1.2.2.2.2 pk_X9_letGo = true := by decide +kernel
set_option maxRecDepth 100000 in
theorem pm_X9_letGo {lf : pj_Z → mj_M} (hT : pj_Lt pj_TC lf)  (s : Nat → Int32) (l : Nat → Int64) (x : Nat → Int32) (y : Nat → Int64) (a : Unit × pj_Z) (h : pf_X9_letGo  s l x y = some a) : mj_R ic_P 1 9011 [.ref 82] (lf (s, l, x, y)) (pm_rU a.1) (lf a.2) := by
  refine pm_main (Y := ie_X9_letGo.1) rfl (Nat.le_of_ble_eq_true rfl) ?_
  exact pm_run ((pq_X9_letGo_m  s l x y).symm.trans h) (pz_X9_letGo hT) (pm_bks_ok pb_X9_letGo) (pm_bks_ok pb_X9_letGo _ _ rfl) (pm_ndb_ok rfl) (fun _ _ h => by cases h)
abbrev ph_X9_letGo {A : Type} : List pj_V → pj_Z → (List pj_V → pj_Z → Option A) → Option A := fun st z K => pj_pr st 82 0 fun st => pj_ps st (pj_b (pf_X9_letGo  z.1 z.2.1 z.2.2.1 z.2.2.2) fun r s l x y => K st (s, l, x, y))
set_option maxRecDepth 100000 in
theorem pc_X9_letGo {A : Type} {OK : A → Option Value → mj_M → Prop} {d j pc ix : Nat} {Y : mj_Y} {lf : pj_Z → mj_M} (hT : pj_Lt pj_TC lf) (hd : 1 ≤ d) (hl : mj_lk Y.2.2.2.2 pc = some (.invokevirtual ix, 3)) (hg : mj_pG ic_P j ix = some (9011, 0, some 9)) {lv : List (Nat × Value)} {st : List pj_V} {z : pj_Z} {K : List pj_V → pj_Z → Option A} {a : A} (hK : ∀ st z, K st z = some a → pj_Gd ic_P (mj_R ic_P d) j Y OK lf (pc + 3) lv (pj_es st) z a) (h : ph_X9_letGo st z K = some a) : pj_Gd ic_P (mj_R ic_P d) j Y OK lf pc lv (pj_es st) z a := by
  obtain ⟨r0, e0, h⟩ := pj_pr_inv h
  obtain ⟨hs, h⟩ := pj_ps_inv h
  obtain ⟨q, hq, h⟩ := pj_b_inv h
  exact pm_cv (o := 82) hl hg [] rfl (by rw [e0]; rfl) hs (by decide) ((hT.2 82 _ rfl).1.2 z 0 (by decide)) (pm_rU q.1) hd (pm_X9_letGo hT  z.1 z.2.1 z.2.2.1 z.2.2.2 q hq) rfl (hK _ _ h)
abbrev pe_X11_driveThrottle_36 (f : pj_F (Unit × pj_Z)) : pj_K (Unit × pj_Z) := fun lv st z => pj_xr lv 0 0 0 <| pj_pr st 82 0 fun st => pj_pe st (f  z.1 z.2.1 z.2.2.1 z.2.2.2)
abbrev pe_X11_driveThrottle_37 (f : Int32 → pj_F (Unit × pj_Z)) : pj_K (Unit × pj_Z) := fun lv st z => pj_xr lv 0 0 0 <| pj_pi st fun b1 st => pj_pr st 82 0 fun st => pj_pe st (f b1 z.1 z.2.1 z.2.2.1 z.2.2.2)
abbrev px_X11_driveThrottle : pj_C (Unit × pj_Z) := ((pj_as [(0, 11, 17, 1, 0, true, 0, [(2, 1), (2, 20), (2, 58), (2, 68), (2, 82), (2, 83), (2, 85), (2, 96), (2, 102), (2, 106), (2, 122), (0, 93), (0, 94), (0, 95), (1, 1), (1, 2), (0, 96)]), (1, 4, 10, 1, 0, true, 0, [(2, 2), (2, 3), (2, 8), (2, 11), (2, 14), (2, 17), (2, 18), (2, 19), (0, 44), (1, 3)]), (2, 100, 24, 1, 0, true, 10000, []), (82, 9, 18, 1, 0, true, 0, [(0, 71), (0, 72), (1, 12), (0, 73), (0, 74), (0, 75), (0, 76), (0, 77), (0, 78), (0, 79), (0, 80), (1, 13), (0, 81), (0, 82), (0, 83), (0, 84), (0, 85), (0, 86)]), (83, 3, 20, 1, 0, true, 0, [(0, 29), (0, 30), (1, 14), (1, 15), (0, 31), (0, 32), (0, 33), (0, 34), (0, 35), (0, 36), (0, 37), (0, 38), (0, 39), (0, 40), (1, 16), (1, 17), (0, 41), (0, 42), (0, 43), (2, 84)]), (102, 1, 18, 1, 0, true, 0, [(2, 103), (2, 104), (2, 105), (1, 22), (0, 16), (0, 17), (0, 6), (0, 7), (0, 8), (0, 9), (0, 10), (1, 23), (0, 11), (0, 12), (0, 13), (0, 18), (0, 14), (0, 15)])]), (pj_as [(10, 11, 0, 2, true), (40, 11, 4, 2, true), (47, 11, 5, 2, true), (68, 11, 8, 2, true), (90, 11, 12, 0, false), (287, 4, 0, 2, true), (538, 3, 0, 3, false), (667, 3, 9, 3, false), (703, 9, 11, 3, false), (752, 1, 9, 0, false)]), (fun _ => none), (fun _ => none), (fun _ => none), ic_X, 1, 0, pj_mU, (pj_as [(81, ph_X9_drive), (91, ph_X9_letGo)]), fun _ => false)
abbrev pk_X11_driveThrottle : List (Nat × List (Nat × Instr × Nat)) := [(0, [(0, .aload_n 0, 1), (1, .getfield 40, 3), (4, .aload_n 0, 1), (5, .getfield 90, 3), (8, .iconst 1, 1), (9, .if_icmp .ne 27, 3)]), (12, [(12, .aload_n 0, 1), (13, .getfield 47, 3), (16, .getfield 538, 3), (19, .ifCond .ne 17, 3)]), (22, [(22, .aload_n 0, 1), (23, .getfield 47, 3), (26, .getfield 667, 3), (29, .ifCond .ne 7, 3)]), (32, [(32, .iconst 1, 1), (33, .goto 4, 3)]), (36, [(36, .iconst 0, 1)]), (37, [(37, .putfield 703, 3), (40, .aload_n 0, 1), (41, .getfield 40, 3), (44, .getfield 703, 3), (47, .ifCond .eq 40, 3)]), (50, [(50, .aload_n 0, 1), (51, .getfield 40, 3), (54, .aload_n 0, 1), (55, .getfield 68, 3), (58, .getfield 752, 3), (61, .aload_n 0, 1), (62, .getfield 10, 3), (65, .getfield 287, 3), (68, .bipush 16, 2), (70, .iaload, 1), (71, .aload_n 0, 1), (72, .getfield 10, 3), (75, .getfield 287, 3), (78, .bipush 17, 2), (80, .iaload, 1), (81, .invokevirtual 755, 3), (84, .goto 10, 3)]), (87, [(87, .aload_n 0, 1), (88, .getfield 40, 3), (91, .invokevirtual 758, 3)]), (94, [(94, .return_, 1)])]
set_option maxRecDepth 100000 in
theorem pq_X11_driveThrottle_37  (b1 : Int32) (s : Nat → Int32) (l : Nat → Int64) (x : Nat → Int32) (y : Nat → Int64) : pl_X11_driveThrottle_37 b1 s l x y = pj_bl px_X11_driveThrottle (pj_rn px_X11_driveThrottle (pj_as pk_X11_driveThrottle) (fun _ => none) 60) [(37, .putfield 703, 3), (40, .aload_n 0, 1), (41, .getfield 40, 3), (44, .getfield 703, 3), (47, .ifCond .eq 40, 3)] 37 [(0, pj_O (0, 0))] [pj_I b1, pj_O (82, 0)] (s, l, x, y) := rfl
set_option maxRecDepth 100000 in
theorem pq_X11_driveThrottle_36   (s : Nat → Int32) (l : Nat → Int64) (x : Nat → Int32) (y : Nat → Int64) : pl_X11_driveThrottle_36 s l x y = pj_bl px_X11_driveThrottle (pj_rn px_X11_driveThrottle (pj_as pk_X11_driveThrottle) (pj_as [(37, pe_X11_driveThrottle_37 (pl_X11_driveThrottle_37))]) 60) [(36, .iconst 0, 1)] 36 [(0, pj_O (0, 0))] [pj_O (82, 0)] (s, l, x, y) := rfl
set_option maxRecDepth 100000 in
theorem pq_X11_driveThrottle_m   (s : Nat → Int32) (l : Nat → Int64) (x : Nat → Int32) (y : Nat → Int64) : pf_X11_driveThrottle  s l x y = pj_bl px_X11_driveThrottle (pj_rn px_X11_driveThrottle (pj_as pk_X11_driveThrottle) (pj_as [(36, pe_X11_driveThrottle_36 (pl_X11_driveThrottle_36)), (37, pe_X11_driveThrottle_37 (pl_X11_driveThrottle_37))]) 60) [(0, .aload_n 0, 1), (1, .getfield 40, 3), (4, .aload_n 0, 1), (5, .getfield 90, 3), (8, .iconst 1, 1), (9, .if_icmp .ne 27, 3)] 0 [(0, pj_O (0, 0))] [] (s, l, x, y) := rfl
theorem pu_X11_driveThrottle_36 {lf : pj_Z → mj_M} {a : Unit × pj_Z} (f : pj_F (Unit × pj_Z)) (hf : ∀  (s : Nat → Int32) (l : Nat → Int64) (x : Nat → Int32) (y : Nat → Int64), f  s l x y = some a → pm_Gd 2 11073 ie_X11_driveThrottle.1 pm_rU lf 36 [(0, .ref 0)] [.ref 82] (s, l, x, y) a) : pm_Ex 2 11073 ie_X11_driveThrottle.1 pm_rU lf a 36 (pe_X11_driveThrottle_36 f) := by
  intro lv st z hd h
  obtain ⟨g0, h⟩ := pj_xr_inv h
  obtain ⟨r0, e0, h⟩ := pj_pr_inv h
  obtain ⟨e9, h⟩ := pj_pe_inv h
  rw [e0, e9]
  exact mj_wp_sub (mj_sub_cons g0 (mj_sub_nil hd)) (hf  _ _ _ _ h)
theorem pu_X11_driveThrottle_37 {lf : pj_Z → mj_M} {a : Unit × pj_Z} (f : Int32 → pj_F (Unit × pj_Z)) (hf : ∀ (b1 : Int32) (s : Nat → Int32) (l : Nat → Int64) (x : Nat → Int32) (y : Nat → Int64), f b1 s l x y = some a → pm_Gd 2 11073 ie_X11_driveThrottle.1 pm_rU lf 37 [(0, .ref 0)] [.int b1, .ref 82] (s, l, x, y) a) : pm_Ex 2 11073 ie_X11_driveThrottle.1 pm_rU lf a 37 (pe_X11_driveThrottle_37 f) := by
  intro lv st z hd h
  obtain ⟨g0, h⟩ := pj_xr_inv h
  obtain ⟨b1, r1, e1, h⟩ := pj_pi_inv h
  obtain ⟨r0, e0, h⟩ := pj_pr_inv h
  obtain ⟨e9, h⟩ := pj_pe_inv h
  rw [e1, e0, e9]
  exact mj_wp_sub (mj_sub_cons g0 (mj_sub_nil hd)) (hf _ _ _ _ _ h)
set_option maxRecDepth 100000 in
theorem pz_X11_driveThrottle {lf : pj_Z → mj_M} (hT : pj_Lt pj_TC lf) : pj_Cok ic_P (mj_R ic_P 2) 11073 ie_X11_driveThrottle.1 (pm_OK lf pm_rU) lf px_X11_driveThrottle := by
  exact pm_cok (c := px_X11_driveThrottle) (pm_part hT (pj_as_all (p := fun b e => pj_TC b = some e) (List.forall_mem_cons.mpr ⟨rfl, (List.forall_mem_cons.mpr ⟨rfl, (List.forall_mem_cons.mpr ⟨rfl, (List.forall_mem_cons.mpr ⟨rfl, (List.forall_mem_cons.mpr ⟨rfl, (List.forall_mem_cons.mpr ⟨rfl, (fun _ h => by cases h)⟩)⟩)⟩)⟩)⟩)⟩))) (pm_in_ok (L := [(10, 11, 0, 2, true), (40, 11, 4, 2, true), (47, 11, 5, 2, true), (68, 11, 8, 2, true), (90, 11, 12, 0, false), (287, 4, 0, 2, true), (538, 3, 0, 3, false), (667, 3, 9, 3, false), (703, 9, 11, 3, false), (752, 1, 9, 0, false)]) (f := mj_pF ic_P 11073) (by decide +kernel)) (fun _ _ h => by cases h) (fun _ _ h => by cases h) (fun _ _ h => by cases h) rfl rfl ⟨by decide, rfl⟩ pm_mU (pj_as_all (p := pm_Cl 2 11073 ie_X11_driveThrottle.1 lf (pm_OK lf pm_rU)) (List.forall_mem_cons.mpr ⟨fun _ _ lv st z K a hK h => pc_X9_drive hT (by decide) (ix := 755) rfl rfl hK h, (List.forall_mem_cons.mpr ⟨fun _ _ lv st z K a hK h => pc_X9_letGo hT (by decide) (ix := 758) rfl rfl hK h, (fun _ h => by cases h)⟩)⟩)) (fun _ h => by cases h)
set_option maxRecDepth 100000 in
theorem pb_X11_driveThrottle : pm_bks ie_X11_driveThrottle.1.2.2.2.2 pk_X11_driveThrottle = true := by decide +kernel
set_option maxRecDepth 100000 in
theorem pg_X11_driveThrottle_37 {lf : pj_Z → mj_M} (hT : pj_Lt pj_TC lf) : ∀ (b1 : Int32) (s : Nat → Int32) (l : Nat → Int64) (x : Nat → Int32) (y : Nat → Int64) (a : Unit × pj_Z), pl_X11_driveThrottle_37 b1 s l x y = some a → pm_Gd 2 11073 ie_X11_driveThrottle.1 pm_rU lf 37 [(0, .ref 0)] [.int b1, .ref 82] (s, l, x, y) a := by
  intro b1 s l x y a h
  exact pm_run ((pq_X11_driveThrottle_37  b1 s l x y).symm.trans h) (pz_X11_driveThrottle hT) (pm_bks_ok pb_X11_driveThrottle) (pm_bks_ok pb_X11_driveThrottle _ _ rfl) (pm_ndb_ok rfl) (fun _ _ h => by cases h)
set_option maxRecDepth 100000 in
theorem pg_X11_driveThrottle_36 {lf : pj_Z → mj_M} (hT : pj_Lt pj_TC lf) : ∀  (s : Nat → Int32) (l : Nat → Int64) (x : Nat → Int32) (y : Nat → Int64) (a : Unit × pj_Z), pl_X11_driveThrottle_36 s l x y = some a → pm_Gd 2 11073 ie_X11_driveThrottle.1 pm_rU lf 36 [(0, .ref 0)] [.ref 82] (s, l, x, y) a := by
  intro  s l x y a h
  exact pm_run ((pq_X11_driveThrottle_36   s l x y).symm.trans h) (pz_X11_driveThrottle hT) (pm_bks_ok pb_X11_driveThrottle) (pm_bks_ok pb_X11_driveThrottle _ _ rfl) (pm_ndb_ok rfl) (pj_as_all (p := pm_Ex 2 11073 ie_X11_driveThrottle.1 pm_rU lf a) (List.forall_mem_cons.mpr ⟨pu_X11_driveThrottle_37 _ (fun c0 s l x y h => pg_X11_driveThrottle_37 hT c0 s l x y _ h), (fun _ h => by cases h)⟩))
set_option maxRecDepth 100000 in
theorem pm_X11_driveThrottle {lf : pj_Z → mj_M} (hT : pj_Lt pj_TC lf)  (s : Nat → Int32) (l : Nat → Int64) (x : Nat → Int32) (y : Nat → Int64) (a : Unit × pj_Z) (h : pf_X11_driveThrottle  s l x y = some a) : mj_R ic_P 3 11073 [.ref 0] (lf (s, l, x, y)) (pm_rU a.1) (lf a.2) := by
  refine pm_main (Y := ie_X11_driveThrottle.1) rfl (Nat.le_of_ble_eq_true rfl) ?_
  exact pm_run ((pq_X11_driveThrottle_m  s l x y).symm.trans h) (pz_X11_driveThrottle hT) (pm_bks_ok pb_X11_driveThrottle) (pm_bks_ok pb_X11_driveThrottle _ _ rfl) (pm_ndb_ok rfl) (pj_as_all (p := pm_Ex 2 11073 ie_X11_driveThrottle.1 pm_rU lf a) (List.forall_mem_cons.mpr ⟨pu_X11_driveThrottle_36 _ (fun  s l x y h => pg_X11_driveThrottle_36 hT  s l x y _ h), (List.forall_mem_cons.mpr ⟨pu_X11_driveThrottle_37 _ (fun c0 s l x y h => pg_X11_driveThrottle_37 hT c0 s l x y _ h), (fun _ h => by cases h)⟩)⟩))
abbrev ph_X11_driveThrottle {A : Type} : List pj_V → pj_Z → (List pj_V → pj_Z → Option A) → Option A := fun st z K => pj_pr st 0 0 fun st => pj_ps st (pj_b (pf_X11_driveThrottle  z.1 z.2.1 z.2.2.1 z.2.2.2) fun r s l x y => K st (s, l, x, y))
set_option maxRecDepth 100000 in
theorem pc_X11_driveThrottle {A : Type} {OK : A → Option Value → mj_M → Prop} {d j pc ix : Nat} {Y : mj_Y} {lf : pj_Z → mj_M} (hT : pj_Lt pj_TC lf) (hd : 3 ≤ d) (hl : mj_lk Y.2.2.2.2 pc = some (.invokevirtual ix, 3)) (hg : mj_pG ic_P j ix = some (11073, 0, some 11)) {lv : List (Nat × Value)} {st : List pj_V} {z : pj_Z} {K : List pj_V → pj_Z → Option A} {a : A} (hK : ∀ st z, K st z = some a → pj_Gd ic_P (mj_R ic_P d) j Y OK lf (pc + 3) lv (pj_es st) z a) (h : ph_X11_driveThrottle st z K = some a) : pj_Gd ic_P (mj_R ic_P d) j Y OK lf pc lv (pj_es st) z a := by
  obtain ⟨r0, e0, h⟩ := pj_pr_inv h
  obtain ⟨hs, h⟩ := pj_ps_inv h
  obtain ⟨q, hq, h⟩ := pj_b_inv h
  exact pm_cv (o := 0) hl hg [] rfl (by rw [e0]; rfl) hs (by decide) ((hT.2 0 _ rfl).1.2 z 0 (by decide)) (pm_rU q.1) hd (pm_X11_driveThrottle hT  z.1 z.2.1 z.2.2.1 z.2.2.2 q hq) rfl (hK _ _ h)
abbrev pe_X3_lookAgain_23 (f : Int32 → Int32 → Int32 → pj_F (Unit × pj_Z)) : pj_K (Unit × pj_Z) := fun lv st z => pj_xr lv 0 83 0 <| pj_xi lv 2 fun a2 => pj_xi lv 3 fun a3 => pj_xi lv 4 fun a4 => pj_pr st 83 0 fun st => pj_pe st (f a2 a3 a4 z.1 z.2.1 z.2.2.1 z.2.2.2)
abbrev pe_X3_lookAgain_24 (f : Int32 → Int32 → Int32 → Int32 → pj_F (Unit × pj_Z)) : pj_K (Unit × pj_Z) := fun lv st z => pj_xr lv 0 83 0 <| pj_xi lv 2 fun a2 => pj_xi lv 3 fun a3 => pj_xi lv 4 fun a4 => pj_pi st fun b1 st => pj_pr st 83 0 fun st => pj_pe st (f a2 a3 a4 b1 z.1 z.2.1 z.2.2.1 z.2.2.2)
abbrev pe_X3_lookAgain_59 (f : Int32 → Int32 → pj_F (Unit × pj_Z)) : pj_K (Unit × pj_Z) := fun lv st z => pj_xr lv 0 83 0 <| pj_xi lv 4 fun a4 => pj_pi st fun b1 st => pj_pr st 83 0 fun st => pj_pe st (f a4 b1 z.1 z.2.1 z.2.2.1 z.2.2.2)
abbrev px_X3_lookAgain : pj_C (Unit × pj_Z) := ((pj_as [(83, 3, 20, 1, 0, true, 0, [(0, 29), (0, 30), (1, 14), (1, 15), (0, 31), (0, 32), (0, 33), (0, 34), (0, 35), (0, 36), (0, 37), (0, 38), (0, 39), (0, 40), (1, 16), (1, 17), (0, 41), (0, 42), (0, 43), (2, 84)])]), (pj_as [(15, 3, 0, 3, false), (19, 3, 1, 0, false), (23, 3, 2, 3, false), (26, 3, 3, 3, false), (44, 3, 9, 3, false)]), (fun _ => none), (fun _ => none), (fun _ => none), ic_X, 5, 0, pj_mU, (pj_as [(42, ph_J9_abs_0f7a4)]), fun _ => false)
abbrev pk_X3_lookAgain : List (Nat × List (Nat × Instr × Nat)) := [(0, [(0, .aload_n 0, 1), (1, .iload_n 1, 1), (2, .ifCond .eq 21, 3)]), (5, [(5, .aload_n 0, 1), (6, .getfield 15, 3), (9, .ifCond .ne 14, 3)]), (12, [(12, .aload_n 0, 1), (13, .getfield 44, 3), (16, .ifCond .ne 7, 3)]), (19, [(19, .iconst 1, 1), (20, .goto 4, 3)]), (23, [(23, .iconst 0, 1)]), (24, [(24, .putfield 23, 3), (27, .aload_n 0, 1), (28, .iconst 0, 1), (29, .putfield 26, 3), (32, .aload_n 0, 1), (33, .getfield 23, 3), (36, .ifCond .ne 4, 3)]), (39, [(39, .return_, 1)]), (40, [(40, .aload_n 0, 1), (41, .iload_n 2, 1), (42, .invokestatic 92, 3), (45, .iload_n 3, 1), (46, .if_icmp .le 12, 3)]), (49, [(49, .aload_n 0, 1), (50, .getfield 19, 3), (53, .iconst 1, 1), (54, .iadd, 1), (55, .goto 4, 3)]), (58, [(58, .iconst 0, 1)]), (59, [(59, .putfield 19, 3), (62, .aload_n 0, 1), (63, .getfield 19, 3), (66, .iload 4, 2), (68, .if_icmp .lt 13, 3)]), (71, [(71, .aload_n 0, 1), (72, .iconst 1, 1), (73, .putfield 15, 3), (76, .aload_n 0, 1), (77, .iconst 1, 1), (78, .putfield 26, 3)]), (81, [(81, .return_, 1)])]
set_option maxRecDepth 100000 in
theorem pq_X3_lookAgain_59  (a4 : Int32) (b1 : Int32) (s : Nat → Int32) (l : Nat → Int64) (x : Nat → Int32) (y : Nat → Int64) : pl_X3_lookAgain_59 a4 b1 s l x y = pj_bl px_X3_lookAgain (pj_rn px_X3_lookAgain (pj_as pk_X3_lookAgain) (fun _ => none) 60) [(59, .putfield 19, 3), (62, .aload_n 0, 1), (63, .getfield 19, 3), (66, .iload 4, 2), (68, .if_icmp .lt 13, 3)] 59 [(0, pj_O (83, 0)), (4, pj_I a4)] [pj_I b1, pj_O (83, 0)] (s, l, x, y) := rfl
set_option maxRecDepth 100000 in
theorem pq_X3_lookAgain_24  (a2 : Int32) (a3 : Int32) (a4 : Int32) (b1 : Int32) (s : Nat → Int32) (l : Nat → Int64) (x : Nat → Int32) (y : Nat → Int64) : pl_X3_lookAgain_24 a2 a3 a4 b1 s l x y = pj_bl px_X3_lookAgain (pj_rn px_X3_lookAgain (pj_as pk_X3_lookAgain) (pj_as [(59, pe_X3_lookAgain_59 (pl_X3_lookAgain_59))]) 60) [(24, .putfield 23, 3), (27, .aload_n 0, 1), (28, .iconst 0, 1), (29, .putfield 26, 3), (32, .aload_n 0, 1), (33, .getfield 23, 3), (36, .ifCond .ne 4, 3)] 24 [(0, pj_O (83, 0)), (2, pj_I a2), (3, pj_I a3), (4, pj_I a4)] [pj_I b1, pj_O (83, 0)] (s, l, x, y) := rfl
set_option maxRecDepth 100000 in
theorem pq_X3_lookAgain_23  (a2 : Int32) (a3 : Int32) (a4 : Int32) (s : Nat → Int32) (l : Nat → Int64) (x : Nat → Int32) (y : Nat → Int64) : pl_X3_lookAgain_23 a2 a3 a4 s l x y = pj_bl px_X3_lookAgain (pj_rn px_X3_lookAgain (pj_as pk_X3_lookAgain) (pj_as [(24, pe_X3_lookAgain_24 (pl_X3_lookAgain_24))]) 60) [(23, .iconst 0, 1)] 23 [(0, pj_O (83, 0)), (2, pj_I a2), (3, pj_I a3), (4, pj_I a4)] [pj_O (83, 0)] (s, l, x, y) := rfl
set_option maxRecDepth 100000 in
theorem pq_X3_lookAgain_m  (a1 : Int32) (a2 : Int32) (a3 : Int32) (a4 : Int32) (s : Nat → Int32) (l : Nat → Int64) (x : Nat → Int32) (y : Nat → Int64) : pf_X3_lookAgain a1 a2 a3 a4 s l x y = pj_bl px_X3_lookAgain (pj_rn px_X3_lookAgain (pj_as pk_X3_lookAgain) (pj_as [(23, pe_X3_lookAgain_23 (pl_X3_lookAgain_23)), (24, pe_X3_lookAgain_24 (pl_X3_lookAgain_24))]) 60) [(0, .aload_n 0, 1), (1, .iload_n 1, 1), (2, .ifCond .eq 21, 3)] 0 [(0, pj_O (83, 0)), (1, pj_I a1), (2, pj_I a2), (3, pj_I a3), (4, pj_I a4)] [] (s, l, x, y) := rfl
theorem pu_X3_lookAgain_23 {lf : pj_Z → mj_M} {a : Unit × pj_Z} (f : Int32 → Int32 → Int32 → pj_F (Unit × pj_Z)) (hf : ∀ (a2 : Int32) (a3 : Int32) (a4 : Int32) (s : Nat → Int32) (l : Nat → Int64) (x : Nat → Int32) (y : Nat → Int64), f a2 a3 a4 s l x y = some a → pm_Gd 1 3005 ie_X3_lookAgain.1 pm_rU lf 23 [(0, .ref 83), (2, .int a2), (3, .int a3), (4, .int a4)] [.ref 83] (s, l, x, y) a) : pm_Ex 1 3005 ie_X3_lookAgain.1 pm_rU lf a 23 (pe_X3_lookAgain_23 f) := by
  intro lv st z hd h
  obtain ⟨g0, h⟩ := pj_xr_inv h
  obtain ⟨a2, g2, h⟩ := pj_xi_inv h
  obtain ⟨a3, g3, h⟩ := pj_xi_inv h
  obtain ⟨a4, g4, h⟩ := pj_xi_inv h
  obtain ⟨r0, e0, h⟩ := pj_pr_inv h
  obtain ⟨e9, h⟩ := pj_pe_inv h
  rw [e0, e9]
  exact mj_wp_sub (mj_sub_cons g0 (mj_sub_cons g2 (mj_sub_cons g3 (mj_sub_cons g4 (mj_sub_nil hd))))) (hf _ _ _ _ _ _ _ h)
theorem pu_X3_lookAgain_24 {lf : pj_Z → mj_M} {a : Unit × pj_Z} (f : Int32 → Int32 → Int32 → Int32 → pj_F (Unit × pj_Z)) (hf : ∀ (a2 : Int32) (a3 : Int32) (a4 : Int32) (b1 : Int32) (s : Nat → Int32) (l : Nat → Int64) (x : Nat → Int32) (y : Nat → Int64), f a2 a3 a4 b1 s l x y = some a → pm_Gd 1 3005 ie_X3_lookAgain.1 pm_rU lf 24 [(0, .ref 83), (2, .int a2), (3, .int a3), (4, .int a4)] [.int b1, .ref 83] (s, l, x, y) a) : pm_Ex 1 3005 ie_X3_lookAgain.1 pm_rU lf a 24 (pe_X3_lookAgain_24 f) := by
  intro lv st z hd h
  obtain ⟨g0, h⟩ := pj_xr_inv h
  obtain ⟨a2, g2, h⟩ := pj_xi_inv h
  obtain ⟨a3, g3, h⟩ := pj_xi_inv h
  obtain ⟨a4, g4, h⟩ := pj_xi_inv h
  obtain ⟨b1, r1, e1, h⟩ := pj_pi_inv h
  obtain ⟨r0, e0, h⟩ := pj_pr_inv h
  obtain ⟨e9, h⟩ := pj_pe_inv h
  rw [e1, e0, e9]
  exact mj_wp_sub (mj_sub_cons g0 (mj_sub_cons g2 (mj_sub_cons g3 (mj_sub_cons g4 (mj_sub_nil hd))))) (hf _ _ _ _ _ _ _ _ h)
theorem pu_X3_lookAgain_59 {lf : pj_Z → mj_M} {a : Unit × pj_Z} (f : Int32 → Int32 → pj_F (Unit × pj_Z)) (hf : ∀ (a4 : Int32) (b1 : Int32) (s : Nat → Int32) (l : Nat → Int64) (x : Nat → Int32) (y : Nat → Int64), f a4 b1 s l x y = some a → pm_Gd 1 3005 ie_X3_lookAgain.1 pm_rU lf 59 [(0, .ref 83), (4, .int a4)] [.int b1, .ref 83] (s, l, x, y) a) : pm_Ex 1 3005 ie_X3_lookAgain.1 pm_rU lf a 59 (pe_X3_lookAgain_59 f) := by
  intro lv st z hd h
  obtain ⟨g0, h⟩ := pj_xr_inv h
  obtain ⟨a4, g4, h⟩ := pj_xi_inv h
  obtain ⟨b1, r1, e1, h⟩ := pj_pi_inv h
  obtain ⟨r0, e0, h⟩ := pj_pr_inv h
  obtain ⟨e9, h⟩ := pj_pe_inv h
  rw [e1, e0, e9]
  exact mj_wp_sub (mj_sub_cons g0 (mj_sub_cons g4 (mj_sub_nil hd))) (hf _ _ _ _ _ _ h)
set_option maxRecDepth 100000 in
theorem pz_X3_lookAgain {lf : pj_Z → mj_M} (hT : pj_Lt pj_TC lf) : pj_Cok ic_P (mj_R ic_P 1) 3005 ie_X3_lookAgain.1 (pm_OK lf pm_rU) lf px_X3_lookAgain := by
  exact pm_cok (c := px_X3_lookAgain) (pm_part hT (pj_as_all (p := fun b e => pj_TC b = some e) (List.forall_mem_cons.mpr ⟨rfl, (fun _ h => by cases h)⟩))) (pm_in_ok (L := [(15, 3, 0, 3, false), (19, 3, 1, 0, false), (23, 3, 2, 3, false), (26, 3, 3, 3, false), (44, 3, 9, 3, false)]) (f := mj_pF ic_P 3005) (by decide +kernel)) (fun _ _ h => by cases h) (fun _ _ h => by cases h) (fun _ _ h => by cases h) rfl rfl ⟨by decide, rfl⟩ pm_mU (pj_as_all (p := pm_Cl 1 3005 ie_X3_lookAgain.1 lf (pm_OK lf pm_rU)) (List.forall_mem_cons.mpr ⟨fun _ _ lv st z K a hK h => pc_J9_abs_0f7a4 (pm_none hT) (by decide) (ix := 92) rfl rfl hK h, (fun _ h => by cases h)⟩)) (fun _ h => by cases h)
set_option maxRecDepth 100000 in
theorem pb_X3_lookAgain : pm_bks ie_X3_lookAgain.1.2.2.2.2 pk_X3_lookAgain = true := by decide +kernel
set_option maxRecDepth 100000 in
theorem pg_X3_lookAgain_59 {lf : pj_Z → mj_M} (hT : pj_Lt pj_TC lf) : ∀ (a4 : Int32) (b1 : Int32) (s : Nat → Int32) (l : Nat → Int64) (x : Nat → Int32) (y : Nat → Int64) (a : Unit × pj_Z), pl_X3_lookAgain_59 a4 b1 s l x y = some a → pm_Gd 1 3005 ie_X3_lookAgain.1 pm_rU lf 59 [(0, .ref 83), (4, .int a4)] [.int b1, .ref 83] (s, l, x, y) a := by
  intro a4 b1 s l x y a h
  exact pm_run ((pq_X3_lookAgain_59  a4 b1 s l x y).symm.trans h) (pz_X3_lookAgain hT) (pm_bks_ok pb_X3_lookAgain) (pm_bks_ok pb_X3_lookAgain _ _ rfl) (pm_ndb_ok rfl) (fun _ _ h => by cases h)
set_option maxRecDepth 100000 in
theorem pg_X3_lookAgain_24 {lf : pj_Z → mj_M} (hT : pj_Lt pj_TC lf) : ∀ (a2 : Int32) (a3 : Int32) (a4 : Int32) (b1 : Int32) (s : Nat → Int32) (l : Nat → Int64) (x : Nat → Int32) (y : Nat → Int64) (a : Unit × pj_Z), pl_X3_lookAgain_24 a2 a3 a4 b1 s l x y = some a → pm_Gd 1 3005 ie_X3_lookAgain.1 pm_rU lf 24 [(0, .ref 83), (2, .int a2), (3, .int a3), (4, .int a4)] [.int b1, .ref 83] (s, l, x, y) a := by
  intro a2 a3 a4 b1 s l x y a h
  exact pm_run ((pq_X3_lookAgain_24  a2 a3 a4 b1 s l x y).symm.trans h) (pz_X3_lookAgain hT) (pm_bks_ok pb_X3_lookAgain) (pm_bks_ok pb_X3_lookAgain _ _ rfl) (pm_ndb_ok rfl) (pj_as_all (p := pm_Ex 1 3005 ie_X3_lookAgain.1 pm_rU lf a) (List.forall_mem_cons.mpr ⟨pu_X3_lookAgain_59 _ (fun c0 c1 s l x y h => pg_X3_lookAgain_59 hT c0 c1 s l x y _ h), (fun _ h => by cases h)⟩))
set_option maxRecDepth 100000 in
theorem pg_X3_lookAgain_23 {lf : pj_Z → mj_M} (hT : pj_Lt pj_TC lf) : ∀ (a2 : Int32) (a3 : Int32) (a4 : Int32) (s : Nat → Int32) (l : Nat → Int64) (x : Nat → Int32) (y : Nat → Int64) (a : Unit × pj_Z), pl_X3_lookAgain_23 a2 a3 a4 s l x y = some a → pm_Gd 1 3005 ie_X3_lookAgain.1 pm_rU lf 23 [(0, .ref 83), (2, .int a2), (3, .int a3), (4, .int a4)] [.ref 83] (s, l, x, y) a := by
  intro a2 a3 a4 s l x y a h
  exact pm_run ((pq_X3_lookAgain_23  a2 a3 a4 s l x y).symm.trans h) (pz_X3_lookAgain hT) (pm_bks_ok pb_X3_lookAgain) (pm_bks_ok pb_X3_lookAgain _ _ rfl) (pm_ndb_ok rfl) (pj_as_all (p := pm_Ex 1 3005 ie_X3_lookAgain.1 pm_rU lf a) (List.forall_mem_cons.mpr ⟨pu_X3_lookAgain_24 _ (fun c0 c1 c2 c3 s l x y h => pg_X3_lookAgain_24 hT c0 c1 c2 c3 s l x y _ h), (fun _ h => by cases h)⟩))
set_option maxRecDepth 100000 in
theorem pm_X3_lookAgain {lf : pj_Z → mj_M} (hT : pj_Lt pj_TC lf) (a1 : Int32) (a2 : Int32) (a3 : Int32) (a4 : Int32) (s : Nat → Int32) (l : Nat → Int64) (x : Nat → Int32) (y : Nat → Int64) (a : Unit × pj_Z) (h : pf_X3_lookAgain a1 a2 a3 a4 s l x y = some a) : mj_R ic_P 2 3005 [.ref 83, .int a1, .int a2, .int a3, .int a4] (lf (s, l, x, y)) (pm_rU a.1) (lf a.2) := by
  refine pm_main (Y := ie_X3_lookAgain.1) rfl (Nat.le_of_ble_eq_true rfl) ?_
  exact pm_run ((pq_X3_lookAgain_m a1 a2 a3 a4 s l x y).symm.trans h) (pz_X3_lookAgain hT) (pm_bks_ok pb_X3_lookAgain) (pm_bks_ok pb_X3_lookAgain _ _ rfl) (pm_ndb_ok rfl) (pj_as_all (p := pm_Ex 1 3005 ie_X3_lookAgain.1 pm_rU lf a) (List.forall_mem_cons.mpr ⟨pu_X3_lookAgain_23 _ (fun c0 c1 c2 s l x y h => pg_X3_lookAgain_23 hT c0 c1 c2 s l x y _ h), (List.forall_mem_cons.mpr ⟨pu_X3_lookAgain_24 _ (fun c0 c1 c2 c3 s l x y h => pg_X3_lookAgain_24 hT c0 c1 c2 c3 s l x y _ h), (fun _ h => by cases h)⟩)⟩))
abbrev ph_X3_lookAgain {A : Type} : List pj_V → pj_Z → (List pj_V → pj_Z → Option A) → Option A := fun st z K => pj_pi st fun a4 st => pj_pi st fun a3 st => pj_pi st fun a2 st => pj_pi st fun a1 st => pj_pr st 83 0 fun st => pj_ps st (pj_b (pf_X3_lookAgain a1 a2 a3 a4 z.1 z.2.1 z.2.2.1 z.2.2.2) fun r s l x y => K st (s, l, x, y))
set_option maxRecDepth 100000 in
theorem pc_X3_lookAgain {A : Type} {OK : A → Option Value → mj_M → Prop} {d j pc ix : Nat} {Y : mj_Y} {lf : pj_Z → mj_M} (hT : pj_Lt pj_TC lf) (hd : 2 ≤ d) (hl : mj_lk Y.2.2.2.2 pc = some (.invokevirtual ix, 3)) (hg : mj_pG ic_P j ix = some (3005, 4, some 3)) {lv : List (Nat × Value)} {st : List pj_V} {z : pj_Z} {K : List pj_V → pj_Z → Option A} {a : A} (hK : ∀ st z, K st z = some a → pj_Gd ic_P (mj_R ic_P d) j Y OK lf (pc + 3) lv (pj_es st) z a) (h : ph_X3_lookAgain st z K = some a) : pj_Gd ic_P (mj_R ic_P d) j Y OK lf pc lv (pj_es st) z a := by
  obtain ⟨a4, r4, e4, h⟩ := pj_pi_inv h
  obtain ⟨a3, r3, e3, h⟩ := pj_pi_inv h
  obtain ⟨a2, r2, e2, h⟩ := pj_pi_inv h
  obtain ⟨a1, r1, e1, h⟩ := pj_pi_inv h
  obtain ⟨r0, e0, h⟩ := pj_pr_inv h
  obtain ⟨hs, h⟩ := pj_ps_inv h
  obtain ⟨q, hq, h⟩ := pj_b_inv h
  exact pm_cv (o := 83) hl hg [.int a1, .int a2, .int a3, .int a4] rfl (by rw [e4, e3, e2, e1, e0]; rfl) hs (by decide) ((hT.2 83 _ rfl).1.2 z 0 (by decide)) (pm_rU q.1) hd (pm_X3_lookAgain hT a1 a2 a3 a4 z.1 z.2.1 z.2.2.1 z.2.2.2 q hq) rfl (hK _ _ h)
abbrev pe_X3_tickWatch_60 (f : Int64 → pj_F (Int32 × pj_Z)) : pj_K (Int32 × pj_Z) := fun lv st z => pj_xr lv 0 83 0 <| pj_pl st fun b1 st => pj_pr st 83 0 fun st => pj_pe st (f b1 z.1 z.2.1 z.2.2.1 z.2.2.2)
abbrev pe_X3_tickWatch_107 (f : pj_F (Int32 × pj_Z)) : pj_K (Int32 × pj_Z) := fun lv st z => pj_xr lv 0 83 0 <| pj_pe st (f  z.1 z.2.1 z.2.2.1 z.2.2.2)
abbrev pe_X3_tickWatch_108 (f : Int32 → pj_F (Int32 × pj_Z)) : pj_K (Int32 × pj_Z) := fun lv st z => pj_xr lv 0 83 0 <| pj_pi st fun b0 st => pj_pe st (f b0 z.1 z.2.1 z.2.2.1 z.2.2.2)
abbrev px_X3_tickWatch : pj_C (Int32 × pj_Z) := ((pj_as [(83, 3, 20, 1, 0, true, 0, [(0, 29), (0, 30), (1, 14), (1, 15), (0, 31), (0, 32), (0, 33), (0, 34), (0, 35), (0, 36), (0, 37), (0, 38), (0, 39), (0, 40), (1, 16), (1, 17), (0, 41), (0, 42), (0, 43), (2, 84)])]), (pj_as [(29, 3, 4, 3, false), (32, 3, 5, 0, false), (35, 3, 6, 3, false), (38, 3, 7, 0, false), (41, 3, 8, 0, false), (44, 3, 9, 3, false)]), (fun _ => none), (fun _ => none), (fun _ => none), ic_X, 2, 2, pj_mI, (pj_as [(62, ph_X11_clip)]), fun _ => false)
abbrev pk_X3_tickWatch : List (Nat × List (Nat × Instr × Nat)) := [(0, [(0, .aload_n 0, 1), (1, .getfield 29, 3), (4, .ifCond .ne 5, 3)]), (7, [(7, .iconst 0, 1), (8, .ireturn, 1)]), (9, [(9, .aload_n 0, 1), (10, .dup, 1), (11, .getfield 38, 3), (14, .iconst 1, 1), (15, .iadd, 1), (16, .putfield 38, 3), (19, .aload_n 0, 1), (20, .getfield 38, 3), (23, .bipush 10, 2), (25, .if_icmp .ge 5, 3)]), (28, [(28, .iconst 0, 1), (29, .ireturn, 1)]), (30, [(30, .aload_n 0, 1), (31, .iconst 0, 1), (32, .putfield 38, 3), (35, .aload_n 0, 1), (36, .aload_n 0, 1), (37, .getfield 35, 3), (40, .ifCond .eq 13, 3)]), (43, [(43, .aload_n 0, 1), (44, .getfield 41, 3), (47, .iconst 1, 1), (48, .isub, 1), (49, .i2l, 1), (50, .goto 10, 3)]), (53, [(53, .aload_n 0, 1), (54, .getfield 41, 3), (57, .iconst 1, 1), (58, .iadd, 1), (59, .i2l, 1)]), (60, [(60, .iconst 0, 1), (61, .iconst 5, 1), (62, .invokestatic 82, 3), (65, .putfield 41, 3), (68, .aload_n 0, 1), (69, .iconst 5, 1), (70, .aload_n 0, 1), (71, .getfield 32, 3), (74, .imul, 1), (75, .iconst 1, 1), (76, .iadd, 1), (77, .bipush 16, 2), (79, .irem, 1), (80, .putfield 32, 3), (83, .aload_n 0, 1), (84, .iconst 0, 1), (85, .putfield 35, 3), (88, .aload_n 0, 1), (89, .getfield 41, 3), (92, .iconst 3, 1), (93, .if_icmp .ne 14, 3)]), (96, [(96, .aload_n 0, 1), (97, .getfield 44, 3), (100, .ifCond .ne 7, 3)]), (103, [(103, .iconst 1, 1), (104, .goto 4, 3)]), (107, [(107, .iconst 0, 1)]), (108, [(108, .istore_n 1, 1), (109, .iload_n 1, 1), (110, .ifCond .eq 11, 3)]), (113, [(113, .aload_n 0, 1), (114, .iconst 1, 1), (115, .putfield 44, 3), (118, .goto 15, 3)]), (121, [(121, .aload_n 0, 1), (122, .getfield 41, 3), (125, .ifCond .ne 8, 3)]), (128, [(128, .aload_n 0, 1), (129, .iconst 0, 1), (130, .putfield 44, 3)]), (133, [(133, .iload_n 1, 1), (134, .ireturn, 1)])]
set_option maxRecDepth 100000 in
theorem pq_X3_tickWatch_108  (b0 : Int32) (s : Nat → Int32) (l : Nat → Int64) (x : Nat → Int32) (y : Nat → Int64) : pl_X3_tickWatch_108 b0 s l x y = pj_bl px_X3_tickWatch (pj_rn px_X3_tickWatch (pj_as pk_X3_tickWatch) (fun _ => none) 60) [(108, .istore_n 1, 1), (109, .iload_n 1, 1), (110, .ifCond .eq 11, 3)] 108 [(0, pj_O (83, 0))] [pj_I b0] (s, l, x, y) := rfl
set_option maxRecDepth 100000 in
theorem pq_X3_tickWatch_107   (s : Nat → Int32) (l : Nat → Int64) (x : Nat → Int32) (y : Nat → Int64) : pl_X3_tickWatch_107 s l x y = pj_bl px_X3_tickWatch (pj_rn px_X3_tickWatch (pj_as pk_X3_tickWatch) (pj_as [(108, pe_X3_tickWatch_108 (pl_X3_tickWatch_108))]) 60) [(107, .iconst 0, 1)] 107 [(0, pj_O (83, 0))] [] (s, l, x, y) := rfl
set_option maxRecDepth 100000 in
theorem pq_X3_tickWatch_60  (b1 : Int64) (s : Nat → Int32) (l : Nat → Int64) (x : Nat → Int32) (y : Nat → Int64) : pl_X3_tickWatch_60 b1 s l x y = pj_bl px_X3_tickWatch (pj_rn px_X3_tickWatch (pj_as pk_X3_tickWatch) (pj_as [(107, pe_X3_tickWatch_107 (pl_X3_tickWatch_107)), (108, pe_X3_tickWatch_108 (pl_X3_tickWatch_108))]) 60) [(60, .iconst 0, 1), (61, .iconst 5, 1), (62, .invokestatic 82, 3), (65, .putfield 41, 3), (68, .aload_n 0, 1), (69, .iconst 5, 1), (70, .aload_n 0, 1), (71, .getfield 32, 3), (74, .imul, 1), (75, .iconst 1, 1), (76, .iadd, 1), (77, .bipush 16, 2), (79, .irem, 1), (80, .putfield 32, 3), (83, .aload_n 0, 1), (84, .iconst 0, 1), (85, .putfield 35, 3), (88, .aload_n 0, 1), (89, .getfield 41, 3), (92, .iconst 3, 1), (93, .if_icmp .ne 14, 3)] 60 [(0, pj_O (83, 0))] [pj_L b1, pj_O (83, 0)] (s, l, x, y) := rfl
set_option maxRecDepth 100000 in
theorem pq_X3_tickWatch_m   (s : Nat → Int32) (l : Nat → Int64) (x : Nat → Int32) (y : Nat → Int64) : pf_X3_tickWatch  s l x y = pj_bl px_X3_tickWatch (pj_rn px_X3_tickWatch (pj_as pk_X3_tickWatch) (pj_as [(60, pe_X3_tickWatch_60 (pl_X3_tickWatch_60))]) 60) [(0, .aload_n 0, 1), (1, .getfield 29, 3), (4, .ifCond .ne 5, 3)] 0 [(0, pj_O (83, 0))] [] (s, l, x, y) := rfl
theorem pu_X3_tickWatch_60 {lf : pj_Z → mj_M} {a : Int32 × pj_Z} (f : Int64 → pj_F (Int32 × pj_Z)) (hf : ∀ (b1 : Int64) (s : Nat → Int32) (l : Nat → Int64) (x : Nat → Int32) (y : Nat → Int64), f b1 s l x y = some a → pm_Gd 1 3006 ie_X3_tickWatch.1 pm_rI lf 60 [(0, .ref 83)] [.long b1, .ref 83] (s, l, x, y) a) : pm_Ex 1 3006 ie_X3_tickWatch.1 pm_rI lf a 60 (pe_X3_tickWatch_60 f) := by
  intro lv st z hd h
  obtain ⟨g0, h⟩ := pj_xr_inv h
  obtain ⟨b1, r1, e1, h⟩ := pj_pl_inv h
  obtain ⟨r0, e0, h⟩ := pj_pr_inv h
  obtain ⟨e9, h⟩ := pj_pe_inv h
  rw [e1, e0, e9]
  exact mj_wp_sub (mj_sub_cons g0 (mj_sub_nil hd)) (hf _ _ _ _ _ h)
theorem pu_X3_tickWatch_107 {lf : pj_Z → mj_M} {a : Int32 × pj_Z} (f : pj_F (Int32 × pj_Z)) (hf : ∀  (s : Nat → Int32) (l : Nat → Int64) (x : Nat → Int32) (y : Nat → Int64), f  s l x y = some a → pm_Gd 1 3006 ie_X3_tickWatch.1 pm_rI lf 107 [(0, .ref 83)] [] (s, l, x, y) a) : pm_Ex 1 3006 ie_X3_tickWatch.1 pm_rI lf a 107 (pe_X3_tickWatch_107 f) := by
  intro lv st z hd h
  obtain ⟨g0, h⟩ := pj_xr_inv h
  obtain ⟨e9, h⟩ := pj_pe_inv h
  rw [e9]
  exact mj_wp_sub (mj_sub_cons g0 (mj_sub_nil hd)) (hf  _ _ _ _ h)
theorem pu_X3_tickWatch_108 {lf : pj_Z → mj_M} {a : Int32 × pj_Z} (f : Int32 → pj_F (Int32 × pj_Z)) (hf : ∀ (b0 : Int32) (s : Nat → Int32) (l : Nat → Int64) (x : Nat → Int32) (y : Nat → Int64), f b0 s l x y = some a → pm_Gd 1 3006 ie_X3_tickWatch.1 pm_rI lf 108 [(0, .ref 83)] [.int b0] (s, l, x, y) a) : pm_Ex 1 3006 ie_X3_tickWatch.1 pm_rI lf a 108 (pe_X3_tickWatch_108 f) := by
  intro lv st z hd h
  obtain ⟨g0, h⟩ := pj_xr_inv h
  obtain ⟨b0, r0, e0, h⟩ := pj_pi_inv h
  obtain ⟨e9, h⟩ := pj_pe_inv h
  rw [e0, e9]
  exact mj_wp_sub (mj_sub_cons g0 (mj_sub_nil hd)) (hf _ _ _ _ _ h)
set_option maxRecDepth 100000 in
theorem pz_X3_tickWatch {lf : pj_Z → mj_M} (hT : pj_Lt pj_TC lf) : pj_Cok ic_P (mj_R ic_P 1) 3006 ie_X3_tickWatch.1 (pm_OK lf pm_rI) lf px_X3_tickWatch := by
  exact pm_cok (c := px_X3_tickWatch) (pm_part hT (pj_as_all (p := fun b e => pj_TC b = some e) (List.forall_mem_cons.mpr ⟨rfl, (fun _ h => by cases h)⟩))) (pm_in_ok (L := [(29, 3, 4, 3, false), (32, 3, 5, 0, false), (35, 3, 6, 3, false), (38, 3, 7, 0, false), (41, 3, 8, 0, false), (44, 3, 9, 3, false)]) (f := mj_pF ic_P 3006) (by decide +kernel)) (fun _ _ h => by cases h) (fun _ _ h => by cases h) (fun _ _ h => by cases h) rfl rfl ⟨by decide, rfl⟩ pm_mI (pj_as_all (p := pm_Cl 1 3006 ie_X3_tickWatch.1 lf (pm_OK lf pm_rI)) (List.forall_mem_cons.mpr ⟨fun _ _ lv st z K a hK h => pc_X11_clip hT (by decide) (ix := 82) rfl rfl hK h, (fun _ h => by cases h)⟩)) (fun _ h => by cases h)
set_option maxRecDepth 100000 in
theorem pb_X3_tickWatch : pm_bks ie_X3_tickWatch.1.2.2.2.2 pk_X3_tickWatch = true := by decide +kernel
set_option maxRecDepth 100000 in
theorem pg_X3_tickWatch_108 {lf : pj_Z → mj_M} (hT : pj_Lt pj_TC lf) : ∀ (b0 : Int32) (s : Nat → Int32) (l : Nat → Int64) (x : Nat → Int32) (y : Nat → Int64) (a : Int32 × pj_Z), pl_X3_tickWatch_108 b0 s l x y = some a → pm_Gd 1 3006 ie_X3_tickWatch.1 pm_rI lf 108 [(0, .ref 83)] [.int b0] (s, l, x, y) a := by
  intro b0 s l x y a h
  exact pm_run ((pq_X3_tickWatch_108  b0 s l x y).symm.trans h) (pz_X3_tickWatch hT) (pm_bks_ok pb_X3_tickWatch) (pm_bks_ok pb_X3_tickWatch _ _ rfl) (pm_ndb_ok rfl) (fun _ _ h => by cases h)
set_option maxRecDepth 100000 in
theorem pg_X3_tickWatch_107 {lf : pj_Z → mj_M} (hT : pj_Lt pj_TC lf) : ∀  (s : Nat → Int32) (l : Nat → Int64) (x : Nat → Int32) (y : Nat → Int64) (a : Int32 × pj_Z), pl_X3_tickWatch_107 s l x y = some a → pm_Gd 1 3006 ie_X3_tickWatch.1 pm_rI lf 107 [(0, .ref 83)] [] (s, l, x, y) a := by
  intro  s l x y a h
  exact pm_run ((pq_X3_tickWatch_107   s l x y).symm.trans h) (pz_X3_tickWatch hT) (pm_bks_ok pb_X3_tickWatch) (pm_bks_ok pb_X3_tickWatch _ _ rfl) (pm_ndb_ok rfl) (pj_as_all (p := pm_Ex 1 3006 ie_X3_tickWatch.1 pm_rI lf a) (List.forall_mem_cons.mpr ⟨pu_X3_tickWatch_108 _ (fun c0 s l x y h => pg_X3_tickWatch_108 hT c0 s l x y _ h), (fun _ h => by cases h)⟩))
set_option maxRecDepth 100000 in
theorem pg_X3_tickWatch_60 {lf : pj_Z → mj_M} (hT : pj_Lt pj_TC lf) : ∀ (b1 : Int64) (s : Nat → Int32) (l : Nat → Int64) (x : Nat → Int32) (y : Nat → Int64) (a : Int32 × pj_Z), pl_X3_tickWatch_60 b1 s l x y = some a → pm_Gd 1 3006 ie_X3_tickWatch.1 pm_rI lf 60 [(0, .ref 83)] [.long b1, .ref 83] (s, l, x, y) a := by
  intro b1 s l x y a h
  exact pm_run ((pq_X3_tickWatch_60  b1 s l x y).symm.trans h) (pz_X3_tickWatch hT) (pm_bks_ok pb_X3_tickWatch) (pm_bks_ok pb_X3_tickWatch _ _ rfl) (pm_ndb_ok rfl) (pj_as_all (p := pm_Ex 1 3006 ie_X3_tickWatch.1 pm_rI lf a) (List.forall_mem_cons.mpr ⟨pu_X3_tickWatch_107 _ (fun  s l x y h => pg_X3_tickWatch_107 hT  s l x y _ h), (List.forall_mem_cons.mpr ⟨pu_X3_tickWatch_108 _ (fun c0 s l x y h => pg_X3_tickWatch_108 hT c0 s l x y _ h), (fun _ h => by cases h)⟩)⟩))
set_option maxRecDepth 100000 in
theorem pm_X3_tickWatch {lf : pj_Z → mj_M} (hT : pj_Lt pj_TC lf)  (s : Nat → Int32) (l : Nat → Int64) (x : Nat → Int32) (y : Nat → Int64) (a : Int32 × pj_Z) (h : pf_X3_tickWatch  s l x y = some a) : mj_R ic_P 2 3006 [.ref 83] (lf (s, l, x, y)) (pm_rI a.1) (lf a.2) := by
  refine pm_main (Y := ie_X3_tickWatch.1) rfl (Nat.le_of_ble_eq_true rfl) ?_
  exact pm_run ((pq_X3_tickWatch_m  s l x y).symm.trans h) (pz_X3_tickWatch hT) (pm_bks_ok pb_X3_tickWatch) (pm_bks_ok pb_X3_tickWatch _ _ rfl) (pm_ndb_ok rfl) (pj_as_all (p := pm_Ex 1 3006 ie_X3_tickWatch.1 pm_rI lf a) (List.forall_mem_cons.mpr ⟨pu_X3_tickWatch_60 _ (fun c0 s l x y h => pg_X3_tickWatch_60 hT c0 s l x y _ h), (fun _ h => by cases h)⟩))
abbrev ph_X3_tickWatch {A : Type} : List pj_V → pj_Z → (List pj_V → pj_Z → Option A) → Option A := fun st z K => pj_pr st 83 0 fun st => pj_ps st (pj_b (pf_X3_tickWatch  z.1 z.2.1 z.2.2.1 z.2.2.2) fun r s l x y => K (pj_I r :: st) (s, l, x, y))
set_option maxRecDepth 100000 in
theorem pc_X3_tickWatch {A : Type} {OK : A → Option Value → mj_M → Prop} {d j pc ix : Nat} {Y : mj_Y} {lf : pj_Z → mj_M} (hT : pj_Lt pj_TC lf) (hd : 2 ≤ d) (hl : mj_lk Y.2.2.2.2 pc = some (.invokevirtual ix, 3)) (hg : mj_pG ic_P j ix = some (3006, 0, some 3)) {lv : List (Nat × Value)} {st : List pj_V} {z : pj_Z} {K : List pj_V → pj_Z → Option A} {a : A} (hK : ∀ st z, K st z = some a → pj_Gd ic_P (mj_R ic_P d) j Y OK lf (pc + 3) lv (pj_es st) z a) (h : ph_X3_tickWatch st z K = some a) : pj_Gd ic_P (mj_R ic_P d) j Y OK lf pc lv (pj_es st) z a := by
  obtain ⟨r0, e0, h⟩ := pj_pr_inv h
  obtain ⟨hs, h⟩ := pj_ps_inv h
  obtain ⟨q, hq, h⟩ := pj_b_inv h
  exact pm_cv (o := 83) hl hg [] rfl (by rw [e0]; rfl) hs (by decide) ((hT.2 83 _ rfl).1.2 z 0 (by decide)) (pm_rI q.1) hd (pm_X3_tickWatch hT  z.1 z.2.1 z.2.2.1 z.2.2.2 q hq) rfl (hK _ _ h)
abbrev pe_X3_isOver_16 (f : pj_F (Int32 × pj_Z)) : pj_K (Int32 × pj_Z) := fun lv st z => pj_pe st (f  z.1 z.2.1 z.2.2.1 z.2.2.2)
abbrev px_X3_isOver : pj_C (Int32 × pj_Z) := ((fun _ => none), (fun _ => none), (fun _ => none), (fun _ => none), (fun _ => none), ic_X, 3, 2, pj_mI, (fun _ => none), fun _ => false)
abbrev pk_X3_isOver : List (Nat × List (Nat × Instr × Nat)) := [(0, [(0, .iload_n 1, 1), (1, .iload_n 2, 1), (2, .if_icmp .ge 14, 3)]), (5, [(5, .iload_n 0, 1), (6, .ifCond .eq 14, 3)]), (9, [(9, .iload_n 1, 1), (10, .iload_n 2, 1), (11, .iconst 5, 1), (12, .isub, 1), (13, .if_icmp .lt 7, 3)]), (16, [(16, .iconst 1, 1), (17, .goto 4, 3)]), (20, [(20, .iconst 0, 1)]), (21, [(21, .ireturn, 1)])]
set_option maxRecDepth 100000 in
theorem pq_X3_isOver_16   (s : Nat → Int32) (l : Nat → Int64) (x : Nat → Int32) (y : Nat → Int64) : pl_X3_isOver_16 s l x y = pj_bl px_X3_isOver (pj_rn px_X3_isOver (pj_as pk_X3_isOver) (fun _ => none) 60) [(16, .iconst 1, 1), (17, .goto 4, 3)] 16 [] [] (s, l, x, y) := rfl
set_option maxRecDepth 100000 in
theorem pq_X3_isOver_m  (a0 : Int32) (a1 : Int32) (a2 : Int32) (s : Nat → Int32) (l : Nat → Int64) (x : Nat → Int32) (y : Nat → Int64) : pf_X3_isOver a0 a1 a2 s l x y = pj_bl px_X3_isOver (pj_rn px_X3_isOver (pj_as pk_X3_isOver) (pj_as [(16, pe_X3_isOver_16 (pl_X3_isOver_16))]) 60) [(0, .iload_n 1, 1), (1, .iload_n 2, 1), (2, .if_icmp .ge 14, 3)] 0 [(0, pj_I a0), (1, pj_I a1), (2, pj_I a2)] [] (s, l, x, y) := rfl
theorem pu_X3_isOver_16 {lf : pj_Z → mj_M} {a : Int32 × pj_Z} (f : pj_F (Int32 × pj_Z)) (hf : ∀  (s : Nat → Int32) (l : Nat → Int64) (x : Nat → Int32) (y : Nat → Int64), f  s l x y = some a → pm_Gd 0 3008 ie_X3_isOver.1 pm_rI lf 16 [] [] (s, l, x, y) a) : pm_Ex 0 3008 ie_X3_isOver.1 pm_rI lf a 16 (pe_X3_isOver_16 f) := by
  intro lv st z hd h
  obtain ⟨e9, h⟩ := pj_pe_inv h
  rw [e9]
  exact mj_wp_sub (mj_sub_nil hd) (hf  _ _ _ _ h)
set_option maxRecDepth 100000 in
theorem pz_X3_isOver {lf : pj_Z → mj_M} (hT : pj_Lt pj_TC lf) : pj_Cok ic_P (mj_R ic_P 0) 3008 ie_X3_isOver.1 (pm_OK lf pm_rI) lf px_X3_isOver := by
  exact pm_cok (c := px_X3_isOver) (pm_none hT) (fun _ _ h => by cases h) (fun _ _ h => by cases h) (fun _ _ h => by cases h) (fun _ _ h => by cases h) rfl rfl ⟨by decide, rfl⟩ pm_mI (fun _ _ h => by cases h) (fun _ h => by cases h)
set_option maxRecDepth 100000 in
theorem pb_X3_isOver : pm_bks ie_X3_isOver.1.2.2.2.2 pk_X3_isOver = true := by decide +kernel
set_option maxRecDepth 100000 in
theorem pg_X3_isOver_16 {lf : pj_Z → mj_M} (hT : pj_Lt pj_TC lf) : ∀  (s : Nat → Int32) (l : Nat → Int64) (x : Nat → Int32) (y : Nat → Int64) (a : Int32 × pj_Z), pl_X3_isOver_16 s l x y = some a → pm_Gd 0 3008 ie_X3_isOver.1 pm_rI lf 16 [] [] (s, l, x, y) a := by
  intro  s l x y a h
  exact pm_run ((pq_X3_isOver_16   s l x y).symm.trans h) (pz_X3_isOver hT) (pm_bks_ok pb_X3_isOver) (pm_bks_ok pb_X3_isOver _ _ rfl) (pm_ndb_ok rfl) (fun _ _ h => by cases h)
set_option maxRecDepth 100000 in
theorem pm_X3_isOver {lf : pj_Z → mj_M} (hT : pj_Lt pj_TC lf) (a0 : Int32) (a1 : Int32) (a2 : Int32) (s : Nat → Int32) (l : Nat → Int64) (x : Nat → Int32) (y : Nat → Int64) (a : Int32 × pj_Z) (h : pf_X3_isOver a0 a1 a2 s l x y = some a) : mj_R ic_P 1 3008 [.int a0, .int a1, .int a2] (lf (s, l, x, y)) (pm_rI a.1) (lf a.2) := by
  refine pm_main (Y := ie_X3_isOver.1) rfl (Nat.le_of_ble_eq_true rfl) ?_
  exact pm_run ((pq_X3_isOver_m a0 a1 a2 s l x y).symm.trans h) (pz_X3_isOver hT) (pm_bks_ok pb_X3_isOver) (pm_bks_ok pb_X3_isOver _ _ rfl) (pm_ndb_ok rfl) (pj_as_all (p := pm_Ex 0 3008 ie_X3_isOver.1 pm_rI lf a) (List.forall_mem_cons.mpr ⟨pu_X3_isOver_16 _ (fun  s l x y h => pg_X3_isOver_16 hT  s l x y _ h), (fun _ h => by cases h)⟩))
abbrev ph_X3_isOver {A : Type} : List pj_V → pj_Z → (List pj_V → pj_Z → Option A) → Option A := fun st z K => pj_pi st fun a2 st => pj_pi st fun a1 st => pj_pi st fun a0 st => pj_ps st (pj_b (pf_X3_isOver a0 a1 a2 z.1 z.2.1 z.2.2.1 z.2.2.2) fun r s l x y => K (pj_I r :: st) (s, l, x, y))
set_option maxRecDepth 100000 in
theorem pc_X3_isOver {A : Type} {OK : A → Option Value → mj_M → Prop} {d j pc ix : Nat} {Y : mj_Y} {lf : pj_Z → mj_M} (hT : pj_Lt pj_TC lf) (hd : 1 ≤ d) (hl : mj_lk Y.2.2.2.2 pc = some (.invokestatic ix, 3)) (hg : mj_pG ic_P j ix = some (3008, 3, none)) {lv : List (Nat × Value)} {st : List pj_V} {z : pj_Z} {K : List pj_V → pj_Z → Option A} {a : A} (hK : ∀ st z, K st z = some a → pj_Gd ic_P (mj_R ic_P d) j Y OK lf (pc + 3) lv (pj_es st) z a) (h : ph_X3_isOver st z K = some a) : pj_Gd ic_P (mj_R ic_P d) j Y OK lf pc lv (pj_es st) z a := by
  obtain ⟨a2, r2, e2, h⟩ := pj_pi_inv h
  obtain ⟨a1, r1, e1, h⟩ := pj_pi_inv h
  obtain ⟨a0, r0, e0, h⟩ := pj_pi_inv h
  obtain ⟨hs, h⟩ := pj_ps_inv h
  obtain ⟨q, hq, h⟩ := pj_b_inv h
  exact pm_cs hl hg [.int a0, .int a1, .int a2] rfl (by rw [e2, e1, e0]; rfl) hs (pm_rI q.1) hd (pm_X3_isOver hT a0 a1 a2 z.1 z.2.1 z.2.2.1 z.2.2.2 q hq) rfl (hK _ _ h)

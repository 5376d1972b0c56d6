/-! METHODS 31, printed by gen_meth.py -/
abbrev pe_X12_build_34 (f : Int32 → pj_F (Int32 × pj_Z)) : pj_K (Int32 × pj_Z) := fun lv st z => pj_xr lv 0 124 0 <| pj_xi lv 2 fun a2 => pj_pe st (f a2 z.1 z.2.1 z.2.2.1 z.2.2.2)
abbrev px_X12_build : pj_C (Int32 × pj_Z) := (pj_TR, (pj_as [(215, 12, 175, 2, true), (218, 12, 176, 2, true), (221, 12, 179, 2, true), (224, 12, 180, 2, true), (259, 12, 0, 0, false), (1059, 12, 173, 0, false), (1062, 12, 181, 0, false), (1107, 12, 178, 0, false), (1113, 12, 177, 0, false)]), (fun _ => none), (fun _ => none), (fun _ => none), ic_X, 3, 1, pj_mI, (pj_as [(6, ph_X12_readText)]), fun _ => false)
abbrev pk_X12_build : List (Nat × List (Nat × Instr × Nat)) := [(0, [(0, .aload_n 0, 1), (1, .iconst 0, 1), (2, .putfield 259, 3), (5, .aload_n 0, 1), (6, .invokevirtual 1110, 3), (9, .istore_n 1, 1), (10, .aload_n 0, 1), (11, .iconst 0, 1), (12, .putfield 1059, 3), (15, .iload_n 1, 1), (16, .iconst (-1), 1), (17, .if_icmp .eq 7, 3)]), (20, [(20, .iconst (-1), 1), (21, .iload_n 1, 1), (22, .isub, 1), (23, .ireturn, 1)]), (24, [(24, .aload_n 0, 1), (25, .aload_n 0, 1), (26, .getfield 1062, 3), (29, .putfield 1113, 3), (32, .iconst 0, 1), (33, .istore_n 2, 1)]), (34, [(34, .iload_n 2, 1), (35, .aload_n 0, 1), (36, .getfield 1113, 3), (39, .if_icmp .ge 33, 3)]), (42, [(42, .aload_n 0, 1), (43, .getfield 215, 3), (46, .iload_n 2, 1), (47, .aload_n 0, 1), (48, .getfield 221, 3), (51, .iload_n 2, 1), (52, .iaload, 1), (53, .iastore, 1), (54, .aload_n 0, 1), (55, .getfield 218, 3), (58, .iload_n 2, 1), (59, .aload_n 0, 1), (60, .getfield 224, 3), (63, .iload_n 2, 1), (64, .iaload, 1), (65, .iastore, 1), (66, .iinc 2 1, 3), (69, .goto (-35), 3)]), (72, [(72, .aload_n 0, 1), (73, .getfield 1107, 3), (76, .ireturn, 1)])]
set_option maxRecDepth 100000 in
theorem pq_X12_build_34 (n : Nat) (a2 : Int32) (s : Nat → Int32) (l : Nat → Int64) (x : Nat → Int32) (y : Nat → Int64) : pl_X12_build_34 (n + 1) a2 s l x y = pj_bl px_X12_build (pj_rn px_X12_build (pj_as pk_X12_build) (pj_as [(34, pe_X12_build_34 (pl_X12_build_34 n))]) 60) [(34, .iload_n 2, 1), (35, .aload_n 0, 1), (36, .getfield 1113, 3), (39, .if_icmp .ge 33, 3)] 34 [(0, pj_O (124, 0)), (2, pj_I a2)] [] (s, l, x, y) := rfl
set_option maxRecDepth 100000 in
theorem pq_X12_build_m  (s : Nat → Int32) (l : Nat → Int64) (x : Nat → Int32) (y : Nat → Int64) : pf_X12_build  s l x y = pj_bl px_X12_build (pj_rn px_X12_build (pj_as pk_X12_build) (pj_as [(34, pe_X12_build_34 (pl_X12_build_34 (pj_fu 0)))]) 60) [(0, .aload_n 0, 1), (1, .iconst 0, 1), (2, .putfield 259, 3), (5, .aload_n 0, 1), (6, .invokevirtual 1110, 3), (9, .istore_n 1, 1), (10, .aload_n 0, 1), (11, .iconst 0, 1), (12, .putfield 1059, 3), (15, .iload_n 1, 1), (16, .iconst (-1), 1), (17, .if_icmp .eq 7, 3)] 0 [(0, pj_O (124, 0))] [] (s, l, x, y) := rfl
theorem pu_X12_build_34 {lf : pj_Z → mj_M} {a : Int32 × pj_Z} (f : Int32 → pj_F (Int32 × pj_Z)) (hf : ∀ (a2 : Int32) (s : Nat → Int32) (l : Nat → Int64) (x : Nat → Int32) (y : Nat → Int64), f a2 s l x y = some a → pm_Gd 4 12162 ie_X12_build.1 pm_rI lf 34 [(0, .ref 124), (2, .int a2)] [] (s, l, x, y) a) : pm_Ex 4 12162 ie_X12_build.1 pm_rI lf a 34 (pe_X12_build_34 f) := by
  intro lv st z hd h
  obtain ⟨g0, h⟩ := pj_xr_inv h
  obtain ⟨a2, g2, h⟩ := pj_xi_inv h
  obtain ⟨e9, h⟩ := pj_pe_inv h
  rw [e9]
  exact mj_wp_sub (mj_sub_cons g0 (mj_sub_cons g2 (mj_sub_nil hd))) (hf _ _ _ _ _ h)
set_option maxRecDepth 100000 in
theorem pz_X12_build {lf : pj_Z → mj_M} (hT : pj_Lt pj_TR lf) : pj_Cok ic_P (mj_R ic_P 4) 12162 ie_X12_build.1 (pm_OK lf pm_rI) lf px_X12_build := by
  exact pm_cok (c := px_X12_build) hT (pm_in_ok (L := [(215, 12, 175, 2, true), (218, 12, 176, 2, true), (221, 12, 179, 2, true), (224, 12, 180, 2, true), (259, 12, 0, 0, false), (1059, 12, 173, 0, false), (1062, 12, 181, 0, false), (1107, 12, 178, 0, false), (1113, 12, 177, 0, false)]) (f := mj_pF ic_P 12162) (by decide +kernel)) (fun _ _ h => by cases h) (fun _ _ h => by cases h) (fun _ _ h => by cases h) rfl rfl ⟨by decide, rfl⟩ pm_mI (pj_as_all (p := pm_Cl 4 12162 ie_X12_build.1 lf (pm_OK lf pm_rI)) (List.forall_mem_cons.mpr ⟨fun _ _ lv st z K a hK h => pc_X12_readText hT (by decide) (ix := 1110) rfl rfl hK h, (fun _ h => by cases h)⟩)) (fun _ h => by cases h)
set_option maxRecDepth 100000 in
theorem pb_X12_build : pm_bks ie_X12_build.1.2.2.2.2 pk_X12_build = true := by decide +kernel
set_option maxRecDepth 100000 in
theorem pg_X12_build_34 {lf : pj_Z → mj_M} (hT : pj_Lt pj_TR lf) : ∀ (n : Nat), ∀ (a2 : Int32) (s : Nat → Int32) (l : Nat → Int64) (x : Nat → Int32) (y : Nat → Int64) (a : Int32 × pj_Z), pl_X12_build_34 n a2 s l x y = some a → pm_Gd 4 12162 ie_X12_build.1 pm_rI lf 34 [(0, .ref 124), (2, .int a2)] [] (s, l, x, y) a := by
  intro n
  induction n with
  | zero => intro a2 s l x y a h; cases (show (none : Option (Int32 × pj_Z)) = some a from h)
  | succ n ih =>
    intro a2 s l x y a h
    exact pj_bl_ok (pz_X12_build hT) (fun t lv st z hd h => pj_rn_ok (pz_X12_build hT) (pm_bks_ok pb_X12_build) (pj_as_all (p := pm_Ex 4 12162 ie_X12_build.1 pm_rI lf a) (List.forall_mem_cons.mpr ⟨pu_X12_build_34 _ (fun c0 s l x y h => ih c0 s l x y _ h), (fun _ h => by cases h)⟩)) 60 t lv st z hd h) [(34, .iload_n 2, 1), (35, .aload_n 0, 1), (36, .getfield 1113, 3), (39, .if_icmp .ge 33, 3)] 34 [(0, pj_O (124, 0)), (2, pj_I a2)] [] (s, l, x, y) (pm_bks_ok pb_X12_build _ _ rfl) (pm_ndb_ok rfl) ((pq_X12_build_34 n a2 s l x y).symm.trans h)
set_option maxRecDepth 100000 in
theorem pm_X12_build {lf : pj_Z → mj_M} (hT : pj_Lt pj_TR lf)  (s : Nat → Int32) (l : Nat → Int64) (x : Nat → Int32) (y : Nat → Int64) (a : Int32 × pj_Z) (h : pf_X12_build  s l x y = some a) : mj_R ic_P 5 12162 [.ref 124] (lf (s, l, x, y)) (pm_rI a.1) (lf a.2) := by
  refine pm_main (Y := ie_X12_build.1) rfl (Nat.le_of_ble_eq_true rfl) ?_
  exact pj_bl_ok (pz_X12_build hT) (fun t lv st z hd h => pj_rn_ok (pz_X12_build hT) (pm_bks_ok pb_X12_build) (pj_as_all (p := pm_Ex 4 12162 ie_X12_build.1 pm_rI lf a) (List.forall_mem_cons.mpr ⟨pu_X12_build_34 _ (fun c0 s l x y h => pg_X12_build_34 hT (pj_fu 0) c0 s l x y _ h), (fun _ h => by cases h)⟩)) 60 t lv st z hd h) [(0, .aload_n 0, 1), (1, .iconst 0, 1), (2, .putfield 259, 3), (5, .aload_n 0, 1), (6, .invokevirtual 1110, 3), (9, .istore_n 1, 1), (10, .aload_n 0, 1), (11, .iconst 0, 1), (12, .putfield 1059, 3), (15, .iload_n 1, 1), (16, .iconst (-1), 1), (17, .if_icmp .eq 7, 3)] 0 [(0, pj_O (124, 0))] [] (s, l, x, y) (pm_bks_ok pb_X12_build _ _ rfl) (pm_ndb_ok rfl) ((pq_X12_build_m  s l x y).symm.trans h)
abbrev ph_X12_build {A : Type} : List pj_V → pj_Z → (List pj_V → pj_Z → Option A) → Option A := fun st z K => pj_pr st 124 0 fun st => pj_ps st (pj_b (pf_X12_build  z.1 z.2.1 z.2.2.1 z.2.2.2) fun r s l x y => K (pj_I r :: st) (s, l, x, y))
set_option maxRecDepth 100000 in
theorem pc_X12_build {A : Type} {OK : A → Option Value → mj_M → Prop} {d j pc ix : Nat} {Y : mj_Y} {lf : pj_Z → mj_M} (hT : pj_Lt pj_TR lf) (hd : 5 ≤ d) (hl : mj_lk Y.2.2.2.2 pc = some (.invokevirtual ix, 3)) (hg : mj_pG ic_P j ix = some (12162, 0, some 12)) {lv : List (Nat × Value)} {st : List pj_V} {z : pj_Z} {K : List pj_V → pj_Z → Option A} {a : A} (hK : ∀ st z, K st z = some a → pj_Gd ic_P (mj_R ic_P d) j Y OK lf (pc + 3) lv (pj_es st) z a) (h : ph_X12_build st z K = some a) : pj_Gd ic_P (mj_R ic_P d) j Y OK lf pc lv (pj_es st) z a := by
  obtain ⟨r0, e0, h⟩ := pj_pr_inv h
  obtain ⟨hs, h⟩ := pj_ps_inv h
  obtain ⟨q, hq, h⟩ := pj_b_inv h
  exact pm_cv (o := 124) hl hg [] rfl (by rw [e0]; rfl) hs (by decide) ((hT.2 124 _ rfl).1.2 z 0 (by decide)) (pm_rI q.1) hd (pm_X12_build hT  z.1 z.2.1 z.2.2.1 z.2.2.2 q hq) rfl (hK _ _ h)
abbrev pe_X12_record_38 (f : Int32 → Int32 → Int32 → Int32 → pj_F (Unit × pj_Z)) : pj_K (Unit × pj_Z) := fun lv st z => pj_xr lv 0 124 0 <| pj_xi lv 1 fun a1 => pj_xi lv 2 fun a2 => pj_xi lv 3 fun a3 => pj_xi lv 4 fun a4 => pj_pr st 124 0 fun st => pj_pe st (f a1 a2 a3 a4 z.1 z.2.1 z.2.2.1 z.2.2.2)
abbrev pe_X12_record_59 (f : Int32 → Int32 → Int32 → Int32 → Int32 → pj_F (Unit × pj_Z)) : pj_K (Unit × pj_Z) := fun lv st z => pj_xr lv 0 124 0 <| pj_xi lv 1 fun a1 => pj_xi lv 2 fun a2 => pj_xi lv 3 fun a3 => pj_xi lv 4 fun a4 => pj_pi st fun b1 st => pj_pr st 124 0 fun st => pj_pe st (f a1 a2 a3 a4 b1 z.1 z.2.1 z.2.2.1 z.2.2.2)
abbrev px_X12_record : pj_C (Unit × pj_Z) := (pj_TR, (pj_as [(239, 12, 190, 2, true), (242, 12, 192, 0, false), (259, 12, 0, 0, false), (414, 12, 188, 3, false), (1122, 12, 189, 0, false), (1125, 12, 191, 3, false), (1128, 12, 193, 1, false)]), (fun _ => none), (pj_as [(574, 100), (958, 79)]), (fun _ => none), ic_X, 5, 0, pj_mU, (pj_as [(7, ph_X12_isIn), (19, ph_X12_isIn), (32, ph_X12_isIn), (48, ph_X12_isIn)]), fun _ => false)
abbrev pk_X12_record : List (Nat × List (Nat × Instr × Nat)) := [(0, [(0, .aload_n 0, 1), (1, .iload_n 2, 1), (2, .i2l, 1), (3, .lconst 0, 1), (4, .ldc2_w 958, 3), (7, .invokestatic 568, 3), (10, .ifCond .eq 28, 3)]), (13, [(13, .iload_n 3, 1), (14, .i2l, 1), (15, .lconst 0, 1), (16, .ldc2_w 958, 3), (19, .invokestatic 568, 3), (22, .ifCond .eq 16, 3)]), (25, [(25, .iload 4, 2), (27, .i2l, 1), (28, .lconst 0, 1), (29, .ldc2_w 958, 3), (32, .invokestatic 568, 3), (35, .ifCond .ne 7, 3)]), (38, [(38, .iconst 1, 1), (39, .goto 20, 3)]), (42, [(42, .iload_n 1, 1), (43, .i2l, 1), (44, .lconst 1, 1), (45, .ldc2_w 574, 3), (48, .invokestatic 568, 3), (51, .ifCond .ne 7, 3)]), (54, [(54, .iconst 2, 1), (55, .goto 4, 3)]), (58, [(58, .iconst 0, 1)]), (59, [(59, .putfield 259, 3), (62, .aload_n 0, 1), (63, .getfield 259, 3), (66, .ifCond .le 4, 3)]), (69, [(69, .return_, 1)]), (70, [(70, .aload_n 0, 1), (71, .iload_n 1, 1), (72, .putfield 1122, 3), (75, .aload_n 0, 1), (76, .getfield 239, 3), (79, .iconst 0, 1), (80, .iload_n 2, 1), (81, .iastore, 1), (82, .aload_n 0, 1), (83, .getfield 239, 3), (86, .iconst 1, 1), (87, .iload_n 3, 1), (88, .iastore, 1), (89, .aload_n 0, 1), (90, .getfield 239, 3), (93, .iconst 2, 1), (94, .iload 4, 2), (96, .iastore, 1), (97, .aload_n 0, 1), (98, .iconst 1, 1), (99, .putfield 1125, 3), (102, .aload_n 0, 1), (103, .lconst 0, 1), (104, .putfield 1128, 3), (107, .aload_n 0, 1), (108, .iconst (-1), 1), (109, .putfield 242, 3), (112, .aload_n 0, 1), (113, .iconst 0, 1), (114, .putfield 414, 3), (117, .return_, 1)])]
set_option maxRecDepth 100000 in
theorem pq_X12_record_59 (a1 : Int32) (a2 : Int32) (a3 : Int32) (a4 : Int32) (b1 : Int32) (s : Nat → Int32) (l : Nat → Int64) (x : Nat → Int32) (y : Nat → Int64) : pl_X12_record_59 a1 a2 a3 a4 b1 s l x y = pj_bl px_X12_record (pj_rn px_X12_record (pj_as pk_X12_record) (fun _ => none) 60) [(59, .putfield 259, 3), (62, .aload_n 0, 1), (63, .getfield 259, 3), (66, .ifCond .le 4, 3)] 59 [(0, pj_O (124, 0)), (1, pj_I a1), (2, pj_I a2), (3, pj_I a3), (4, pj_I a4)] [pj_I b1, pj_O (124, 0)] (s, l, x, y) := rfl
set_option maxRecDepth 100000 in
theorem pq_X12_record_38 (a1 : Int32) (a2 : Int32) (a3 : Int32) (a4 : Int32) (s : Nat → Int32) (l : Nat → Int64) (x : Nat → Int32) (y : Nat → Int64) : pl_X12_record_38 a1 a2 a3 a4 s l x y = pj_bl px_X12_record (pj_rn px_X12_record (pj_as pk_X12_record) (pj_as [(59, pe_X12_record_59 (pl_X12_record_59))]) 60) [(38, .iconst 1, 1), (39, .goto 20, 3)] 38 [(0, pj_O (124, 0)), (1, pj_I a1), (2, pj_I a2), (3, pj_I a3), (4, pj_I a4)] [pj_O (124, 0)] (s, l, x, y) := rfl
set_option maxRecDepth 100000 in
theorem pq_X12_record_m (a1 : Int32) (a2 : Int32) (a3 : Int32) (a4 : Int32) (s : Nat → Int32) (l : Nat → Int64) (x : Nat → Int32) (y : Nat → Int64) : pf_X12_record a1 a2 a3 a4 s l x y = pj_bl px_X12_record (pj_rn px_X12_record (pj_as pk_X12_record) (pj_as [(38, pe_X12_record_38 (pl_X12_record_38)), (59, pe_X12_record_59 (pl_X12_record_59))]) 60) [(0, .aload_n 0, 1), (1, .iload_n 2, 1), (2, .i2l, 1), (3, .lconst 0, 1), (4, .ldc2_w 958, 3), (7, .invokestatic 568, 3), (10, .ifCond .eq 28, 3)] 0 [(0, pj_O (124, 0)), (1, pj_I a1), (2, pj_I a2), (3, pj_I a3), (4, pj_I a4)] [] (s, l, x, y) := rfl
theorem pu_X12_record_38 {lf : pj_Z → mj_M} {a : Unit × pj_Z} (f : Int32 → Int32 → Int32 → Int32 → pj_F (Unit × pj_Z)) (hf : ∀ (a1 : Int32) (a2 : Int32) (a3 : Int32) (a4 : Int32) (s : Nat → Int32) (l : Nat → Int64) (x : Nat → Int32) (y : Nat → Int64), f a1 a2 a3 a4 s l x y = some a → pm_Gd 1 12166 ie_X12_record.1 pm_rU lf 38 [(0, .ref 124), (1, .int a1), (2, .int a2), (3, .int a3), (4, .int a4)] [.ref 124] (s, l, x, y) a) : pm_Ex 1 12166 ie_X12_record.1 pm_rU lf a 38 (pe_X12_record_38 f) := by
  intro lv st z hd h
  obtain ⟨g0, h⟩ := pj_xr_inv h
  obtain ⟨a1, g1, h⟩ := pj_xi_inv h
  obtain ⟨a2, g2, h⟩ := pj_xi_inv h
  obtain ⟨a3, g3, h⟩ := pj_xi_inv h
  obtain ⟨a4, g4, h⟩ := pj_xi_inv h
  obtain ⟨r0, e0, h⟩ := pj_pr_inv h
  obtain ⟨e9, h⟩ := pj_pe_inv h
  rw [e0, e9]
  exact mj_wp_sub (mj_sub_cons g0 (mj_sub_cons g1 (mj_sub_cons g2 (mj_sub_cons g3 (mj_sub_cons g4 (mj_sub_nil hd)))))) (hf _ _ _ _ _ _ _ _ h)
theorem pu_X12_record_59 {lf : pj_Z → mj_M} {a : Unit × pj_Z} (f : Int32 → Int32 → Int32 → Int32 → Int32 → pj_F (Unit × pj_Z)) (hf : ∀ (a1 : Int32) (a2 : Int32) (a3 : Int32) (a4 : Int32) (b1 : Int32) (s : Nat → Int32) (l : Nat → Int64) (x : Nat → Int32) (y : Nat → Int64), f a1 a2 a3 a4 b1 s l x y = some a → pm_Gd 1 12166 ie_X12_record.1 pm_rU lf 59 [(0, .ref 124), (1, .int a1), (2, .int a2), (3, .int a3), (4, .int a4)] [.int b1, .ref 124] (s, l, x, y) a) : pm_Ex 1 12166 ie_X12_record.1 pm_rU lf a 59 (pe_X12_record_59 f) := by
  intro lv st z hd h
  obtain ⟨g0, h⟩ := pj_xr_inv h
  obtain ⟨a1, g1, h⟩ := pj_xi_inv h
  obtain ⟨a2, g2, h⟩ := pj_xi_inv h
  obtain ⟨a3, g3, h⟩ := pj_xi_inv h
  obtain ⟨a4, g4, h⟩ := pj_xi_inv h
  obtain ⟨b1, r1, e1, h⟩ := pj_pi_inv h
  obtain ⟨r0, e0, h⟩ := pj_pr_inv h
  obtain ⟨e9, h⟩ := pj_pe_inv h
  rw [e1, e0, e9]
  exact mj_wp_sub (mj_sub_cons g0 (mj_sub_cons g1 (mj_sub_cons g2 (mj_sub_cons g3 (mj_sub_cons g4 (mj_sub_nil hd)))))) (hf _ _ _ _ _ _ _ _ _ h)
set_option maxRecDepth 100000 in
theorem pz_X12_record {lf : pj_Z → mj_M} (hT : pj_Lt pj_TR lf) : pj_Cok ic_P (mj_R ic_P 1) 12166 ie_X12_record.1 (pm_OK lf pm_rU) lf px_X12_record := by
  exact pm_cok (c := px_X12_record) hT (pm_in_ok (L := [(239, 12, 190, 2, true), (242, 12, 192, 0, false), (259, 12, 0, 0, false), (414, 12, 188, 3, false), (1122, 12, 189, 0, false), (1125, 12, 191, 3, false), (1128, 12, 193, 1, false)]) (f := mj_pF ic_P 12166) (by decide +kernel)) (fun _ _ h => by cases h) (pm_inL_ok (L := [(574, 100), (958, 79)]) (f := mj_pL ic_P 12166) (by decide +kernel)) (fun _ _ h => by cases h) rfl rfl ⟨by decide, rfl⟩ pm_mU (pj_as_all (p := pm_Cl 1 12166 ie_X12_record.1 lf (pm_OK lf pm_rU)) (List.forall_mem_cons.mpr ⟨fun _ _ lv st z K a hK h => pc_X12_isIn hT (by decide) (ix := 568) rfl rfl hK h, (List.forall_mem_cons.mpr ⟨fun _ _ lv st z K a hK h => pc_X12_isIn hT (by decide) (ix := 568) rfl rfl hK h, (List.forall_mem_cons.mpr ⟨fun _ _ lv st z K a hK h => pc_X12_isIn hT (by decide) (ix := 568) rfl rfl hK h, (List.forall_mem_cons.mpr ⟨fun _ _ lv st z K a hK h => pc_X12_isIn hT (by decide) (ix := 568) rfl rfl hK h, (fun _ h => by cases h)⟩)⟩)⟩)⟩)) (fun _ h => by cases h)
set_option maxRecDepth 100000 in
theorem pb_X12_record : pm_bks ie_X12_record.1.2.2.2.2 pk_X12_record = true := by decide +kernel
set_option maxRecDepth 100000 in
theorem pg_X12_record_59 {lf : pj_Z → mj_M} (hT : pj_Lt pj_TR lf) : ∀ (a1 : Int32) (a2 : Int32) (a3 : Int32) (a4 : Int32) (b1 : Int32) (s : Nat → Int32) (l : Nat → Int64) (x : Nat → Int32) (y : Nat → Int64) (a : Unit × pj_Z), pl_X12_record_59 a1 a2 a3 a4 b1 s l x y = some a → pm_Gd 1 12166 ie_X12_record.1 pm_rU lf 59 [(0, .ref 124), (1, .int a1), (2, .int a2), (3, .int a3), (4, .int a4)] [.int b1, .ref 124] (s, l, x, y) a := by
  intro a1 a2 a3 a4 b1 s l x y a h
  exact pj_bl_ok (pz_X12_record hT) (fun t lv st z hd h => pj_rn_ok (pz_X12_record hT) (pm_bks_ok pb_X12_record) (fun _ _ h => by cases h) 60 t lv st z hd h) [(59, .putfield 259, 3), (62, .aload_n 0, 1), (63, .getfield 259, 3), (66, .ifCond .le 4, 3)] 59 [(0, pj_O (124, 0)), (1, pj_I a1), (2, pj_I a2), (3, pj_I a3), (4, pj_I a4)] [pj_I b1, pj_O (124, 0)] (s, l, x, y) (pm_bks_ok pb_X12_record _ _ rfl) (pm_ndb_ok rfl) ((pq_X12_record_59  a1 a2 a3 a4 b1 s l x y).symm.trans h)
set_option maxRecDepth 100000 in
theorem pg_X12_record_38 {lf : pj_Z → mj_M} (hT : pj_Lt pj_TR lf) : ∀ (a1 : Int32) (a2 : Int32) (a3 : Int32) (a4 : Int32) (s : Nat → Int32) (l : Nat → Int64) (x : Nat → Int32) (y : Nat → Int64) (a : Unit × pj_Z), pl_X12_record_38 a1 a2 a3 a4 s l x y = some a → pm_Gd 1 12166 ie_X12_record.1 pm_rU lf 38 [(0, .ref 124), (1, .int a1), (2, .int a2), (3, .int a3), (4, .int a4)] [.ref 124] (s, l, x, y) a := by
  intro a1 a2 a3 a4 s l x y a h
  exact pj_bl_ok (pz_X12_record hT) (fun t lv st z hd h => pj_rn_ok (pz_X12_record hT) (pm_bks_ok pb_X12_record) (pj_as_all (p := pm_Ex 1 12166 ie_X12_record.1 pm_rU lf a) (List.forall_mem_cons.mpr ⟨pu_X12_record_59 _ (fun c0 c1 c2 c3 c4 s l x y h => pg_X12_record_59 hT c0 c1 c2 c3 c4 s l x y _ h), (fun _ h => by cases h)⟩)) 60 t lv st z hd h) [(38, .iconst 1, 1), (39, .goto 20, 3)] 38 [(0, pj_O (124, 0)), (1, pj_I a1), (2, pj_I a2), (3, pj_I a3), (4, pj_I a4)] [pj_O (124, 0)] (s, l, x, y) (pm_bks_ok pb_X12_record _ _ rfl) (pm_ndb_ok rfl) ((pq_X12_record_38  a1 a2 a3 a4 s l x y).symm.trans h)
set_option maxRecDepth 100000 in
theorem pm_X12_record {lf : pj_Z → mj_M} (hT : pj_Lt pj_TR lf) (a1 : Int32) (a2 : Int32) (a3 : Int32) (a4 : Int32) (s : Nat → Int32) (l : Nat → Int64) (x : Nat → Int32) (y : Nat → Int64) (a : Unit × pj_Z) (h : pf_X12_record a1 a2 a3 a4 s l x y = some a) : mj_R ic_P 2 12166 [.ref 124, .int a1, .int a2, .int a3, .int a4] (lf (s, l, x, y)) (pm_rU a.1) (lf a.2) := by
  refine pm_main (Y := ie_X12_record.1) rfl (Nat.le_of_ble_eq_true rfl) ?_
  exact pj_bl_ok (pz_X12_record hT) (fun t lv st z hd h => pj_rn_ok (pz_X12_record hT) (pm_bks_ok pb_X12_record) (pj_as_all (p := pm_Ex 1 12166 ie_X12_record.1 pm_rU lf a) (List.forall_mem_cons.mpr ⟨pu_X12_record_38 _ (fun c0 c1 c2 c3 s l x y h => pg_X12_record_38 hT c0 c1 c2 c3 s l x y _ h), (List.forall_mem_cons.mpr ⟨pu_X12_record_59 _ (fun c0 c1 c2 c3 c4 s l x y h => pg_X12_record_59 hT c0 c1 c2 c3 c4 s l x y _ h), (fun _ h => by cases h)⟩)⟩)) 60 t lv st z hd h) [(0, .aload_n 0, 1), (1, .iload_n 2, 1), (2, .i2l, 1), (3, .lconst 0, 1), (4, .ldc2_w 958, 3), (7, .invokestatic 568, 3), (10, .ifCond .eq 28, 3)] 0 [(0, pj_O (124, 0)), (1, pj_I a1), (2, pj_I a2), (3, pj_I a3), (4, pj_I a4)] [] (s, l, x, y) (pm_bks_ok pb_X12_record _ _ rfl) (pm_ndb_ok rfl) ((pq_X12_record_m a1 a2 a3 a4 s l x y).symm.trans h)
abbrev ph_X12_record {A : Type} : List pj_V → pj_Z → (List pj_V → pj_Z → Option A) → Option A := fun st z K => pj_pi st fun a4 st => pj_pi st fun a3 st => pj_pi st fun a2 st => pj_pi st fun a1 st => pj_pr st 124 0 fun st => pj_ps st (pj_b (pf_X12_record a1 a2 a3 a4 z.1 z.2.1 z.2.2.1 z.2.2.2) fun r s l x y => K st (s, l, x, y))
set_option maxRecDepth 100000 in
theorem pc_X12_record {A : Type} {OK : A → Option Value → mj_M → Prop} {d j pc ix : Nat} {Y : mj_Y} {lf : pj_Z → mj_M} (hT : pj_Lt pj_TR lf) (hd : 2 ≤ d) (hl : mj_lk Y.2.2.2.2 pc = some (.invokevirtual ix, 3)) (hg : mj_pG ic_P j ix = some (12166, 4, some 12)) {lv : List (Nat × Value)} {st : List pj_V} {z : pj_Z} {K : List pj_V → pj_Z → Option A} {a : A} (hK : ∀ st z, K st z = some a → pj_Gd ic_P (mj_R ic_P d) j Y OK lf (pc + 3) lv (pj_es st) z a) (h : ph_X12_record st z K = some a) : pj_Gd ic_P (mj_R ic_P d) j Y OK lf pc lv (pj_es st) z a := by
  obtain ⟨a4, r4, e4, h⟩ := pj_pi_inv h
  obtain ⟨a3, r3, e3, h⟩ := pj_pi_inv h
  obtain ⟨a2, r2, e2, h⟩ := pj_pi_inv h
  obtain ⟨a1, r1, e1, h⟩ := pj_pi_inv h
  obtain ⟨r0, e0, h⟩ := pj_pr_inv h
  obtain ⟨hs, h⟩ := pj_ps_inv h
  obtain ⟨q, hq, h⟩ := pj_b_inv h
  exact pm_cv (o := 124) hl hg [.int a1, .int a2, .int a3, .int a4] rfl (by rw [e4, e3, e2, e1, e0]; rfl) hs (by decide) ((hT.2 124 _ rfl).1.2 z 0 (by decide)) (pm_rU q.1) hd (pm_X12_record hT a1 a2 a3 a4 z.1 z.2.1 z.2.2.1 z.2.2.2 q hq) rfl (hK _ _ h)
abbrev pe_X12_row_28 (f : Int32 → Int32 → pj_F (Int64 × pj_Z)) : pj_K (Int64 × pj_Z) := fun lv st z => pj_xr lv 0 124 0 <| pj_xi lv 1 fun a1 => pj_xi lv 2 fun a2 => pj_pr st 124 0 fun st => pj_pe st (f a1 a2 z.1 z.2.1 z.2.2.1 z.2.2.2)
abbrev pe_X12_row_33 (f : Int32 → Int32 → Int32 → pj_F (Int64 × pj_Z)) : pj_K (Int64 × pj_Z) := fun lv st z => pj_xr lv 0 124 0 <| pj_xi lv 1 fun a1 => pj_xi lv 2 fun a2 => pj_pi st fun b1 st => pj_pr st 124 0 fun st => pj_pe st (f a1 a2 b1 z.1 z.2.1 z.2.2.1 z.2.2.2)
abbrev px_X12_row : pj_C (Int64 × pj_Z) := (pj_TR, (pj_as [(245, 12, 194, 2, true), (259, 12, 0, 0, false), (1128, 12, 193, 1, false)]), (fun _ => none), (pj_as [(643, 2), (870, 128)]), (fun _ => none), ic_X, 3, 3, pj_mL, (pj_as [(5, ph_X12_rowsKept), (10, ph_X12_isIn), (22, ph_X12_isIn), (57, ph_X12_rowsKept)]), fun _ => false)
abbrev pk_X12_row : List (Nat × List (Nat × Instr × Nat)) := [(0, [(0, .aload_n 0, 1), (1, .iload_n 1, 1), (2, .i2l, 1), (3, .lconst 0, 1), (4, .aload_n 0, 1), (5, .invokevirtual 1131, 3), (8, .lconst 1, 1), (9, .lsub, 1), (10, .invokestatic 568, 3), (13, .ifCond .eq 15, 3)]), (16, [(16, .iload_n 2, 1), (17, .i2l, 1), (18, .lconst 0, 1), (19, .ldc2_w 643, 3), (22, .invokestatic 568, 3), (25, .ifCond .ne 7, 3)]), (28, [(28, .iconst 1, 1), (29, .goto 4, 3)]), (32, [(32, .iconst 0, 1)]), (33, [(33, .putfield 259, 3), (36, .aload_n 0, 1), (37, .getfield 259, 3), (40, .ifCond .le 7, 3)]), (43, [(43, .lconst 0, 1), (44, .goto 29, 3)]), (47, [(47, .aload_n 0, 1), (48, .getfield 245, 3), (51, .iconst 3, 1), (52, .aload_n 0, 1), (53, .getfield 1128, 3), (56, .aload_n 0, 1), (57, .invokevirtual 1131, 3), (60, .lsub, 1), (61, .iload_n 1, 1), (62, .i2l, 1), (63, .ladd, 1), (64, .ldc2_w 870, 3), (67, .lrem, 1), (68, .l2i, 1), (69, .imul, 1), (70, .iload_n 2, 1), (71, .iadd, 1), (72, .laload, 1)]), (73, [(73, .lreturn, 1)])]
set_option maxRecDepth 100000 in
theorem pq_X12_row_33 (a1 : Int32) (a2 : Int32) (b1 : Int32) (s : Nat → Int32) (l : Nat → Int64) (x : Nat → Int32) (y : Nat → Int64) : pl_X12_row_33 a1 a2 b1 s l x y = pj_bl px_X12_row (pj_rn px_X12_row (pj_as pk_X12_row) (fun _ => none) 60) [(33, .putfield 259, 3), (36, .aload_n 0, 1), (37, .getfield 259, 3), (40, .ifCond .le 7, 3)] 33 [(0, pj_O (124, 0)), (1, pj_I a1), (2, pj_I a2)] [pj_I b1, pj_O (124, 0)] (s, l, x, y) := rfl
set_option maxRecDepth 100000 in
theorem pq_X12_row_28 (a1 : Int32) (a2 : Int32) (s : Nat → Int32) (l : Nat → Int64) (x : Nat → Int32) (y : Nat → Int64) : pl_X12_row_28 a1 a2 s l x y = pj_bl px_X12_row (pj_rn px_X12_row (pj_as pk_X12_row) (pj_as [(33, pe_X12_row_33 (pl_X12_row_33))]) 60) [(28, .iconst 1, 1), (29, .goto 4, 3)] 28 [(0, pj_O (124, 0)), (1, pj_I a1), (2, pj_I a2)] [pj_O (124, 0)] (s, l, x, y) := rfl
set_option maxRecDepth 100000 in
theorem pq_X12_row_m (a1 : Int32) (a2 : Int32) (s : Nat → Int32) (l : Nat → Int64) (x : Nat → Int32) (y : Nat → Int64) : pf_X12_row a1 a2 s l x y = pj_bl px_X12_row (pj_rn px_X12_row (pj_as pk_X12_row) (pj_as [(28, pe_X12_row_28 (pl_X12_row_28)), (33, pe_X12_row_33 (pl_X12_row_33))]) 60) [(0, .aload_n 0, 1), (1, .iload_n 1, 1), (2, .i2l, 1), (3, .lconst 0, 1), (4, .aload_n 0, 1), (5, .invokevirtual 1131, 3), (8, .lconst 1, 1), (9, .lsub, 1), (10, .invokestatic 568, 3), (13, .ifCond .eq 15, 3)] 0 [(0, pj_O (124, 0)), (1, pj_I a1), (2, pj_I a2)] [] (s, l, x, y) := rfl
theorem pu_X12_row_28 {lf : pj_Z → mj_M} {a : Int64 × pj_Z} (f : Int32 → Int32 → pj_F (Int64 × pj_Z)) (hf : ∀ (a1 : Int32) (a2 : Int32) (s : Nat → Int32) (l : Nat → Int64) (x : Nat → Int32) (y : Nat → Int64), f a1 a2 s l x y = some a → pm_Gd 1 12169 ie_X12_row.1 pm_rL lf 28 [(0, .ref 124), (1, .int a1), (2, .int a2)] [.ref 124] (s, l, x, y) a) : pm_Ex 1 12169 ie_X12_row.1 pm_rL lf a 28 (pe_X12_row_28 f) := by
  intro lv st z hd h
  obtain ⟨g0, h⟩ := pj_xr_inv h
  obtain ⟨a1, g1, h⟩ := pj_xi_inv h
  obtain ⟨a2, g2, h⟩ := pj_xi_inv h
  obtain ⟨r0, e0, h⟩ := pj_pr_inv h
  obtain ⟨e9, h⟩ := pj_pe_inv h
  rw [e0, e9]
  exact mj_wp_sub (mj_sub_cons g0 (mj_sub_cons g1 (mj_sub_cons g2 (mj_sub_nil hd)))) (hf _ _ _ _ _ _ h)
theorem pu_X12_row_33 {lf : pj_Z → mj_M} {a : Int64 × pj_Z} (f : Int32 → Int32 → Int32 → pj_F (Int64 × pj_Z)) (hf : ∀ (a1 : Int32) (a2 : Int32) (b1 : Int32) (s : Nat → Int32) (l : Nat → Int64) (x : Nat → Int32) (y : Nat → Int64), f a1 a2 b1 s l x y = some a → pm_Gd 1 12169 ie_X12_row.1 pm_rL lf 33 [(0, .ref 124), (1, .int a1), (2, .int a2)] [.int b1, .ref 124] (s, l, x, y) a) : pm_Ex 1 12169 ie_X12_row.1 pm_rL lf a 33 (pe_X12_row_33 f) := by
  intro lv st z hd h
  obtain ⟨g0, h⟩ := pj_xr_inv h
  obtain ⟨a1, g1, h⟩ := pj_xi_inv h
  obtain ⟨a2, g2, h⟩ := pj_xi_inv h
  obtain ⟨b1, r1, e1, h⟩ := pj_pi_inv h
  obtain ⟨r0, e0, h⟩ := pj_pr_inv h
  obtain ⟨e9, h⟩ := pj_pe_inv h
  rw [e1, e0, e9]
  exact mj_wp_sub (mj_sub_cons g0 (mj_sub_cons g1 (mj_sub_cons g2 (mj_sub_nil hd)))) (hf _ _ _ _ _ _ _ h)
set_option maxRecDepth 100000 in
theorem pz_X12_row {lf : pj_Z → mj_M} (hT : pj_Lt pj_TR lf) : pj_Cok ic_P (mj_R ic_P 1) 12169 ie_X12_row.1 (pm_OK lf pm_rL) lf px_X12_row := by
  exact pm_cok (c := px_X12_row) hT (pm_in_ok (L := [(245, 12, 194, 2, true), (259, 12, 0, 0, false), (1128, 12, 193, 1, false)]) (f := mj_pF ic_P 12169) (by decide +kernel)) (fun _ _ h => by cases h) (pm_inL_ok (L := [(643, 2), (870, 128)]) (f := mj_pL ic_P 12169) (by decide +kernel)) (fun _ _ h => by cases h) rfl rfl ⟨by decide, rfl⟩ pm_mL (pj_as_all (p := pm_Cl 1 12169 ie_X12_row.1 lf (pm_OK lf pm_rL)) (List.forall_mem_cons.mpr ⟨fun _ _ lv st z K a hK h => pc_X12_rowsKept hT (by decide) (ix := 1131) rfl rfl hK h, (List.forall_mem_cons.mpr ⟨fun _ _ lv st z K a hK h => pc_X12_isIn hT (by decide) (ix := 568) rfl rfl hK h, (List.forall_mem_cons.mpr ⟨fun _ _ lv st z K a hK h => pc_X12_isIn hT (by decide) (ix := 568) rfl rfl hK h, (List.forall_mem_cons.mpr ⟨fun _ _ lv st z K a hK h => pc_X12_rowsKept hT (by decide) (ix := 1131) rfl rfl hK h, (fun _ h => by cases h)⟩)⟩)⟩)⟩)) (fun _ h => by cases h)
set_option maxRecDepth 100000 in
theorem pb_X12_row : pm_bks ie_X12_row.1.2.2.2.2 pk_X12_row = true := by decide +kernel
set_option maxRecDepth 100000 in
theorem pg_X12_row_33 {lf : pj_Z → mj_M} (hT : pj_Lt pj_TR lf) : ∀ (a1 : Int32) (a2 : Int32) (b1 : Int32) (s : Nat → Int32) (l : Nat → Int64) (x : Nat → Int32) (y : Nat → Int64) (a : Int64 × pj_Z), pl_X12_row_33 a1 a2 b1 s l x y = some a → pm_Gd 1 12169 ie_X12_row.1 pm_rL lf 33 [(0, .ref 124), (1, .int a1), (2, .int a2)] [.int b1, .ref 124] (s, l, x, y) a := by
  intro a1 a2 b1 s l x y a h
  exact pj_bl_ok (pz_X12_row hT) (fun t lv st z hd h => pj_rn_ok (pz_X12_row hT) (pm_bks_ok pb_X12_row) (fun _ _ h => by cases h) 60 t lv st z hd h) [(33, .putfield 259, 3), (36, .aload_n 0, 1), (37, .getfield 259, 3), (40, .ifCond .le 7, 3)] 33 [(0, pj_O (124, 0)), (1, pj_I a1), (2, pj_I a2)] [pj_I b1, pj_O (124, 0)] (s, l, x, y) (pm_bks_ok pb_X12_row _ _ rfl) (pm_ndb_ok rfl) ((pq_X12_row_33  a1 a2 b1 s l x y).symm.trans h)
set_option maxRecDepth 100000 in
theorem pg_X12_row_28 {lf : pj_Z → mj_M} (hT : pj_Lt pj_TR lf) : ∀ (a1 : Int32) (a2 : Int32) (s : Nat → Int32) (l : Nat → Int64) (x : Nat → Int32) (y : Nat → Int64) (a : Int64 × pj_Z), pl_X12_row_28 a1 a2 s l x y = some a → pm_Gd 1 12169 ie_X12_row.1 pm_rL lf 28 [(0, .ref 124), (1, .int a1), (2, .int a2)] [.ref 124] (s, l, x, y) a := by
  intro a1 a2 s l x y a h
  exact pj_bl_ok (pz_X12_row hT) (fun t lv st z hd h => pj_rn_ok (pz_X12_row hT) (pm_bks_ok pb_X12_row) (pj_as_all (p := pm_Ex 1 12169 ie_X12_row.1 pm_rL lf a) (List.forall_mem_cons.mpr ⟨pu_X12_row_33 _ (fun c0 c1 c2 s l x y h => pg_X12_row_33 hT c0 c1 c2 s l x y _ h), (fun _ h => by cases h)⟩)) 60 t lv st z hd h) [(28, .iconst 1, 1), (29, .goto 4, 3)] 28 [(0, pj_O (124, 0)), (1, pj_I a1), (2, pj_I a2)] [pj_O (124, 0)] (s, l, x, y) (pm_bks_ok pb_X12_row _ _ rfl) (pm_ndb_ok rfl) ((pq_X12_row_28  a1 a2 s l x y).symm.trans h)
set_option maxRecDepth 100000 in
theorem pm_X12_row {lf : pj_Z → mj_M} (hT : pj_Lt pj_TR lf) (a1 : Int32) (a2 : Int32) (s : Nat → Int32) (l : Nat → Int64) (x : Nat → Int32) (y : Nat → Int64) (a : Int64 × pj_Z) (h : pf_X12_row a1 a2 s l x y = some a) : mj_R ic_P 2 12169 [.ref 124, .int a1, .int a2] (lf (s, l, x, y)) (pm_rL a.1) (lf a.2) := by
  refine pm_main (Y := ie_X12_row.1) rfl (Nat.le_of_ble_eq_true rfl) ?_
  exact pj_bl_ok (pz_X12_row hT) (fun t lv st z hd h => pj_rn_ok (pz_X12_row hT) (pm_bks_ok pb_X12_row) (pj_as_all (p := pm_Ex 1 12169 ie_X12_row.1 pm_rL lf a) (List.forall_mem_cons.mpr ⟨pu_X12_row_28 _ (fun c0 c1 s l x y h => pg_X12_row_28 hT c0 c1 s l x y _ h), (List.forall_mem_cons.mpr ⟨pu_X12_row_33 _ (fun c0 c1 c2 s l x y h => pg_X12_row_33 hT c0 c1 c2 s l x y _ h), (fun _ h => by cases h)⟩)⟩)) 60 t lv st z hd h) [(0, .aload_n 0, 1), (1, .iload_n 1, 1), (2, .i2l, 1), (3, .lconst 0, 1), (4, .aload_n 0, 1), (5, .invokevirtual 1131, 3), (8, .lconst 1, 1), (9, .lsub, 1), (10, .invokestatic 568, 3), (13, .ifCond .eq 15, 3)] 0 [(0, pj_O (124, 0)), (1, pj_I a1), (2, pj_I a2)] [] (s, l, x, y) (pm_bks_ok pb_X12_row _ _ rfl) (pm_ndb_ok rfl) ((pq_X12_row_m a1 a2 s l x y).symm.trans h)
abbrev ph_X12_row {A : Type} : List pj_V → pj_Z → (List pj_V → pj_Z → Option A) → Option A := fun st z K => pj_pi st fun a2 st => pj_pi st fun a1 st => pj_pr st 124 0 fun st => pj_ps st (pj_b (pf_X12_row a1 a2 z.1 z.2.1 z.2.2.1 z.2.2.2) fun r s l x y => K (pj_L r :: st) (s, l, x, y))
set_option maxRecDepth 100000 in
theorem pc_X12_row {A : Type} {OK : A → Option Value → mj_M → Prop} {d j pc ix : Nat} {Y : mj_Y} {lf : pj_Z → mj_M} (hT : pj_Lt pj_TR lf) (hd : 2 ≤ d) (hl : mj_lk Y.2.2.2.2 pc = some (.invokevirtual ix, 3)) (hg : mj_pG ic_P j ix = some (12169, 2, some 12)) {lv : List (Nat × Value)} {st : List pj_V} {z : pj_Z} {K : List pj_V → pj_Z → Option A} {a : A} (hK : ∀ st z, K st z = some a → pj_Gd ic_P (mj_R ic_P d) j Y OK lf (pc + 3) lv (pj_es st) z a) (h : ph_X12_row st z K = some a) : pj_Gd ic_P (mj_R ic_P d) j Y OK lf pc lv (pj_es st) z a := by
  obtain ⟨a2, r2, e2, h⟩ := pj_pi_inv h
  obtain ⟨a1, r1, e1, h⟩ := pj_pi_inv h
  obtain ⟨r0, e0, h⟩ := pj_pr_inv h
  obtain ⟨hs, h⟩ := pj_ps_inv h
  obtain ⟨q, hq, h⟩ := pj_b_inv h
  exact pm_cv (o := 124) hl hg [.int a1, .int a2] rfl (by rw [e2, e1, e0]; rfl) hs (by decide) ((hT.2 124 _ rfl).1.2 z 0 (by decide)) (pm_rL q.1) hd (pm_X12_row hT a1 a2 z.1 z.2.1 z.2.2.1 z.2.2.2 q hq) rfl (hK _ _ h)

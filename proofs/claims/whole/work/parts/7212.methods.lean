/-! METHODS 12, printed by gen_meth.py -/
abbrev pe_X4_isValid_v2_40 (f : Int32 → Int32 → pj_F (Int32 × pj_Z)) : pj_K (Int32 × pj_Z) := fun lv st z => pj_xr lv 1 15 0 <| pj_xi lv 2 fun a2 => pj_xi lv 3 fun a3 => pj_pe st (f a2 a3 z.1 z.2.1 z.2.2.1 z.2.2.2)
abbrev pe_X4_isValid_v2_56 (f : Int32 → Int32 → Int32 → pj_F (Int32 × pj_Z)) : pj_K (Int32 × pj_Z) := fun lv st z => pj_xr lv 1 15 0 <| pj_xi lv 2 fun a2 => pj_xi lv 3 fun a3 => pj_pi st fun b0 st => pj_pe st (f a2 a3 b0 z.1 z.2.1 z.2.2.1 z.2.2.2)
abbrev px_X4_isValid_v2 : pj_C (Int32 × pj_Z) := (pj_TC, (fun _ => none), (fun _ => none), (fun _ => none), (fun _ => none), ic_X, 4, 2, pj_mI, (pj_as [(24, ph_X4_sumOf_v3), (59, ph_X4_isCell)]), fun _ => false)
abbrev pk_X4_isValid_v2 : List (Nat × List (Nat × Instr × Nat)) := [(0, [(0, .aload_n 1, 1), (1, .arraylength, 1), (2, .iconst 1, 1), (3, .isub, 1), (4, .istore_n 2, 1), (5, .iload_n 2, 1), (6, .iconst 1, 1), (7, .if_icmp .lt 23, 3)]), (10, [(10, .aload_n 1, 1), (11, .iconst 0, 1), (12, .iaload, 1), (13, .ifCond .le 17, 3)]), (16, [(16, .aload_n 1, 1), (17, .iload_n 2, 1), (18, .iaload, 1), (19, .aload_n 1, 1), (20, .iload_n 2, 1), (21, .aload_n 1, 1), (22, .iconst 0, 1), (23, .iaload, 1), (24, .invokestatic 77, 3), (27, .if_icmp .eq 5, 3)]), (30, [(30, .iconst 0, 1), (31, .ireturn, 1)]), (32, [(32, .iload_n 0, 1), (33, .ifCond .ne 5, 3)]), (38, [(38, .iconst 1, 1), (39, .istore_n 3, 1)]), (40, [(40, .iload_n 3, 1), (41, .iload_n 2, 1), (42, .if_icmp .ge 31, 3)]), (45, [(45, .iload_n 3, 1), (46, .bipush 16, 2), (48, .if_icmp .gt 7, 3)]), (51, [(51, .iconst 0, 1), (52, .goto 4, 3)]), (55, [(55, .iconst 1, 1)]), (56, [(56, .aload_n 1, 1), (57, .iload_n 3, 1), (58, .iaload, 1), (59, .invokestatic 81, 3), (62, .ifCond .ne 5, 3)]), (65, [(65, .iconst 0, 1), (66, .ireturn, 1)]), (67, [(67, .iinc 3 1, 3), (70, .goto (-30), 3)]), (73, [(73, .iconst 1, 1), (74, .ireturn, 1)])]
set_option maxRecDepth 100000 in
theorem pq_X4_isValid_v2_56 (k40 : Int32 → Int32 → pj_F (Int32 × pj_Z)) (a2 : Int32) (a3 : Int32) (b0 : Int32) (s : Nat → Int32) (l : Nat → Int64) (x : Nat → Int32) (y : Nat → Int64) : pl_X4_isValid_v2_56 k40 a2 a3 b0 s l x y = pj_bl px_X4_isValid_v2 (pj_rn px_X4_isValid_v2 (pj_as pk_X4_isValid_v2) (pj_as [(40, pe_X4_isValid_v2_40 k40)]) 60) [(56, .aload_n 1, 1), (57, .iload_n 3, 1), (58, .iaload, 1), (59, .invokestatic 81, 3), (62, .ifCond .ne 5, 3)] 56 [(1, pj_O (15, 0)), (2, pj_I a2), (3, pj_I a3)] [pj_I b0] (s, l, x, y) := rfl
set_option maxRecDepth 100000 in
theorem pq_X4_isValid_v2_40 (n : Nat) (a2 : Int32) (a3 : Int32) (s : Nat → Int32) (l : Nat → Int64) (x : Nat → Int32) (y : Nat → Int64) : pl_X4_isValid_v2_40 (n + 1) a2 a3 s l x y = pj_bl px_X4_isValid_v2 (pj_rn px_X4_isValid_v2 (pj_as pk_X4_isValid_v2) (pj_as [(40, pe_X4_isValid_v2_40 (pl_X4_isValid_v2_40 n)), (56, pe_X4_isValid_v2_56 (pl_X4_isValid_v2_56 (pl_X4_isValid_v2_40 n)))]) 60) [(40, .iload_n 3, 1), (41, .iload_n 2, 1), (42, .if_icmp .ge 31, 3)] 40 [(1, pj_O (15, 0)), (2, pj_I a2), (3, pj_I a3)] [] (s, l, x, y) := rfl
set_option maxRecDepth 100000 in
theorem pq_X4_isValid_v2_m  (s : Nat → Int32) (l : Nat → Int64) (x : Nat → Int32) (y : Nat → Int64) : pf_X4_isValid_v2  s l x y = pj_bl px_X4_isValid_v2 (pj_rn px_X4_isValid_v2 (pj_as pk_X4_isValid_v2) (pj_as [(40, pe_X4_isValid_v2_40 (pl_X4_isValid_v2_40 (pj_fu 0)))]) 60) [(0, .aload_n 1, 1), (1, .arraylength, 1), (2, .iconst 1, 1), (3, .isub, 1), (4, .istore_n 2, 1), (5, .iload_n 2, 1), (6, .iconst 1, 1), (7, .if_icmp .lt 23, 3)] 0 [(0, pj_N 1), (1, pj_O (15, 0))] [] (s, l, x, y) := rfl
theorem pu_X4_isValid_v2_40 {lf : pj_Z → mj_M} {a : Int32 × pj_Z} (f : Int32 → Int32 → pj_F (Int32 × pj_Z)) (hf : ∀ (a2 : Int32) (a3 : Int32) (s : Nat → Int32) (l : Nat → Int64) (x : Nat → Int32) (y : Nat → Int64), f a2 a3 s l x y = some a → pm_Gd 1 4007 ie_X4_isValid.1 pm_rI lf 40 [(1, .ref 15), (2, .int a2), (3, .int a3)] [] (s, l, x, y) a) : pm_Ex 1 4007 ie_X4_isValid.1 pm_rI lf a 40 (pe_X4_isValid_v2_40 f) := by
  intro lv st z hd h
  obtain ⟨g1, h⟩ := pj_xr_inv h
  obtain ⟨a2, g2, h⟩ := pj_xi_inv h
  obtain ⟨a3, g3, h⟩ := pj_xi_inv h
  obtain ⟨e9, h⟩ := pj_pe_inv h
  rw [e9]
  exact mj_wp_sub (mj_sub_cons g1 (mj_sub_cons g2 (mj_sub_cons g3 (mj_sub_nil hd)))) (hf _ _ _ _ _ _ h)
theorem pu_X4_isValid_v2_56 {lf : pj_Z → mj_M} {a : Int32 × pj_Z} (f : Int32 → Int32 → Int32 → pj_F (Int32 × pj_Z)) (hf : ∀ (a2 : Int32) (a3 : Int32) (b0 : Int32) (s : Nat → Int32) (l : Nat → Int64) (x : Nat → Int32) (y : Nat → Int64), f a2 a3 b0 s l x y = some a → pm_Gd 1 4007 ie_X4_isValid.1 pm_rI lf 56 [(1, .ref 15), (2, .int a2), (3, .int a3)] [.int b0] (s, l, x, y) a) : pm_Ex 1 4007 ie_X4_isValid.1 pm_rI lf a 56 (pe_X4_isValid_v2_56 f) := by
  intro lv st z hd h
  obtain ⟨g1, h⟩ := pj_xr_inv h
  obtain ⟨a2, g2, h⟩ := pj_xi_inv h
  obtain ⟨a3, g3, h⟩ := pj_xi_inv h
  obtain ⟨b0, r0, e0, h⟩ := pj_pi_inv h
  obtain ⟨e9, h⟩ := pj_pe_inv h
  rw [e0, e9]
  exact mj_wp_sub (mj_sub_cons g1 (mj_sub_cons g2 (mj_sub_cons g3 (mj_sub_nil hd)))) (hf _ _ _ _ _ _ _ h)
set_option maxRecDepth 100000 in
theorem pz_X4_isValid_v2 {lf : pj_Z → mj_M} (hT : pj_Lt pj_TC lf) : pj_Cok ic_P (mj_R ic_P 1) 4007 ie_X4_isValid.1 (pm_OK lf pm_rI) lf px_X4_isValid_v2 := by
  exact pm_cok (c := px_X4_isValid_v2) hT (fun _ _ h => by cases h) (fun _ _ h => by cases h) (fun _ _ h => by cases h) (fun _ _ h => by cases h) rfl rfl ⟨by decide, rfl⟩ pm_mI (pj_as_all (p := pm_Cl 1 4007 ie_X4_isValid.1 lf (pm_OK lf pm_rI)) (List.forall_mem_cons.mpr ⟨fun _ _ lv st z K a hK h => pc_X4_sumOf_v3 hT (by decide) (ix := 77) rfl rfl hK h, (List.forall_mem_cons.mpr ⟨fun _ _ lv st z K a hK h => pc_X4_isCell hT (by decide) (ix := 81) rfl rfl hK h, (fun _ h => by cases h)⟩)⟩)) (fun _ h => by cases h)
set_option maxRecDepth 100000 in
theorem pb_X4_isValid_v2 : pm_bks ie_X4_isValid.1.2.2.2.2 pk_X4_isValid_v2 = true := by decide +kernel
set_option maxRecDepth 100000 in
theorem pg_X4_isValid_v2_56 {lf : pj_Z → mj_M} (hT : pj_Lt pj_TC lf) {k40 : Int32 → Int32 → pj_F (Int32 × pj_Z)} (hk40 : ∀ (a2 : Int32) (a3 : Int32) (s : Nat → Int32) (l : Nat → Int64) (x : Nat → Int32) (y : Nat → Int64) (a : Int32 × pj_Z), k40 a2 a3 s l x y = some a → pm_Gd 1 4007 ie_X4_isValid.1 pm_rI lf 40 [(1, .ref 15), (2, .int a2), (3, .int a3)] [] (s, l, x, y) a) : ∀ (a2 : Int32) (a3 : Int32) (b0 : Int32) (s : Nat → Int32) (l : Nat → Int64) (x : Nat → Int32) (y : Nat → Int64) (a : Int32 × pj_Z), pl_X4_isValid_v2_56 k40 a2 a3 b0 s l x y = some a → pm_Gd 1 4007 ie_X4_isValid.1 pm_rI lf 56 [(1, .ref 15), (2, .int a2), (3, .int a3)] [.int b0] (s, l, x, y) a := by
  intro a2 a3 b0 s l x y a h
  exact pj_bl_ok (pz_X4_isValid_v2 hT) (fun t lv st z hd h => pj_rn_ok (pz_X4_isValid_v2 hT) (pm_bks_ok pb_X4_isValid_v2) (pj_as_all (p := pm_Ex 1 4007 ie_X4_isValid.1 pm_rI lf a) (List.forall_mem_cons.mpr ⟨pu_X4_isValid_v2_40 _ (fun c0 c1 s l x y h => hk40 c0 c1 s l x y _ h), (fun _ h => by cases h)⟩)) 60 t lv st z hd h) [(56, .aload_n 1, 1), (57, .iload_n 3, 1), (58, .iaload, 1), (59, .invokestatic 81, 3), (62, .ifCond .ne 5, 3)] 56 [(1, pj_O (15, 0)), (2, pj_I a2), (3, pj_I a3)] [pj_I b0] (s, l, x, y) (pm_bks_ok pb_X4_isValid_v2 _ _ rfl) (pm_ndb_ok rfl) ((pq_X4_isValid_v2_56 k40 a2 a3 b0 s l x y).symm.trans h)
set_option maxRecDepth 100000 in
theorem pg_X4_isValid_v2_40 {lf : pj_Z → mj_M} (hT : pj_Lt pj_TC lf) : ∀ (n : Nat), ∀ (a2 : Int32) (a3 : Int32) (s : Nat → Int32) (l : Nat → Int64) (x : Nat → Int32) (y : Nat → Int64) (a : Int32 × pj_Z), pl_X4_isValid_v2_40 n a2 a3 s l x y = some a → pm_Gd 1 4007 ie_X4_isValid.1 pm_rI lf 40 [(1, .ref 15), (2, .int a2), (3, .int a3)] [] (s, l, x, y) a := by
  intro n
  induction n with
  | zero => intro a2 a3 s l x y a h; cases (show (none : Option (Int32 × pj_Z)) = some a from h)
  | succ n ih =>
    intro a2 a3 s l x y a h
    exact pj_bl_ok (pz_X4_isValid_v2 hT) (fun t lv st z hd h => pj_rn_ok (pz_X4_isValid_v2 hT) (pm_bks_ok pb_X4_isValid_v2) (pj_as_all (p := pm_Ex 1 4007 ie_X4_isValid.1 pm_rI lf a) (List.forall_mem_cons.mpr ⟨pu_X4_isValid_v2_40 _ (fun c0 c1 s l x y h => ih c0 c1 s l x y _ h), (List.forall_mem_cons.mpr ⟨pu_X4_isValid_v2_56 _ (fun c0 c1 c2 s l x y h => pg_X4_isValid_v2_56 hT (fun a2 a3 s l x y a h => ih a2 a3 s l x y a h) c0 c1 c2 s l x y _ h), (fun _ h => by cases h)⟩)⟩)) 60 t lv st z hd h) [(40, .iload_n 3, 1), (41, .iload_n 2, 1), (42, .if_icmp .ge 31, 3)] 40 [(1, pj_O (15, 0)), (2, pj_I a2), (3, pj_I a3)] [] (s, l, x, y) (pm_bks_ok pb_X4_isValid_v2 _ _ rfl) (pm_ndb_ok rfl) ((pq_X4_isValid_v2_40 n a2 a3 s l x y).symm.trans h)
set_option maxRecDepth 100000 in
theorem pm_X4_isValid_v2 {lf : pj_Z → mj_M} (hT : pj_Lt pj_TC lf)  (s : Nat → Int32) (l : Nat → Int64) (x : Nat → Int32) (y : Nat → Int64) (a : Int32 × pj_Z) (h : pf_X4_isValid_v2  s l x y = some a) : mj_R ic_P 2 4007 [.int (Int32.ofInt 1), .ref 15] (lf (s, l, x, y)) (pm_rI a.1) (lf a.2) := by
  refine pm_main (Y := ie_X4_isValid.1) rfl (Nat.le_of_ble_eq_true rfl) ?_
  exact pj_bl_ok (pz_X4_isValid_v2 hT) (fun t lv st z hd h => pj_rn_ok (pz_X4_isValid_v2 hT) (pm_bks_ok pb_X4_isValid_v2) (pj_as_all (p := pm_Ex 1 4007 ie_X4_isValid.1 pm_rI lf a) (List.forall_mem_cons.mpr ⟨pu_X4_isValid_v2_40 _ (fun c0 c1 s l x y h => pg_X4_isValid_v2_40 hT (pj_fu 0) c0 c1 s l x y _ h), (fun _ h => by cases h)⟩)) 60 t lv st z hd h) [(0, .aload_n 1, 1), (1, .arraylength, 1), (2, .iconst 1, 1), (3, .isub, 1), (4, .istore_n 2, 1), (5, .iload_n 2, 1), (6, .iconst 1, 1), (7, .if_icmp .lt 23, 3)] 0 [(0, pj_N 1), (1, pj_O (15, 0))] [] (s, l, x, y) (pm_bks_ok pb_X4_isValid_v2 _ _ rfl) (pm_ndb_ok rfl) ((pq_X4_isValid_v2_m  s l x y).symm.trans h)
abbrev ph_X4_isValid_v2 {A : Type} : List pj_V → pj_Z → (List pj_V → pj_Z → Option A) → Option A := fun st z K => pj_pr st 15 0 fun st => pj_pc st 1 fun st => pj_ps st (pj_b (pf_X4_isValid_v2  z.1 z.2.1 z.2.2.1 z.2.2.2) fun r s l x y => K (pj_I r :: st) (s, l, x, y))
set_option maxRecDepth 100000 in
theorem pc_X4_isValid_v2 {A : Type} {OK : A → Option Value → mj_M → Prop} {d j pc ix : Nat} {Y : mj_Y} {lf : pj_Z → mj_M} (hT : pj_Lt pj_TC lf) (hd : 2 ≤ d) (hl : mj_lk Y.2.2.2.2 pc = some (.invokestatic ix, 3)) (hg : mj_pG ic_P j ix = some (4007, 2, none)) {lv : List (Nat × Value)} {st : List pj_V} {z : pj_Z} {K : List pj_V → pj_Z → Option A} {a : A} (hK : ∀ st z, K st z = some a → pj_Gd ic_P (mj_R ic_P d) j Y OK lf (pc + 3) lv (pj_es st) z a) (h : ph_X4_isValid_v2 st z K = some a) : pj_Gd ic_P (mj_R ic_P d) j Y OK lf pc lv (pj_es st) z a := by
  obtain ⟨r1, e1, h⟩ := pj_pr_inv h
  obtain ⟨r0, e0, h⟩ := pj_pc_inv h
  obtain ⟨hs, h⟩ := pj_ps_inv h
  obtain ⟨q, hq, h⟩ := pj_b_inv h
  exact pm_cs hl hg [.int (Int32.ofInt 1), .ref 15] rfl (by rw [e1, e0]; rfl) hs (pm_rI q.1) hd (pm_X4_isValid_v2 hT  z.1 z.2.1 z.2.2.1 z.2.2.2 q hq) rfl (hK _ _ h)
abbrev pe_X4_sumOf_v4_5 (f : Int32 → Int32 → Int32 → pj_F (Int32 × pj_Z)) : pj_K (Int32 × pj_Z) := fun lv st z => pj_xr lv 0 15 1 <| pj_xi lv 1 fun a1 => pj_xi lv 3 fun a3 => pj_xi lv 4 fun a4 => pj_pe st (f a1 a3 a4 z.1 z.2.1 z.2.2.1 z.2.2.2)
abbrev px_X4_sumOf_v4 : pj_C (Int32 × pj_Z) := (pj_TC, (fun _ => none), (fun _ => none), (fun _ => none), (fun _ => none), ic_X, 5, 1, pj_mI, (fun _ => none), fun _ => false)
abbrev pk_X4_sumOf_v4 : List (Nat × List (Nat × Instr × Nat)) := [(0, [(0, .iload_n 2, 1), (1, .istore_n 3, 1), (2, .iconst 1, 1), (3, .istore 4, 2)]), (5, [(5, .iload 4, 2), (7, .iload_n 1, 1), (8, .if_icmp .ge 28, 3)]), (11, [(11, .iload 4, 2), (13, .aload_n 0, 1), (14, .arraylength, 1), (15, .if_icmp .ge 21, 3)]), (18, [(18, .iload_n 3, 1), (19, .iload 4, 2), (21, .iconst 1, 1), (22, .iadd, 1), (23, .aload_n 0, 1), (24, .iload 4, 2), (26, .iaload, 1), (27, .imul, 1), (28, .iadd, 1), (29, .istore_n 3, 1), (30, .iinc 4 1, 3), (33, .goto (-28), 3)]), (36, [(36, .iload_n 3, 1), (37, .ireturn, 1)])]
set_option maxRecDepth 100000 in
theorem pq_X4_sumOf_v4_5 (n : Nat) (a1 : Int32) (a3 : Int32) (a4 : Int32) (s : Nat → Int32) (l : Nat → Int64) (x : Nat → Int32) (y : Nat → Int64) : pl_X4_sumOf_v4_5 (n + 1) a1 a3 a4 s l x y = pj_bl px_X4_sumOf_v4 (pj_rn px_X4_sumOf_v4 (pj_as pk_X4_sumOf_v4) (pj_as [(5, pe_X4_sumOf_v4_5 (pl_X4_sumOf_v4_5 n))]) 60) [(5, .iload 4, 2), (7, .iload_n 1, 1), (8, .if_icmp .ge 28, 3)] 5 [(0, pj_O (15, 1)), (1, pj_I a1), (3, pj_I a3), (4, pj_I a4)] [] (s, l, x, y) := rfl
set_option maxRecDepth 100000 in
theorem pq_X4_sumOf_v4_m (a1 : Int32) (a2 : Int32) (s : Nat → Int32) (l : Nat → Int64) (x : Nat → Int32) (y : Nat → Int64) : pf_X4_sumOf_v4 a1 a2 s l x y = pj_bl px_X4_sumOf_v4 (pj_rn px_X4_sumOf_v4 (pj_as pk_X4_sumOf_v4) (pj_as [(5, pe_X4_sumOf_v4_5 (pl_X4_sumOf_v4_5 (pj_fu 0)))]) 60) [(0, .iload_n 2, 1), (1, .istore_n 3, 1), (2, .iconst 1, 1), (3, .istore 4, 2)] 0 [(0, pj_O (15, 1)), (1, pj_I a1), (2, pj_I a2)] [] (s, l, x, y) := rfl
theorem pu_X4_sumOf_v4_5 {lf : pj_Z → mj_M} {a : Int32 × pj_Z} (f : Int32 → Int32 → Int32 → pj_F (Int32 × pj_Z)) (hf : ∀ (a1 : Int32) (a3 : Int32) (a4 : Int32) (s : Nat → Int32) (l : Nat → Int64) (x : Nat → Int32) (y : Nat → Int64), f a1 a3 a4 s l x y = some a → pm_Gd 0 4008 ie_X4_sumOf.1 pm_rI lf 5 [(0, .ref 16), (1, .int a1), (3, .int a3), (4, .int a4)] [] (s, l, x, y) a) : pm_Ex 0 4008 ie_X4_sumOf.1 pm_rI lf a 5 (pe_X4_sumOf_v4_5 f) := by
  intro lv st z hd h
  obtain ⟨g0, h⟩ := pj_xr_inv h
  obtain ⟨a1, g1, h⟩ := pj_xi_inv h
  obtain ⟨a3, g3, h⟩ := pj_xi_inv h
  obtain ⟨a4, g4, h⟩ := pj_xi_inv h
  obtain ⟨e9, h⟩ := pj_pe_inv h
  rw [e9]
  exact mj_wp_sub (mj_sub_cons g0 (mj_sub_cons g1 (mj_sub_cons g3 (mj_sub_cons g4 (mj_sub_nil hd))))) (hf _ _ _ _ _ _ _ h)
set_option maxRecDepth 100000 in
theorem pz_X4_sumOf_v4 {lf : pj_Z → mj_M} (hT : pj_Lt pj_TC lf) : pj_Cok ic_P (mj_R ic_P 0) 4008 ie_X4_sumOf.1 (pm_OK lf pm_rI) lf px_X4_sumOf_v4 := by
  exact pm_cok (c := px_X4_sumOf_v4) hT (fun _ _ h => by cases h) (fun _ _ h => by cases h) (fun _ _ h => by cases h) (fun _ _ h => by cases h) rfl rfl ⟨by decide, rfl⟩ pm_mI (fun _ _ h => by cases h) (fun _ h => by cases h)
set_option maxRecDepth 100000 in
theorem pb_X4_sumOf_v4 : pm_bks ie_X4_sumOf.1.2.2.2.2 pk_X4_sumOf_v4 = true := by decide +kernel
set_option maxRecDepth 100000 in
theorem pg_X4_sumOf_v4_5 {lf : pj_Z → mj_M} (hT : pj_Lt pj_TC lf) : ∀ (n : Nat), ∀ (a1 : Int32) (a3 : Int32) (a4 : Int32) (s : Nat → Int32) (l : Nat → Int64) (x : Nat → Int32) (y : Nat → Int64) (a : Int32 × pj_Z), pl_X4_sumOf_v4_5 n a1 a3 a4 s l x y = some a → pm_Gd 0 4008 ie_X4_sumOf.1 pm_rI lf 5 [(0, .ref 16), (1, .int a1), (3, .int a3), (4, .int a4)] [] (s, l, x, y) a := by
  intro n
  induction n with
  | zero => intro a1 a3 a4 s l x y a h; cases (show (none : Option (Int32 × pj_Z)) = some a from h)
  | succ n ih =>
    intro a1 a3 a4 s l x y a h
    exact pj_bl_ok (pz_X4_sumOf_v4 hT) (fun t lv st z hd h => pj_rn_ok (pz_X4_sumOf_v4 hT) (pm_bks_ok pb_X4_sumOf_v4) (pj_as_all (p := pm_Ex 0 4008 ie_X4_sumOf.1 pm_rI lf a) (List.forall_mem_cons.mpr ⟨pu_X4_sumOf_v4_5 _ (fun c0 c1 c2 s l x y h => ih c0 c1 c2 s l x y _ h), (fun _ h => by cases h)⟩)) 60 t lv st z hd h) [(5, .iload 4, 2), (7, .iload_n 1, 1), (8, .if_icmp .ge 28, 3)] 5 [(0, pj_O (15, 1)), (1, pj_I a1), (3, pj_I a3), (4, pj_I a4)] [] (s, l, x, y) (pm_bks_ok pb_X4_sumOf_v4 _ _ rfl) (pm_ndb_ok rfl) ((pq_X4_sumOf_v4_5 n a1 a3 a4 s l x y).symm.trans h)
set_option maxRecDepth 100000 in
theorem pm_X4_sumOf_v4 {lf : pj_Z → mj_M} (hT : pj_Lt pj_TC lf) (a1 : Int32) (a2 : Int32) (s : Nat → Int32) (l : Nat → Int64) (x : Nat → Int32) (y : Nat → Int64) (a : Int32 × pj_Z) (h : pf_X4_sumOf_v4 a1 a2 s l x y = some a) : mj_R ic_P 1 4008 [.ref 16, .int a1, .int a2] (lf (s, l, x, y)) (pm_rI a.1) (lf a.2) := by
  refine pm_main (Y := ie_X4_sumOf.1) rfl (Nat.le_of_ble_eq_true rfl) ?_
  exact pj_bl_ok (pz_X4_sumOf_v4 hT) (fun t lv st z hd h => pj_rn_ok (pz_X4_sumOf_v4 hT) (pm_bks_ok pb_X4_sumOf_v4) (pj_as_all (p := pm_Ex 0 4008 ie_X4_sumOf.1 pm_rI lf a) (List.forall_mem_cons.mpr ⟨pu_X4_sumOf_v4_5 _ (fun c0 c1 c2 s l x y h => pg_X4_sumOf_v4_5 hT (pj_fu 0) c0 c1 c2 s l x y _ h), (fun _ h => by cases h)⟩)) 60 t lv st z hd h) [(0, .iload_n 2, 1), (1, .istore_n 3, 1), (2, .iconst 1, 1), (3, .istore 4, 2)] 0 [(0, pj_O (15, 1)), (1, pj_I a1), (2, pj_I a2)] [] (s, l, x, y) (pm_bks_ok pb_X4_sumOf_v4 _ _ rfl) (pm_ndb_ok rfl) ((pq_X4_sumOf_v4_m a1 a2 s l x y).symm.trans h)
abbrev ph_X4_sumOf_v4 {A : Type} : List pj_V → pj_Z → (List pj_V → pj_Z → Option A) → Option A := fun st z K => pj_pi st fun a2 st => pj_pi st fun a1 st => pj_pr st 15 1 fun st => pj_ps st (pj_b (pf_X4_sumOf_v4 a1 a2 z.1 z.2.1 z.2.2.1 z.2.2.2) fun r s l x y => K (pj_I r :: st) (s, l, x, y))
set_option maxRecDepth 100000 in
theorem pc_X4_sumOf_v4 {A : Type} {OK : A → Option Value → mj_M → Prop} {d j pc ix : Nat} {Y : mj_Y} {lf : pj_Z → mj_M} (hT : pj_Lt pj_TC lf) (hd : 1 ≤ d) (hl : mj_lk Y.2.2.2.2 pc = some (.invokestatic ix, 3)) (hg : mj_pG ic_P j ix = some (4008, 3, none)) {lv : List (Nat × Value)} {st : List pj_V} {z : pj_Z} {K : List pj_V → pj_Z → Option A} {a : A} (hK : ∀ st z, K st z = some a → pj_Gd ic_P (mj_R ic_P d) j Y OK lf (pc + 3) lv (pj_es st) z a) (h : ph_X4_sumOf_v4 st z K = some a) : pj_Gd ic_P (mj_R ic_P d) j Y OK lf pc lv (pj_es st) z a := by
  obtain ⟨a2, r2, e2, h⟩ := pj_pi_inv h
  obtain ⟨a1, r1, e1, h⟩ := pj_pi_inv h
  obtain ⟨r0, e0, h⟩ := pj_pr_inv h
  obtain ⟨hs, h⟩ := pj_ps_inv h
  obtain ⟨q, hq, h⟩ := pj_b_inv h
  exact pm_cs hl hg [.ref 16, .int a1, .int a2] rfl (by rw [e2, e1, e0]; rfl) hs (pm_rI q.1) hd (pm_X4_sumOf_v4 hT a1 a2 z.1 z.2.1 z.2.2.1 z.2.2.2 q hq) rfl (hK _ _ h)
abbrev pe_X4_isValid_v3_40 (f : Int32 → Int32 → pj_F (Int32 × pj_Z)) : pj_K (Int32 × pj_Z) := fun lv st z => pj_xr lv 1 15 1 <| pj_xi lv 2 fun a2 => pj_xi lv 3 fun a3 => pj_pe st (f a2 a3 z.1 z.2.1 z.2.2.1 z.2.2.2)
abbrev pe_X4_isValid_v3_56 (f : Int32 → Int32 → Int32 → pj_F (Int32 × pj_Z)) : pj_K (Int32 × pj_Z) := fun lv st z => pj_xr lv 1 15 1 <| pj_xi lv 2 fun a2 => pj_xi lv 3 fun a3 => pj_pi st fun b0 st => pj_pe st (f a2 a3 b0 z.1 z.2.1 z.2.2.1 z.2.2.2)
abbrev px_X4_isValid_v3 : pj_C (Int32 × pj_Z) := (pj_TC, (fun _ => none), (fun _ => none), (fun _ => none), (fun _ => none), ic_X, 4, 2, pj_mI, (pj_as [(24, ph_X4_sumOf_v4), (59, ph_X4_isCell)]), fun _ => false)
abbrev pk_X4_isValid_v3 : List (Nat × List (Nat × Instr × Nat)) := [(0, [(0, .aload_n 1, 1), (1, .arraylength, 1), (2, .iconst 1, 1), (3, .isub, 1), (4, .istore_n 2, 1), (5, .iload_n 2, 1), (6, .iconst 1, 1), (7, .if_icmp .lt 23, 3)]), (10, [(10, .aload_n 1, 1), (11, .iconst 0, 1), (12, .iaload, 1), (13, .ifCond .le 17, 3)]), (16, [(16, .aload_n 1, 1), (17, .iload_n 2, 1), (18, .iaload, 1), (19, .aload_n 1, 1), (20, .iload_n 2, 1), (21, .aload_n 1, 1), (22, .iconst 0, 1), (23, .iaload, 1), (24, .invokestatic 77, 3), (27, .if_icmp .eq 5, 3)]), (30, [(30, .iconst 0, 1), (31, .ireturn, 1)]), (32, [(32, .iload_n 0, 1), (33, .ifCond .ne 5, 3)]), (38, [(38, .iconst 1, 1), (39, .istore_n 3, 1)]), (40, [(40, .iload_n 3, 1), (41, .iload_n 2, 1), (42, .if_icmp .ge 31, 3)]), (45, [(45, .iload_n 3, 1), (46, .bipush 16, 2), (48, .if_icmp .gt 7, 3)]), (51, [(51, .iconst 0, 1), (52, .goto 4, 3)]), (55, [(55, .iconst 1, 1)]), (56, [(56, .aload_n 1, 1), (57, .iload_n 3, 1), (58, .iaload, 1), (59, .invokestatic 81, 3), (62, .ifCond .ne 5, 3)]), (65, [(65, .iconst 0, 1), (66, .ireturn, 1)]), (67, [(67, .iinc 3 1, 3), (70, .goto (-30), 3)]), (73, [(73, .iconst 1, 1), (74, .ireturn, 1)])]
set_option maxRecDepth 100000 in
theorem pq_X4_isValid_v3_56 (k40 : Int32 → Int32 → pj_F (Int32 × pj_Z)) (a2 : Int32) (a3 : Int32) (b0 : Int32) (s : Nat → Int32) (l : Nat → Int64) (x : Nat → Int32) (y : Nat → Int64) : pl_X4_isValid_v3_56 k40 a2 a3 b0 s l x y = pj_bl px_X4_isValid_v3 (pj_rn px_X4_isValid_v3 (pj_as pk_X4_isValid_v3) (pj_as [(40, pe_X4_isValid_v3_40 k40)]) 60) [(56, .aload_n 1, 1), (57, .iload_n 3, 1), (58, .iaload, 1), (59, .invokestatic 81, 3), (62, .ifCond .ne 5, 3)] 56 [(1, pj_O (15, 1)), (2, pj_I a2), (3, pj_I a3)] [pj_I b0] (s, l, x, y) := rfl
set_option maxRecDepth 100000 in
theorem pq_X4_isValid_v3_40 (n : Nat) (a2 : Int32) (a3 : Int32) (s : Nat → Int32) (l : Nat → Int64) (x : Nat → Int32) (y : Nat → Int64) : pl_X4_isValid_v3_40 (n + 1) a2 a3 s l x y = pj_bl px_X4_isValid_v3 (pj_rn px_X4_isValid_v3 (pj_as pk_X4_isValid_v3) (pj_as [(40, pe_X4_isValid_v3_40 (pl_X4_isValid_v3_40 n)), (56, pe_X4_isValid_v3_56 (pl_X4_isValid_v3_56 (pl_X4_isValid_v3_40 n)))]) 60) [(40, .iload_n 3, 1), (41, .iload_n 2, 1), (42, .if_icmp .ge 31, 3)] 40 [(1, pj_O (15, 1)), (2, pj_I a2), (3, pj_I a3)] [] (s, l, x, y) := rfl
set_option maxRecDepth 100000 in
theorem pq_X4_isValid_v3_m  (s : Nat → Int32) (l : Nat → Int64) (x : Nat → Int32) (y : Nat → Int64) : pf_X4_isValid_v3  s l x y = pj_bl px_X4_isValid_v3 (pj_rn px_X4_isValid_v3 (pj_as pk_X4_isValid_v3) (pj_as [(40, pe_X4_isValid_v3_40 (pl_X4_isValid_v3_40 (pj_fu 0)))]) 60) [(0, .aload_n 1, 1), (1, .arraylength, 1), (2, .iconst 1, 1), (3, .isub, 1), (4, .istore_n 2, 1), (5, .iload_n 2, 1), (6, .iconst 1, 1), (7, .if_icmp .lt 23, 3)] 0 [(0, pj_N 1), (1, pj_O (15, 1))] [] (s, l, x, y) := rfl
theorem pu_X4_isValid_v3_40 {lf : pj_Z → mj_M} {a : Int32 × pj_Z} (f : Int32 → Int32 → pj_F (Int32 × pj_Z)) (hf : ∀ (a2 : Int32) (a3 : Int32) (s : Nat → Int32) (l : Nat → Int64) (x : Nat → Int32) (y : Nat → Int64), f a2 a3 s l x y = some a → pm_Gd 1 4007 ie_X4_isValid.1 pm_rI lf 40 [(1, .ref 16), (2, .int a2), (3, .int a3)] [] (s, l, x, y) a) : pm_Ex 1 4007 ie_X4_isValid.1 pm_rI lf a 40 (pe_X4_isValid_v3_40 f) := by
  intro lv st z hd h
  obtain ⟨g1, h⟩ := pj_xr_inv h
  obtain ⟨a2, g2, h⟩ := pj_xi_inv h
  obtain ⟨a3, g3, h⟩ := pj_xi_inv h
  obtain ⟨e9, h⟩ := pj_pe_inv h
  rw [e9]
  exact mj_wp_sub (mj_sub_cons g1 (mj_sub_cons g2 (mj_sub_cons g3 (mj_sub_nil hd)))) (hf _ _ _ _ _ _ h)
theorem pu_X4_isValid_v3_56 {lf : pj_Z → mj_M} {a : Int32 × pj_Z} (f : Int32 → Int32 → Int32 → pj_F (Int32 × pj_Z)) (hf : ∀ (a2 : Int32) (a3 : Int32) (b0 : Int32) (s : Nat → Int32) (l : Nat → Int64) (x : Nat → Int32) (y : Nat → Int64), f a2 a3 b0 s l x y = some a → pm_Gd 1 4007 ie_X4_isValid.1 pm_rI lf 56 [(1, .ref 16), (2, .int a2), (3, .int a3)] [.int b0] (s, l, x, y) a) : pm_Ex 1 4007 ie_X4_isValid.1 pm_rI lf a 56 (pe_X4_isValid_v3_56 f) := by
  intro lv st z hd h
  obtain ⟨g1, h⟩ := pj_xr_inv h
  obtain ⟨a2, g2, h⟩ := pj_xi_inv h
  obtain ⟨a3, g3, h⟩ := pj_xi_inv h
  obtain ⟨b0, r0, e0, h⟩ := pj_pi_inv h
  obtain ⟨e9, h⟩ := pj_pe_inv h
  rw [e0, e9]
  exact mj_wp_sub (mj_sub_cons g1 (mj_sub_cons g2 (mj_sub_cons g3 (mj_sub_nil hd)))) (hf _ _ _ _ _ _ _ h)
set_option maxRecDepth 100000 in
theorem pz_X4_isValid_v3 {lf : pj_Z → mj_M} (hT : pj_Lt pj_TC lf) : pj_Cok ic_P (mj_R ic_P 1) 4007 ie_X4_isValid.1 (pm_OK lf pm_rI) lf px_X4_isValid_v3 := by
  exact pm_cok (c := px_X4_isValid_v3) hT (fun _ _ h => by cases h) (fun _ _ h => by cases h) (fun _ _ h => by cases h) (fun _ _ h => by cases h) rfl rfl ⟨by decide, rfl⟩ pm_mI (pj_as_all (p := pm_Cl 1 4007 ie_X4_isValid.1 lf (pm_OK lf pm_rI)) (List.forall_mem_cons.mpr ⟨fun _ _ lv st z K a hK h => pc_X4_sumOf_v4 hT (by decide) (ix := 77) rfl rfl hK h, (List.forall_mem_cons.mpr ⟨fun _ _ lv st z K a hK h => pc_X4_isCell hT (by decide) (ix := 81) rfl rfl hK h, (fun _ h => by cases h)⟩)⟩)) (fun _ h => by cases h)
set_option maxRecDepth 100000 in
theorem pb_X4_isValid_v3 : pm_bks ie_X4_isValid.1.2.2.2.2 pk_X4_isValid_v3 = true := by decide +kernel
set_option maxRecDepth 100000 in
theorem pg_X4_isValid_v3_56 {lf : pj_Z → mj_M} (hT : pj_Lt pj_TC lf) {k40 : Int32 → Int32 → pj_F (Int32 × pj_Z)} (hk40 : ∀ (a2 : Int32) (a3 : Int32) (s : Nat → Int32) (l : Nat → Int64) (x : Nat → Int32) (y : Nat → Int64) (a : Int32 × pj_Z), k40 a2 a3 s l x y = some a → pm_Gd 1 4007 ie_X4_isValid.1 pm_rI lf 40 [(1, .ref 16), (2, .int a2), (3, .int a3)] [] (s, l, x, y) a) : ∀ (a2 : Int32) (a3 : Int32) (b0 : Int32) (s : Nat → Int32) (l : Nat → Int64) (x : Nat → Int32) (y : Nat → Int64) (a : Int32 × pj_Z), pl_X4_isValid_v3_56 k40 a2 a3 b0 s l x y = some a → pm_Gd 1 4007 ie_X4_isValid.1 pm_rI lf 56 [(1, .ref 16), (2, .int a2), (3, .int a3)] [.int b0] (s, l, x, y) a := by
  intro a2 a3 b0 s l x y a h
  exact pj_bl_ok (pz_X4_isValid_v3 hT) (fun t lv st z hd h => pj_rn_ok (pz_X4_isValid_v3 hT) (pm_bks_ok pb_X4_isValid_v3) (pj_as_all (p := pm_Ex 1 4007 ie_X4_isValid.1 pm_rI lf a) (List.forall_mem_cons.mpr ⟨pu_X4_isValid_v3_40 _ (fun c0 c1 s l x y h => hk40 c0 c1 s l x y _ h), (fun _ h => by cases h)⟩)) 60 t lv st z hd h) [(56, .aload_n 1, 1), (57, .iload_n 3, 1), (58, .iaload, 1), (59, .invokestatic 81, 3), (62, .ifCond .ne 5, 3)] 56 [(1, pj_O (15, 1)), (2, pj_I a2), (3, pj_I a3)] [pj_I b0] (s, l, x, y) (pm_bks_ok pb_X4_isValid_v3 _ _ rfl) (pm_ndb_ok rfl) ((pq_X4_isValid_v3_56 k40 a2 a3 b0 s l x y).symm.trans h)
set_option maxRecDepth 100000 in
theorem pg_X4_isValid_v3_40 {lf : pj_Z → mj_M} (hT : pj_Lt pj_TC lf) : ∀ (n : Nat), ∀ (a2 : Int32) (a3 : Int32) (s : Nat → Int32) (l : Nat → Int64) (x : Nat → Int32) (y : Nat → Int64) (a : Int32 × pj_Z), pl_X4_isValid_v3_40 n a2 a3 s l x y = some a → pm_Gd 1 4007 ie_X4_isValid.1 pm_rI lf 40 [(1, .ref 16), (2, .int a2), (3, .int a3)] [] (s, l, x, y) a := by
  intro n
  induction n with
  | zero => intro a2 a3 s l x y a h; cases (show (none : Option (Int32 × pj_Z)) = some a from h)
  | succ n ih =>
    intro a2 a3 s l x y a h
    exact pj_bl_ok (pz_X4_isValid_v3 hT) (fun t lv st z hd h => pj_rn_ok (pz_X4_isValid_v3 hT) (pm_bks_ok pb_X4_isValid_v3) (pj_as_all (p := pm_Ex 1 4007 ie_X4_isValid.1 pm_rI lf a) (List.forall_mem_cons.mpr ⟨pu_X4_isValid_v3_40 _ (fun c0 c1 s l x y h => ih c0 c1 s l x y _ h), (List.forall_mem_cons.mpr ⟨pu_X4_isValid_v3_56 _ (fun c0 c1 c2 s l x y h => pg_X4_isValid_v3_56 hT (fun a2 a3 s l x y a h => ih a2 a3 s l x y a h) c0 c1 c2 s l x y _ h), (fun _ h => by cases h)⟩)⟩)) 60 t lv st z hd h) [(40, .iload_n 3, 1), (41, .iload_n 2, 1), (42, .if_icmp .ge 31, 3)] 40 [(1, pj_O (15, 1)), (2, pj_I a2), (3, pj_I a3)] [] (s, l, x, y) (pm_bks_ok pb_X4_isValid_v3 _ _ rfl) (pm_ndb_ok rfl) ((pq_X4_isValid_v3_40 n a2 a3 s l x y).symm.trans h)
set_option maxRecDepth 100000 in
theorem pm_X4_isValid_v3 {lf : pj_Z → mj_M} (hT : pj_Lt pj_TC lf)  (s : Nat → Int32) (l : Nat → Int64) (x : Nat → Int32) (y : Nat → Int64) (a : Int32 × pj_Z) (h : pf_X4_isValid_v3  s l x y = some a) : mj_R ic_P 2 4007 [.int (Int32.ofInt 1), .ref 16] (lf (s, l, x, y)) (pm_rI a.1) (lf a.2) := by
  refine pm_main (Y := ie_X4_isValid.1) rfl (Nat.le_of_ble_eq_true rfl) ?_
  exact pj_bl_ok (pz_X4_isValid_v3 hT) (fun t lv st z hd h => pj_rn_ok (pz_X4_isValid_v3 hT) (pm_bks_ok pb_X4_isValid_v3) (pj_as_all (p := pm_Ex 1 4007 ie_X4_isValid.1 pm_rI lf a) (List.forall_mem_cons.mpr ⟨pu_X4_isValid_v3_40 _ (fun c0 c1 s l x y h => pg_X4_isValid_v3_40 hT (pj_fu 0) c0 c1 s l x y _ h), (fun _ h => by cases h)⟩)) 60 t lv st z hd h) [(0, .aload_n 1, 1), (1, .arraylength, 1), (2, .iconst 1, 1), (3, .isub, 1), (4, .istore_n 2, 1), (5, .iload_n 2, 1), (6, .iconst 1, 1), (7, .if_icmp .lt 23, 3)] 0 [(0, pj_N 1), (1, pj_O (15, 1))] [] (s, l, x, y) (pm_bks_ok pb_X4_isValid_v3 _ _ rfl) (pm_ndb_ok rfl) ((pq_X4_isValid_v3_m  s l x y).symm.trans h)
abbrev ph_X4_isValid_v3 {A : Type} : List pj_V → pj_Z → (List pj_V → pj_Z → Option A) → Option A := fun st z K => pj_pr st 15 1 fun st => pj_pc st 1 fun st => pj_ps st (pj_b (pf_X4_isValid_v3  z.1 z.2.1 z.2.2.1 z.2.2.2) fun r s l x y => K (pj_I r :: st) (s, l, x, y))
set_option maxRecDepth 100000 in
theorem pc_X4_isValid_v3 {A : Type} {OK : A → Option Value → mj_M → Prop} {d j pc ix : Nat} {Y : mj_Y} {lf : pj_Z → mj_M} (hT : pj_Lt pj_TC lf) (hd : 2 ≤ d) (hl : mj_lk Y.2.2.2.2 pc = some (.invokestatic ix, 3)) (hg : mj_pG ic_P j ix = some (4007, 2, none)) {lv : List (Nat × Value)} {st : List pj_V} {z : pj_Z} {K : List pj_V → pj_Z → Option A} {a : A} (hK : ∀ st z, K st z = some a → pj_Gd ic_P (mj_R ic_P d) j Y OK lf (pc + 3) lv (pj_es st) z a) (h : ph_X4_isValid_v3 st z K = some a) : pj_Gd ic_P (mj_R ic_P d) j Y OK lf pc lv (pj_es st) z a := by
  obtain ⟨r1, e1, h⟩ := pj_pr_inv h
  obtain ⟨r0, e0, h⟩ := pj_pc_inv h
  obtain ⟨hs, h⟩ := pj_ps_inv h
  obtain ⟨q, hq, h⟩ := pj_b_inv h
  exact pm_cs hl hg [.int (Int32.ofInt 1), .ref 16] rfl (by rw [e1, e0]; rfl) hs (pm_rI q.1) hd (pm_X4_isValid_v3 hT  z.1 z.2.1 z.2.2.1 z.2.2.2 q hq) rfl (hK _ _ h)
abbrev pe_X4_lookOver_v1_66 (f : Int32 → pj_F (Unit × pj_Z)) : pj_K (Unit × pj_Z) := fun lv st z => pj_xr lv 0 1 0 <| pj_xc lv 1 1 <| pj_xr lv 2 14 0 <| pj_xi lv 3 fun a3 => pj_pe st (f a3 z.1 z.2.1 z.2.2.1 z.2.2.2)
abbrev pe_X4_lookOver_v1_70 (f : Int32 → pj_F (Unit × pj_Z)) : pj_K (Unit × pj_Z) := fun lv st z => pj_xr lv 0 1 0 <| pj_xc lv 1 1 <| pj_xr lv 2 14 0 <| pj_xi lv 3 fun a3 => pj_pe st (f a3 z.1 z.2.1 z.2.2.1 z.2.2.2)
abbrev pe_X4_lookOver_v1_71 (f : Int32 → Int32 → pj_F (Unit × pj_Z)) : pj_K (Unit × pj_Z) := fun lv st z => pj_xr lv 0 1 0 <| pj_xc lv 1 1 <| pj_xr lv 2 14 0 <| pj_xi lv 3 fun a3 => pj_pi st fun b0 st => pj_pe st (f a3 b0 z.1 z.2.1 z.2.2.1 z.2.2.2)
abbrev pe_X4_lookOver_v1_96 (f : Int32 → Int32 → Int32 → pj_F (Unit × pj_Z)) : pj_K (Unit × pj_Z) := fun lv st z => pj_xr lv 0 1 0 <| pj_xc lv 1 1 <| pj_xr lv 2 14 0 <| pj_xi lv 3 fun a3 => pj_xi lv 5 fun a5 => pj_pi st fun b2 st => pj_pc st 1 fun st => pj_pr st 18 0 fun st => pj_pe st (f a3 a5 b2 z.1 z.2.1 z.2.2.1 z.2.2.2)
abbrev pe_X4_lookOver_v1_128 (f : Int32 → pj_F (Unit × pj_Z)) : pj_K (Unit × pj_Z) := fun lv st z => pj_pi st fun b2 st => pj_pc st 1 fun st => pj_pr st 19 0 fun st => pj_pe st (f b2 z.1 z.2.1 z.2.2.1 z.2.2.2)
abbrev px_X4_lookOver_v1 : pj_C (Unit × pj_Z) := (pj_TC, (pj_as [(26, 4, 4, 2, true), (32, 4, 6, 2, true), (35, 4, 7, 2, true)]), (fun _ => none), (fun _ => none), (fun _ => none), ic_X, 6, 0, pj_mU, (pj_as [(31, ph_X4_isValid_v2), (39, ph_X4_isValid_v3)]), fun _ => false)
abbrev pk_X4_lookOver_v1 : List (Nat × List (Nat × Instr × Nat)) := [(0, [(0, .iload_n 1, 1), (1, .ifCond .eq 9, 3)]), (4, [(4, .iload_n 1, 1), (5, .iconst 1, 1), (6, .if_icmp .eq 4, 3)]), (10, [(10, .iload_n 1, 1), (11, .iconst 1, 1), (12, .if_icmp .ne 10, 3)]), (15, [(15, .aload_n 0, 1), (16, .getfield 26, 3), (19, .goto 7, 3)]), (26, [(26, .astore_n 2, 1), (27, .iload_n 1, 1), (28, .aload_n 2, 1), (29, .iconst 0, 1), (30, .aaload, 1), (31, .invokestatic 73, 3), (34, .istore_n 3, 1), (35, .iload_n 1, 1), (36, .aload_n 2, 1), (37, .iconst 1, 1), (38, .aaload, 1), (39, .invokestatic 73, 3), (42, .istore 4, 2), (44, .iload 4, 2), (46, .ifCond .eq 24, 3)]), (49, [(49, .iload_n 3, 1), (50, .ifCond .eq 16, 3)]), (53, [(53, .aload_n 2, 1), (54, .iconst 1, 1), (55, .aaload, 1), (56, .iconst 0, 1), (57, .iaload, 1), (58, .aload_n 2, 1), (59, .iconst 0, 1), (60, .aaload, 1), (61, .iconst 0, 1), (62, .iaload, 1), (63, .if_icmp .le 7, 3)]), (66, [(66, .iconst 1, 1), (67, .goto 4, 3)]), (70, [(70, .iconst 0, 1)]), (71, [(71, .istore 5, 2), (73, .aload_n 0, 1), (74, .getfield 32, 3), (77, .iload_n 1, 1), (78, .iload 5, 2), (80, .ifCond .eq 7, 3)]), (83, [(83, .iconst 1, 1), (84, .goto 12, 3)]), (87, [(87, .iload_n 3, 1), (88, .ifCond .eq 7, 3)]), (91, [(91, .iconst 0, 1), (92, .goto 4, 3)]), (95, [(95, .iconst (-1), 1)]), (96, [(96, .iastore, 1), (97, .aload_n 0, 1), (98, .getfield 35, 3), (101, .iload_n 1, 1), (102, .iload 5, 2), (104, .ifCond .eq 11, 3)]), (107, [(107, .aload_n 2, 1), (108, .iconst 1, 1), (109, .aaload, 1), (110, .iconst 0, 1), (111, .iaload, 1), (112, .goto 16, 3)]), (115, [(115, .iload_n 3, 1), (116, .ifCond .eq 11, 3)]), (119, [(119, .aload_n 2, 1), (120, .iconst 0, 1), (121, .aaload, 1), (122, .iconst 0, 1), (123, .iaload, 1), (124, .goto 4, 3)]), (127, [(127, .iconst 0, 1)]), (128, [(128, .iastore, 1), (129, .return_, 1)])]
set_option maxRecDepth 100000 in
theorem pq_X4_lookOver_v1_128 (b2 : Int32) (s : Nat → Int32) (l : Nat → Int64) (x : Nat → Int32) (y : Nat → Int64) : pl_X4_lookOver_v1_128 b2 s l x y = pj_bl px_X4_lookOver_v1 (pj_rn px_X4_lookOver_v1 (pj_as pk_X4_lookOver_v1) (fun _ => none) 60) [(128, .iastore, 1), (129, .return_, 1)] 128 [] [pj_I b2, pj_N 1, pj_O (19, 0)] (s, l, x, y) := rfl
set_option maxRecDepth 100000 in
theorem pq_X4_lookOver_v1_96 (a3 : Int32) (a5 : Int32) (b2 : Int32) (s : Nat → Int32) (l : Nat → Int64) (x : Nat → Int32) (y : Nat → Int64) : pl_X4_lookOver_v1_96 a3 a5 b2 s l x y = pj_bl px_X4_lookOver_v1 (pj_rn px_X4_lookOver_v1 (pj_as pk_X4_lookOver_v1) (pj_as [(128, pe_X4_lookOver_v1_128 (pl_X4_lookOver_v1_128))]) 60) [(96, .iastore, 1), (97, .aload_n 0, 1), (98, .getfield 35, 3), (101, .iload_n 1, 1), (102, .iload 5, 2), (104, .ifCond .eq 11, 3)] 96 [(0, pj_O (1, 0)), (1, pj_N 1), (2, pj_O (14, 0)), (3, pj_I a3), (5, pj_I a5)] [pj_I b2, pj_N 1, pj_O (18, 0)] (s, l, x, y) := rfl
set_option maxRecDepth 100000 in
theorem pq_X4_lookOver_v1_71 (a3 : Int32) (b0 : Int32) (s : Nat → Int32) (l : Nat → Int64) (x : Nat → Int32) (y : Nat → Int64) : pl_X4_lookOver_v1_71 a3 b0 s l x y = pj_bl px_X4_lookOver_v1 (pj_rn px_X4_lookOver_v1 (pj_as pk_X4_lookOver_v1) (pj_as [(96, pe_X4_lookOver_v1_96 (pl_X4_lookOver_v1_96))]) 60) [(71, .istore 5, 2), (73, .aload_n 0, 1), (74, .getfield 32, 3), (77, .iload_n 1, 1), (78, .iload 5, 2), (80, .ifCond .eq 7, 3)] 71 [(0, pj_O (1, 0)), (1, pj_N 1), (2, pj_O (14, 0)), (3, pj_I a3)] [pj_I b0] (s, l, x, y) := rfl
set_option maxRecDepth 100000 in
theorem pq_X4_lookOver_v1_66 (a3 : Int32) (s : Nat → Int32) (l : Nat → Int64) (x : Nat → Int32) (y : Nat → Int64) : pl_X4_lookOver_v1_66 a3 s l x y = pj_bl px_X4_lookOver_v1 (pj_rn px_X4_lookOver_v1 (pj_as pk_X4_lookOver_v1) (pj_as [(71, pe_X4_lookOver_v1_71 (pl_X4_lookOver_v1_71))]) 60) [(66, .iconst 1, 1), (67, .goto 4, 3)] 66 [(0, pj_O (1, 0)), (1, pj_N 1), (2, pj_O (14, 0)), (3, pj_I a3)] [] (s, l, x, y) := rfl
set_option maxRecDepth 100000 in
theorem pq_X4_lookOver_v1_70 (a3 : Int32) (s : Nat → Int32) (l : Nat → Int64) (x : Nat → Int32) (y : Nat → Int64) : pl_X4_lookOver_v1_70 a3 s l x y = pj_bl px_X4_lookOver_v1 (pj_rn px_X4_lookOver_v1 (pj_as pk_X4_lookOver_v1) (pj_as [(71, pe_X4_lookOver_v1_71 (pl_X4_lookOver_v1_71))]) 60) [(70, .iconst 0, 1)] 70 [(0, pj_O (1, 0)), (1, pj_N 1), (2, pj_O (14, 0)), (3, pj_I a3)] [] (s, l, x, y) := rfl
set_option maxRecDepth 100000 in
theorem pq_X4_lookOver_v1_m  (s : Nat → Int32) (l : Nat → Int64) (x : Nat → Int32) (y : Nat → Int64) : pf_X4_lookOver_v1  s l x y = pj_bl px_X4_lookOver_v1 (pj_rn px_X4_lookOver_v1 (pj_as pk_X4_lookOver_v1) (pj_as [(66, pe_X4_lookOver_v1_66 (pl_X4_lookOver_v1_66)), (70, pe_X4_lookOver_v1_70 (pl_X4_lookOver_v1_70))]) 60) [(0, .iload_n 1, 1), (1, .ifCond .eq 9, 3)] 0 [(0, pj_O (1, 0)), (1, pj_N 1)] [] (s, l, x, y) := rfl
theorem pu_X4_lookOver_v1_66 {lf : pj_Z → mj_M} {a : Unit × pj_Z} (f : Int32 → pj_F (Unit × pj_Z)) (hf : ∀ (a3 : Int32) (s : Nat → Int32) (l : Nat → Int64) (x : Nat → Int32) (y : Nat → Int64), f a3 s l x y = some a → pm_Gd 2 4006 ie_X4_lookOver.1 pm_rU lf 66 [(0, .ref 1), (1, .int (Int32.ofInt 1)), (2, .ref 14), (3, .int a3)] [] (s, l, x, y) a) : pm_Ex 2 4006 ie_X4_lookOver.1 pm_rU lf a 66 (pe_X4_lookOver_v1_66 f) := by
  intro lv st z hd h
  obtain ⟨g0, h⟩ := pj_xr_inv h
  obtain ⟨g1, h⟩ := pj_xc_inv h
  obtain ⟨g2, h⟩ := pj_xr_inv h
  obtain ⟨a3, g3, h⟩ := pj_xi_inv h
  obtain ⟨e9, h⟩ := pj_pe_inv h
  rw [e9]
  exact mj_wp_sub (mj_sub_cons g0 (mj_sub_cons g1 (mj_sub_cons g2 (mj_sub_cons g3 (mj_sub_nil hd))))) (hf _ _ _ _ _ h)
theorem pu_X4_lookOver_v1_70 {lf : pj_Z → mj_M} {a : Unit × pj_Z} (f : Int32 → pj_F (Unit × pj_Z)) (hf : ∀ (a3 : Int32) (s : Nat → Int32) (l : Nat → Int64) (x : Nat → Int32) (y : Nat → Int64), f a3 s l x y = some a → pm_Gd 2 4006 ie_X4_lookOver.1 pm_rU lf 70 [(0, .ref 1), (1, .int (Int32.ofInt 1)), (2, .ref 14), (3, .int a3)] [] (s, l, x, y) a) : pm_Ex 2 4006 ie_X4_lookOver.1 pm_rU lf a 70 (pe_X4_lookOver_v1_70 f) := by
  intro lv st z hd h
  obtain ⟨g0, h⟩ := pj_xr_inv h
  obtain ⟨g1, h⟩ := pj_xc_inv h
  obtain ⟨g2, h⟩ := pj_xr_inv h
  obtain ⟨a3, g3, h⟩ := pj_xi_inv h
  obtain ⟨e9, h⟩ := pj_pe_inv h
  rw [e9]
  exact mj_wp_sub (mj_sub_cons g0 (mj_sub_cons g1 (mj_sub_cons g2 (mj_sub_cons g3 (mj_sub_nil hd))))) (hf _ _ _ _ _ h)
theorem pu_X4_lookOver_v1_71 {lf : pj_Z → mj_M} {a : Unit × pj_Z} (f : Int32 → Int32 → pj_F (Unit × pj_Z)) (hf : ∀ (a3 : Int32) (b0 : Int32) (s : Nat → Int32) (l : Nat → Int64) (x : Nat → Int32) (y : Nat → Int64), f a3 b0 s l x y = some a → pm_Gd 2 4006 ie_X4_lookOver.1 pm_rU lf 71 [(0, .ref 1), (1, .int (Int32.ofInt 1)), (2, .ref 14), (3, .int a3)] [.int b0] (s, l, x, y) a) : pm_Ex 2 4006 ie_X4_lookOver.1 pm_rU lf a 71 (pe_X4_lookOver_v1_71 f) := by
  intro lv st z hd h
  obtain ⟨g0, h⟩ := pj_xr_inv h
  obtain ⟨g1, h⟩ := pj_xc_inv h
  obtain ⟨g2, h⟩ := pj_xr_inv h
  obtain ⟨a3, g3, h⟩ := pj_xi_inv h
  obtain ⟨b0, r0, e0, h⟩ := pj_pi_inv h
  obtain ⟨e9, h⟩ := pj_pe_inv h
  rw [e0, e9]
  exact mj_wp_sub (mj_sub_cons g0 (mj_sub_cons g1 (mj_sub_cons g2 (mj_sub_cons g3 (mj_sub_nil hd))))) (hf _ _ _ _ _ _ h)
theorem pu_X4_lookOver_v1_96 {lf : pj_Z → mj_M} {a : Unit × pj_Z} (f : Int32 → Int32 → Int32 → pj_F (Unit × pj_Z)) (hf : ∀ (a3 : Int32) (a5 : Int32) (b2 : Int32) (s : Nat → Int32) (l : Nat → Int64) (x : Nat → Int32) (y : Nat → Int64), f a3 a5 b2 s l x y = some a → pm_Gd 2 4006 ie_X4_lookOver.1 pm_rU lf 96 [(0, .ref 1), (1, .int (Int32.ofInt 1)), (2, .ref 14), (3, .int a3), (5, .int a5)] [.int b2, .int (Int32.ofInt 1), .ref 18] (s, l, x, y) a) : pm_Ex 2 4006 ie_X4_lookOver.1 pm_rU lf a 96 (pe_X4_lookOver_v1_96 f) := by
  intro lv st z hd h
  obtain ⟨g0, h⟩ := pj_xr_inv h
  obtain ⟨g1, h⟩ := pj_xc_inv h
  obtain ⟨g2, h⟩ := pj_xr_inv h
  obtain ⟨a3, g3, h⟩ := pj_xi_inv h
  obtain ⟨a5, g5, h⟩ := pj_xi_inv h
  obtain ⟨b2, r2, e2, h⟩ := pj_pi_inv h
  obtain ⟨r1, e1, h⟩ := pj_pc_inv h
  obtain ⟨r0, e0, h⟩ := pj_pr_inv h
  obtain ⟨e9, h⟩ := pj_pe_inv h
  rw [e2, e1, e0, e9]
  exact mj_wp_sub (mj_sub_cons g0 (mj_sub_cons g1 (mj_sub_cons g2 (mj_sub_cons g3 (mj_sub_cons g5 (mj_sub_nil hd)))))) (hf _ _ _ _ _ _ _ h)
theorem pu_X4_lookOver_v1_128 {lf : pj_Z → mj_M} {a : Unit × pj_Z} (f : Int32 → pj_F (Unit × pj_Z)) (hf : ∀ (b2 : Int32) (s : Nat → Int32) (l : Nat → Int64) (x : Nat → Int32) (y : Nat → Int64), f b2 s l x y = some a → pm_Gd 2 4006 ie_X4_lookOver.1 pm_rU lf 128 [] [.int b2, .int (Int32.ofInt 1), .ref 19] (s, l, x, y) a) : pm_Ex 2 4006 ie_X4_lookOver.1 pm_rU lf a 128 (pe_X4_lookOver_v1_128 f) := by
  intro lv st z hd h
  obtain ⟨b2, r2, e2, h⟩ := pj_pi_inv h
  obtain ⟨r1, e1, h⟩ := pj_pc_inv h
  obtain ⟨r0, e0, h⟩ := pj_pr_inv h
  obtain ⟨e9, h⟩ := pj_pe_inv h
  rw [e2, e1, e0, e9]
  exact mj_wp_sub (mj_sub_nil hd) (hf _ _ _ _ _ h)
set_option maxRecDepth 100000 in
theorem pz_X4_lookOver_v1 {lf : pj_Z → mj_M} (hT : pj_Lt pj_TC lf) : pj_Cok ic_P (mj_R ic_P 2) 4006 ie_X4_lookOver.1 (pm_OK lf pm_rU) lf px_X4_lookOver_v1 := by
  exact pm_cok (c := px_X4_lookOver_v1) hT (pm_in_ok (L := [(26, 4, 4, 2, true), (32, 4, 6, 2, true), (35, 4, 7, 2, true)]) (f := mj_pF ic_P 4006) (by decide +kernel)) (fun _ _ h => by cases h) (fun _ _ h => by cases h) (fun _ _ h => by cases h) rfl rfl ⟨by decide, rfl⟩ pm_mU (pj_as_all (p := pm_Cl 2 4006 ie_X4_lookOver.1 lf (pm_OK lf pm_rU)) (List.forall_mem_cons.mpr ⟨fun _ _ lv st z K a hK h => pc_X4_isValid_v2 hT (by decide) (ix := 73) rfl rfl hK h, (List.forall_mem_cons.mpr ⟨fun _ _ lv st z K a hK h => pc_X4_isValid_v3 hT (by decide) (ix := 73) rfl rfl hK h, (fun _ h => by cases h)⟩)⟩)) (fun _ h => by cases h)
set_option maxRecDepth 100000 in
theorem pb_X4_lookOver_v1 : pm_bks ie_X4_lookOver.1.2.2.2.2 pk_X4_lookOver_v1 = true := by decide +kernel
set_option maxRecDepth 100000 in
theorem pg_X4_lookOver_v1_128 {lf : pj_Z → mj_M} (hT : pj_Lt pj_TC lf) : ∀ (b2 : Int32) (s : Nat → Int32) (l : Nat → Int64) (x : Nat → Int32) (y : Nat → Int64) (a : Unit × pj_Z), pl_X4_lookOver_v1_128 b2 s l x y = some a → pm_Gd 2 4006 ie_X4_lookOver.1 pm_rU lf 128 [] [.int b2, .int (Int32.ofInt 1), .ref 19] (s, l, x, y) a := by
  intro b2 s l x y a h
  exact pj_bl_ok (pz_X4_lookOver_v1 hT) (fun t lv st z hd h => pj_rn_ok (pz_X4_lookOver_v1 hT) (pm_bks_ok pb_X4_lookOver_v1) (fun _ _ h => by cases h) 60 t lv st z hd h) [(128, .iastore, 1), (129, .return_, 1)] 128 [] [pj_I b2, pj_N 1, pj_O (19, 0)] (s, l, x, y) (pm_bks_ok pb_X4_lookOver_v1 _ _ rfl) (pm_ndb_ok rfl) ((pq_X4_lookOver_v1_128  b2 s l x y).symm.trans h)
set_option maxRecDepth 100000 in
theorem pg_X4_lookOver_v1_96 {lf : pj_Z → mj_M} (hT : pj_Lt pj_TC lf) : ∀ (a3 : Int32) (a5 : Int32) (b2 : Int32) (s : Nat → Int32) (l : Nat → Int64) (x : Nat → Int32) (y : Nat → Int64) (a : Unit × pj_Z), pl_X4_lookOver_v1_96 a3 a5 b2 s l x y = some a → pm_Gd 2 4006 ie_X4_lookOver.1 pm_rU lf 96 [(0, .ref 1), (1, .int (Int32.ofInt 1)), (2, .ref 14), (3, .int a3), (5, .int a5)] [.int b2, .int (Int32.ofInt 1), .ref 18] (s, l, x, y) a := by
  intro a3 a5 b2 s l x y a h
  exact pj_bl_ok (pz_X4_lookOver_v1 hT) (fun t lv st z hd h => pj_rn_ok (pz_X4_lookOver_v1 hT) (pm_bks_ok pb_X4_lookOver_v1) (pj_as_all (p := pm_Ex 2 4006 ie_X4_lookOver.1 pm_rU lf a) (List.forall_mem_cons.mpr ⟨pu_X4_lookOver_v1_128 _ (fun c0 s l x y h => pg_X4_lookOver_v1_128 hT c0 s l x y _ h), (fun _ h => by cases h)⟩)) 60 t lv st z hd h) [(96, .iastore, 1), (97, .aload_n 0, 1), (98, .getfield 35, 3), (101, .iload_n 1, 1), (102, .iload 5, 2), (104, .ifCond .eq 11, 3)] 96 [(0, pj_O (1, 0)), (1, pj_N 1), (2, pj_O (14, 0)), (3, pj_I a3), (5, pj_I a5)] [pj_I b2, pj_N 1, pj_O (18, 0)] (s, l, x, y) (pm_bks_ok pb_X4_lookOver_v1 _ _ rfl) (pm_ndb_ok rfl) ((pq_X4_lookOver_v1_96  a3 a5 b2 s l x y).symm.trans h)
set_option maxRecDepth 100000 in
theorem pg_X4_lookOver_v1_71 {lf : pj_Z → mj_M} (hT : pj_Lt pj_TC lf) : ∀ (a3 : Int32) (b0 : Int32) (s : Nat → Int32) (l : Nat → Int64) (x : Nat → Int32) (y : Nat → Int64) (a : Unit × pj_Z), pl_X4_lookOver_v1_71 a3 b0 s l x y = some a → pm_Gd 2 4006 ie_X4_lookOver.1 pm_rU lf 71 [(0, .ref 1), (1, .int (Int32.ofInt 1)), (2, .ref 14), (3, .int a3)] [.int b0] (s, l, x, y) a := by
  intro a3 b0 s l x y a h
  exact pj_bl_ok (pz_X4_lookOver_v1 hT) (fun t lv st z hd h => pj_rn_ok (pz_X4_lookOver_v1 hT) (pm_bks_ok pb_X4_lookOver_v1) (pj_as_all (p := pm_Ex 2 4006 ie_X4_lookOver.1 pm_rU lf a) (List.forall_mem_cons.mpr ⟨pu_X4_lookOver_v1_96 _ (fun c0 c1 c2 s l x y h => pg_X4_lookOver_v1_96 hT c0 c1 c2 s l x y _ h), (fun _ h => by cases h)⟩)) 60 t lv st z hd h) [(71, .istore 5, 2), (73, .aload_n 0, 1), (74, .getfield 32, 3), (77, .iload_n 1, 1), (78, .iload 5, 2), (80, .ifCond .eq 7, 3)] 71 [(0, pj_O (1, 0)), (1, pj_N 1), (2, pj_O (14, 0)), (3, pj_I a3)] [pj_I b0] (s, l, x, y) (pm_bks_ok pb_X4_lookOver_v1 _ _ rfl) (pm_ndb_ok rfl) ((pq_X4_lookOver_v1_71  a3 b0 s l x y).symm.trans h)
set_option maxRecDepth 100000 in
theorem pg_X4_lookOver_v1_66 {lf : pj_Z → mj_M} (hT : pj_Lt pj_TC lf) : ∀ (a3 : Int32) (s : Nat → Int32) (l : Nat → Int64) (x : Nat → Int32) (y : Nat → Int64) (a : Unit × pj_Z), pl_X4_lookOver_v1_66 a3 s l x y = some a → pm_Gd 2 4006 ie_X4_lookOver.1 pm_rU lf 66 [(0, .ref 1), (1, .int (Int32.ofInt 1)), (2, .ref 14), (3, .int a3)] [] (s, l, x, y) a := by
  intro a3 s l x y a h
  exact pj_bl_ok (pz_X4_lookOver_v1 hT) (fun t lv st z hd h => pj_rn_ok (pz_X4_lookOver_v1 hT) (pm_bks_ok pb_X4_lookOver_v1) (pj_as_all (p := pm_Ex 2 4006 ie_X4_lookOver.1 pm_rU lf a) (List.forall_mem_cons.mpr ⟨pu_X4_lookOver_v1_71 _ (fun c0 c1 s l x y h => pg_X4_lookOver_v1_71 hT c0 c1 s l x y _ h), (fun _ h => by cases h)⟩)) 60 t lv st z hd h) [(66, .iconst 1, 1), (67, .goto 4, 3)] 66 [(0, pj_O (1, 0)), (1, pj_N 1), (2, pj_O (14, 0)), (3, pj_I a3)] [] (s, l, x, y) (pm_bks_ok pb_X4_lookOver_v1 _ _ rfl) (pm_ndb_ok rfl) ((pq_X4_lookOver_v1_66  a3 s l x y).symm.trans h)
set_option maxRecDepth 100000 in
theorem pg_X4_lookOver_v1_70 {lf : pj_Z → mj_M} (hT : pj_Lt pj_TC lf) : ∀ (a3 : Int32) (s : Nat → Int32) (l : Nat → Int64) (x : Nat → Int32) (y : Nat → Int64) (a : Unit × pj_Z), pl_X4_lookOver_v1_70 a3 s l x y = some a → pm_Gd 2 4006 ie_X4_lookOver.1 pm_rU lf 70 [(0, .ref 1), (1, .int (Int32.ofInt 1)), (2, .ref 14), (3, .int a3)] [] (s, l, x, y) a := by
  intro a3 s l x y a h
  exact pj_bl_ok (pz_X4_lookOver_v1 hT) (fun t lv st z hd h => pj_rn_ok (pz_X4_lookOver_v1 hT) (pm_bks_ok pb_X4_lookOver_v1) (pj_as_all (p := pm_Ex 2 4006 ie_X4_lookOver.1 pm_rU lf a) (List.forall_mem_cons.mpr ⟨pu_X4_lookOver_v1_71 _ (fun c0 c1 s l x y h => pg_X4_lookOver_v1_71 hT c0 c1 s l x y _ h), (fun _ h => by cases h)⟩)) 60 t lv st z hd h) [(70, .iconst 0, 1)] 70 [(0, pj_O (1, 0)), (1, pj_N 1), (2, pj_O (14, 0)), (3, pj_I a3)] [] (s, l, x, y) (pm_bks_ok pb_X4_lookOver_v1 _ _ rfl) (pm_ndb_ok rfl) ((pq_X4_lookOver_v1_70  a3 s l x y).symm.trans h)
set_option maxRecDepth 100000 in
theorem pm_X4_lookOver_v1 {lf : pj_Z → mj_M} (hT : pj_Lt pj_TC lf)  (s : Nat → Int32) (l : Nat → Int64) (x : Nat → Int32) (y : Nat → Int64) (a : Unit × pj_Z) (h : pf_X4_lookOver_v1  s l x y = some a) : mj_R ic_P 3 4006 [.ref 1, .int (Int32.ofInt 1)] (lf (s, l, x, y)) (pm_rU a.1) (lf a.2) := by
  refine pm_main (Y := ie_X4_lookOver.1) rfl (Nat.le_of_ble_eq_true rfl) ?_
  exact pj_bl_ok (pz_X4_lookOver_v1 hT) (fun t lv st z hd h => pj_rn_ok (pz_X4_lookOver_v1 hT) (pm_bks_ok pb_X4_lookOver_v1) (pj_as_all (p := pm_Ex 2 4006 ie_X4_lookOver.1 pm_rU lf a) (List.forall_mem_cons.mpr ⟨pu_X4_lookOver_v1_66 _ (fun c0 s l x y h => pg_X4_lookOver_v1_66 hT c0 s l x y _ h), (List.forall_mem_cons.mpr ⟨pu_X4_lookOver_v1_70 _ (fun c0 s l x y h => pg_X4_lookOver_v1_70 hT c0 s l x y _ h), (fun _ h => by cases h)⟩)⟩)) 60 t lv st z hd h) [(0, .iload_n 1, 1), (1, .ifCond .eq 9, 3)] 0 [(0, pj_O (1, 0)), (1, pj_N 1)] [] (s, l, x, y) (pm_bks_ok pb_X4_lookOver_v1 _ _ rfl) (pm_ndb_ok rfl) ((pq_X4_lookOver_v1_m  s l x y).symm.trans h)
abbrev ph_X4_lookOver_v1 {A : Type} : List pj_V → pj_Z → (List pj_V → pj_Z → Option A) → Option A := fun st z K => pj_pc st 1 fun st => pj_pr st 1 0 fun st => pj_ps st (pj_b (pf_X4_lookOver_v1  z.1 z.2.1 z.2.2.1 z.2.2.2) fun r s l x y => K st (s, l, x, y))
set_option maxRecDepth 100000 in
theorem pc_X4_lookOver_v1 {A : Type} {OK : A → Option Value → mj_M → Prop} {d j pc ix : Nat} {Y : mj_Y} {lf : pj_Z → mj_M} (hT : pj_Lt pj_TC lf) (hd : 3 ≤ d) (hl : mj_lk Y.2.2.2.2 pc = some (.invokevirtual ix, 3)) (hg : mj_pG ic_P j ix = some (4006, 1, some 4)) {lv : List (Nat × Value)} {st : List pj_V} {z : pj_Z} {K : List pj_V → pj_Z → Option A} {a : A} (hK : ∀ st z, K st z = some a → pj_Gd ic_P (mj_R ic_P d) j Y OK lf (pc + 3) lv (pj_es st) z a) (h : ph_X4_lookOver_v1 st z K = some a) : pj_Gd ic_P (mj_R ic_P d) j Y OK lf pc lv (pj_es st) z a := by
  obtain ⟨r1, e1, h⟩ := pj_pc_inv h
  obtain ⟨r0, e0, h⟩ := pj_pr_inv h
  obtain ⟨hs, h⟩ := pj_ps_inv h
  obtain ⟨q, hq, h⟩ := pj_b_inv h
  exact pm_cv (o := 1) hl hg [.int (Int32.ofInt 1)] rfl (by rw [e1, e0]; rfl) hs (by decide) ((hT.2 1 _ rfl).1.2 z 0 (by decide)) (pm_rU q.1) hd (pm_X4_lookOver_v1 hT  z.1 z.2.1 z.2.2.1 z.2.2.2 q hq) rfl (hK _ _ h)
abbrev pe_X11_tear_19 (f : pj_F (Int32 × pj_Z)) : pj_K (Int32 × pj_Z) := fun lv st z => pj_pe st (f  z.1 z.2.1 z.2.2.1 z.2.2.2)
abbrev px_X11_tear : pj_C (Int32 × pj_Z) := (pj_TC, (pj_as [(10, 11, 0, 2, true), (90, 11, 12, 0, false), (299, 4, 4, 2, true)]), (fun _ => none), (fun _ => none), (fun _ => none), ic_X, 5, 1, pj_mI, (pj_as [(77, ph_X4_lookOver_v1)]), fun _ => false)
abbrev pk_X11_tear : List (Nat × List (Nat × Instr × Nat)) := [(0, [(0, .iload_n 1, 1), (1, .ifCond .lt 18, 3)]), (4, [(4, .iload_n 1, 1), (5, .iconst 1, 1), (6, .if_icmp .gt 13, 3)]), (9, [(9, .iload_n 2, 1), (10, .ifCond .lt 9, 3)]), (13, [(13, .iload_n 2, 1), (14, .bipush 34, 2), (16, .if_icmp .lt 14, 3)]), (19, [(19, .new 158, 3)]), (30, [(30, .aload_n 0, 1), (31, .getfield 90, 3), (34, .ifCond .eq 13, 3)]), (37, [(37, .new 189, 3)]), (47, [(47, .aload_n 0, 1), (48, .getfield 10, 3), (51, .getfield 299, 3), (54, .iload_n 1, 1), (55, .aaload, 1), (56, .iload_n 2, 1), (57, .iaload, 1), (58, .istore 4, 2), (60, .aload_n 0, 1), (61, .getfield 10, 3), (64, .getfield 299, 3), (67, .iload_n 1, 1), (68, .aaload, 1), (69, .iload_n 2, 1), (70, .iload_n 3, 1), (71, .iastore, 1), (72, .aload_n 0, 1), (73, .getfield 10, 3), (76, .iconst 1, 1), (77, .invokevirtual 295, 3), (80, .iload 4, 2), (82, .ireturn, 1)])]
set_option maxRecDepth 100000 in
theorem pq_X11_tear_19  (s : Nat → Int32) (l : Nat → Int64) (x : Nat → Int32) (y : Nat → Int64) : pl_X11_tear_19 s l x y = pj_bl px_X11_tear (pj_rn px_X11_tear (pj_as pk_X11_tear) (fun _ => none) 60) [(19, .new 158, 3)] 19 [] [] (s, l, x, y) := rfl
set_option maxRecDepth 100000 in
theorem pq_X11_tear_m (a1 : Int32) (a2 : Int32) (a3 : Int32) (s : Nat → Int32) (l : Nat → Int64) (x : Nat → Int32) (y : Nat → Int64) : pf_X11_tear a1 a2 a3 s l x y = pj_bl px_X11_tear (pj_rn px_X11_tear (pj_as pk_X11_tear) (pj_as [(19, pe_X11_tear_19 (pl_X11_tear_19))]) 60) [(0, .iload_n 1, 1), (1, .ifCond .lt 18, 3)] 0 [(0, pj_O (0, 0)), (1, pj_I a1), (2, pj_I a2), (3, pj_I a3)] [] (s, l, x, y) := rfl
theorem pu_X11_tear_19 {lf : pj_Z → mj_M} {a : Int32 × pj_Z} (f : pj_F (Int32 × pj_Z)) (hf : ∀  (s : Nat → Int32) (l : Nat → Int64) (x : Nat → Int32) (y : Nat → Int64), f  s l x y = some a → pm_Gd 3 11025 ie_X11_tear.1 pm_rI lf 19 [] [] (s, l, x, y) a) : pm_Ex 3 11025 ie_X11_tear.1 pm_rI lf a 19 (pe_X11_tear_19 f) := by
  intro lv st z hd h
  obtain ⟨e9, h⟩ := pj_pe_inv h
  rw [e9]
  exact mj_wp_sub (mj_sub_nil hd) (hf  _ _ _ _ h)
set_option maxRecDepth 100000 in
theorem pz_X11_tear {lf : pj_Z → mj_M} (hT : pj_Lt pj_TC lf) : pj_Cok ic_P (mj_R ic_P 3) 11025 ie_X11_tear.1 (pm_OK lf pm_rI) lf px_X11_tear := by
  exact pm_cok (c := px_X11_tear) hT (pm_in_ok (L := [(10, 11, 0, 2, true), (90, 11, 12, 0, false), (299, 4, 4, 2, true)]) (f := mj_pF ic_P 11025) (by decide +kernel)) (fun _ _ h => by cases h) (fun _ _ h => by cases h) (fun _ _ h => by cases h) rfl rfl ⟨by decide, rfl⟩ pm_mI (pj_as_all (p := pm_Cl 3 11025 ie_X11_tear.1 lf (pm_OK lf pm_rI)) (List.forall_mem_cons.mpr ⟨fun _ _ lv st z K a hK h => pc_X4_lookOver_v1 hT (by decide) (ix := 295) rfl rfl hK h, (fun _ h => by cases h)⟩)) (fun _ h => by cases h)
set_option maxRecDepth 100000 in
theorem pb_X11_tear : pm_bks ie_X11_tear.1.2.2.2.2 pk_X11_tear = true := by decide +kernel
set_option maxRecDepth 100000 in
theorem pg_X11_tear_19 {lf : pj_Z → mj_M} (hT : pj_Lt pj_TC lf) : ∀  (s : Nat → Int32) (l : Nat → Int64) (x : Nat → Int32) (y : Nat → Int64) (a : Int32 × pj_Z), pl_X11_tear_19 s l x y = some a → pm_Gd 3 11025 ie_X11_tear.1 pm_rI lf 19 [] [] (s, l, x, y) a := by
  intro  s l x y a h
  exact pj_bl_ok (pz_X11_tear hT) (fun t lv st z hd h => pj_rn_ok (pz_X11_tear hT) (pm_bks_ok pb_X11_tear) (fun _ _ h => by cases h) 60 t lv st z hd h) [(19, .new 158, 3)] 19 [] [] (s, l, x, y) (pm_bks_ok pb_X11_tear _ _ rfl) (pm_ndb_ok rfl) ((pq_X11_tear_19   s l x y).symm.trans h)
set_option maxRecDepth 100000 in
theorem pm_X11_tear {lf : pj_Z → mj_M} (hT : pj_Lt pj_TC lf) (a1 : Int32) (a2 : Int32) (a3 : Int32) (s : Nat → Int32) (l : Nat → Int64) (x : Nat → Int32) (y : Nat → Int64) (a : Int32 × pj_Z) (h : pf_X11_tear a1 a2 a3 s l x y = some a) : mj_R ic_P 4 11025 [.ref 0, .int a1, .int a2, .int a3] (lf (s, l, x, y)) (pm_rI a.1) (lf a.2) := by
  refine pm_main (Y := ie_X11_tear.1) rfl (Nat.le_of_ble_eq_true rfl) ?_
  exact pj_bl_ok (pz_X11_tear hT) (fun t lv st z hd h => pj_rn_ok (pz_X11_tear hT) (pm_bks_ok pb_X11_tear) (pj_as_all (p := pm_Ex 3 11025 ie_X11_tear.1 pm_rI lf a) (List.forall_mem_cons.mpr ⟨pu_X11_tear_19 _ (fun  s l x y h => pg_X11_tear_19 hT  s l x y _ h), (fun _ h => by cases h)⟩)) 60 t lv st z hd h) [(0, .iload_n 1, 1), (1, .ifCond .lt 18, 3)] 0 [(0, pj_O (0, 0)), (1, pj_I a1), (2, pj_I a2), (3, pj_I a3)] [] (s, l, x, y) (pm_bks_ok pb_X11_tear _ _ rfl) (pm_ndb_ok rfl) ((pq_X11_tear_m a1 a2 a3 s l x y).symm.trans h)
abbrev ph_X11_tear {A : Type} : List pj_V → pj_Z → (List pj_V → pj_Z → Option A) → Option A := fun st z K => pj_pi st fun a3 st => pj_pi st fun a2 st => pj_pi st fun a1 st => pj_pr st 0 0 fun st => pj_ps st (pj_b (pf_X11_tear a1 a2 a3 z.1 z.2.1 z.2.2.1 z.2.2.2) fun r s l x y => K (pj_I r :: st) (s, l, x, y))
set_option maxRecDepth 100000 in
theorem pc_X11_tear {A : Type} {OK : A → Option Value → mj_M → Prop} {d j pc ix : Nat} {Y : mj_Y} {lf : pj_Z → mj_M} (hT : pj_Lt pj_TC lf) (hd : 4 ≤ d) (hl : mj_lk Y.2.2.2.2 pc = some (.invokevirtual ix, 3)) (hg : mj_pG ic_P j ix = some (11025, 3, some 11)) {lv : List (Nat × Value)} {st : List pj_V} {z : pj_Z} {K : List pj_V → pj_Z → Option A} {a : A} (hK : ∀ st z, K st z = some a → pj_Gd ic_P (mj_R ic_P d) j Y OK lf (pc + 3) lv (pj_es st) z a) (h : ph_X11_tear st z K = some a) : pj_Gd ic_P (mj_R ic_P d) j Y OK lf pc lv (pj_es st) z a := by
  obtain ⟨a3, r3, e3, h⟩ := pj_pi_inv h
  obtain ⟨a2, r2, e2, h⟩ := pj_pi_inv h
  obtain ⟨a1, r1, e1, h⟩ := pj_pi_inv h
  obtain ⟨r0, e0, h⟩ := pj_pr_inv h
  obtain ⟨hs, h⟩ := pj_ps_inv h
  obtain ⟨q, hq, h⟩ := pj_b_inv h
  exact pm_cv (o := 0) hl hg [.int a1, .int a2, .int a3] rfl (by rw [e3, e2, e1, e0]; rfl) hs (by decide) ((hT.2 0 _ rfl).1.2 z 0 (by decide)) (pm_rI q.1) hd (pm_X11_tear hT a1 a2 a3 z.1 z.2.1 z.2.2.1 z.2.2.2 q hq) rfl (hK _ _ h)
abbrev px_X11_lock : pj_C (Int32 × pj_Z) := (pj_TC, (pj_as [(68, 11, 8, 2, true), (90, 11, 12, 0, false), (302, 1, 13, 0, false)]), (fun _ => none), (fun _ => none), (fun _ => none), ic_X, 3, 1, pj_mI, (fun _ => none), fun _ => false)
abbrev pk_X11_lock : List (Nat × List (Nat × Instr × Nat)) := [(0, [(0, .aload_n 0, 1), (1, .getfield 90, 3), (4, .ifCond .eq 13, 3)]), (7, [(7, .new 189, 3)]), (17, [(17, .aload_n 0, 1), (18, .getfield 68, 3), (21, .getfield 302, 3), (24, .istore_n 2, 1), (25, .aload_n 0, 1), (26, .getfield 68, 3), (29, .iload_n 1, 1), (30, .putfield 302, 3), (33, .iload_n 2, 1), (34, .ireturn, 1)])]
set_option maxRecDepth 100000 in
theorem pq_X11_lock_m (a1 : Int32) (s : Nat → Int32) (l : Nat → Int64) (x : Nat → Int32) (y : Nat → Int64) : pf_X11_lock a1 s l x y = pj_bl px_X11_lock (pj_rn px_X11_lock (pj_as pk_X11_lock) (fun _ => none) 60) [(0, .aload_n 0, 1), (1, .getfield 90, 3), (4, .ifCond .eq 13, 3)] 0 [(0, pj_O (0, 0)), (1, pj_I a1)] [] (s, l, x, y) := rfl
set_option maxRecDepth 100000 in
theorem pz_X11_lock {lf : pj_Z → mj_M} (hT : pj_Lt pj_TC lf) : pj_Cok ic_P (mj_R ic_P 0) 11026 ie_X11_lock.1 (pm_OK lf pm_rI) lf px_X11_lock := by
  exact pm_cok (c := px_X11_lock) hT (pm_in_ok (L := [(68, 11, 8, 2, true), (90, 11, 12, 0, false), (302, 1, 13, 0, false)]) (f := mj_pF ic_P 11026) (by decide +kernel)) (fun _ _ h => by cases h) (fun _ _ h => by cases h) (fun _ _ h => by cases h) rfl rfl ⟨by decide, rfl⟩ pm_mI (fun _ _ h => by cases h) (fun _ h => by cases h)
set_option maxRecDepth 100000 in
theorem pb_X11_lock : pm_bks ie_X11_lock.1.2.2.2.2 pk_X11_lock = true := by decide +kernel
set_option maxRecDepth 100000 in
theorem pm_X11_lock {lf : pj_Z → mj_M} (hT : pj_Lt pj_TC lf) (a1 : Int32) (s : Nat → Int32) (l : Nat → Int64) (x : Nat → Int32) (y : Nat → Int64) (a : Int32 × pj_Z) (h : pf_X11_lock a1 s l x y = some a) : mj_R ic_P 1 11026 [.ref 0, .int a1] (lf (s, l, x, y)) (pm_rI a.1) (lf a.2) := by
  refine pm_main (Y := ie_X11_lock.1) rfl (Nat.le_of_ble_eq_true rfl) ?_
  exact pj_bl_ok (pz_X11_lock hT) (fun t lv st z hd h => pj_rn_ok (pz_X11_lock hT) (pm_bks_ok pb_X11_lock) (fun _ _ h => by cases h) 60 t lv st z hd h) [(0, .aload_n 0, 1), (1, .getfield 90, 3), (4, .ifCond .eq 13, 3)] 0 [(0, pj_O (0, 0)), (1, pj_I a1)] [] (s, l, x, y) (pm_bks_ok pb_X11_lock _ _ rfl) (pm_ndb_ok rfl) ((pq_X11_lock_m a1 s l x y).symm.trans h)
abbrev ph_X11_lock {A : Type} : List pj_V → pj_Z → (List pj_V → pj_Z → Option A) → Option A := fun st z K => pj_pi st fun a1 st => pj_pr st 0 0 fun st => pj_ps st (pj_b (pf_X11_lock a1 z.1 z.2.1 z.2.2.1 z.2.2.2) fun r s l x y => K (pj_I r :: st) (s, l, x, y))
set_option maxRecDepth 100000 in
theorem pc_X11_lock {A : Type} {OK : A → Option Value → mj_M → Prop} {d j pc ix : Nat} {Y : mj_Y} {lf : pj_Z → mj_M} (hT : pj_Lt pj_TC lf) (hd : 1 ≤ d) (hl : mj_lk Y.2.2.2.2 pc = some (.invokevirtual ix, 3)) (hg : mj_pG ic_P j ix = some (11026, 1, some 11)) {lv : List (Nat × Value)} {st : List pj_V} {z : pj_Z} {K : List pj_V → pj_Z → Option A} {a : A} (hK : ∀ st z, K st z = some a → pj_Gd ic_P (mj_R ic_P d) j Y OK lf (pc + 3) lv (pj_es st) z a) (h : ph_X11_lock st z K = some a) : pj_Gd ic_P (mj_R ic_P d) j Y OK lf pc lv (pj_es st) z a := by
  obtain ⟨a1, r1, e1, h⟩ := pj_pi_inv h
  obtain ⟨r0, e0, h⟩ := pj_pr_inv h
  obtain ⟨hs, h⟩ := pj_ps_inv h
  obtain ⟨q, hq, h⟩ := pj_b_inv h
  exact pm_cv (o := 0) hl hg [.int a1] rfl (by rw [e1, e0]; rfl) hs (by decide) ((hT.2 0 _ rfl).1.2 z 0 (by decide)) (pm_rI q.1) hd (pm_X11_lock hT a1 z.1 z.2.1 z.2.2.1 z.2.2.2 q hq) rfl (hK _ _ h)
abbrev pe_X3_arm_15 (f : Int32 → pj_F (Unit × pj_Z)) : pj_K (Unit × pj_Z) := fun lv st z => pj_xr lv 0 83 0 <| pj_pi st fun b1 st => pj_pr st 83 0 fun st => pj_pe st (f b1 z.1 z.2.1 z.2.2.1 z.2.2.2)
abbrev px_X3_arm : pj_C (Unit × pj_Z) := (pj_TC, (pj_as [(29, 3, 4, 3, false), (32, 3, 5, 0, false), (35, 3, 6, 3, false), (38, 3, 7, 0, false), (41, 3, 8, 0, false), (44, 3, 9, 3, false)]), (fun _ => none), (fun _ => none), (fun _ => none), ic_X, 2, 0, pj_mU, (fun _ => none), fun _ => false)
abbrev pk_X3_arm : List (Nat × List (Nat × Instr × Nat)) := [(0, [(0, .aload_n 0, 1), (1, .iload_n 1, 1), (2, .putfield 29, 3), (5, .aload_n 0, 1), (6, .iload_n 1, 1), (7, .ifCond .eq 7, 3)]), (10, [(10, .iconst 1, 1), (11, .goto 4, 3)]), (14, [(14, .iconst 0, 1)]), (15, [(15, .putfield 32, 3), (18, .aload_n 0, 1), (19, .iconst 0, 1), (20, .putfield 35, 3), (23, .aload_n 0, 1), (24, .iconst 0, 1), (25, .putfield 38, 3), (28, .aload_n 0, 1), (29, .iconst 0, 1), (30, .putfield 41, 3), (33, .aload_n 0, 1), (34, .iconst 0, 1), (35, .putfield 44, 3), (38, .return_, 1)])]
set_option maxRecDepth 100000 in
theorem pq_X3_arm_15 (b1 : Int32) (s : Nat → Int32) (l : Nat → Int64) (x : Nat → Int32) (y : Nat → Int64) : pl_X3_arm_15 b1 s l x y = pj_bl px_X3_arm (pj_rn px_X3_arm (pj_as pk_X3_arm) (fun _ => none) 60) [(15, .putfield 32, 3), (18, .aload_n 0, 1), (19, .iconst 0, 1), (20, .putfield 35, 3), (23, .aload_n 0, 1), (24, .iconst 0, 1), (25, .putfield 38, 3), (28, .aload_n 0, 1), (29, .iconst 0, 1), (30, .putfield 41, 3), (33, .aload_n 0, 1), (34, .iconst 0, 1), (35, .putfield 44, 3), (38, .return_, 1)] 15 [(0, pj_O (83, 0))] [pj_I b1, pj_O (83, 0)] (s, l, x, y) := rfl
set_option maxRecDepth 100000 in
theorem pq_X3_arm_m (a1 : Int32) (s : Nat → Int32) (l : Nat → Int64) (x : Nat → Int32) (y : Nat → Int64) : pf_X3_arm a1 s l x y = pj_bl px_X3_arm (pj_rn px_X3_arm (pj_as pk_X3_arm) (pj_as [(15, pe_X3_arm_15 (pl_X3_arm_15))]) 60) [(0, .aload_n 0, 1), (1, .iload_n 1, 1), (2, .putfield 29, 3), (5, .aload_n 0, 1), (6, .iload_n 1, 1), (7, .ifCond .eq 7, 3)] 0 [(0, pj_O (83, 0)), (1, pj_I a1)] [] (s, l, x, y) := rfl
theorem pu_X3_arm_15 {lf : pj_Z → mj_M} {a : Unit × pj_Z} (f : Int32 → pj_F (Unit × pj_Z)) (hf : ∀ (b1 : Int32) (s : Nat → Int32) (l : Nat → Int64) (x : Nat → Int32) (y : Nat → Int64), f b1 s l x y = some a → pm_Gd 0 3004 ie_X3_arm.1 pm_rU lf 15 [(0, .ref 83)] [.int b1, .ref 83] (s, l, x, y) a) : pm_Ex 0 3004 ie_X3_arm.1 pm_rU lf a 15 (pe_X3_arm_15 f) := by
  intro lv st z hd h
  obtain ⟨g0, h⟩ := pj_xr_inv h
  obtain ⟨b1, r1, e1, h⟩ := pj_pi_inv h
  obtain ⟨r0, e0, h⟩ := pj_pr_inv h
  obtain ⟨e9, h⟩ := pj_pe_inv h
  rw [e1, e0, e9]
  exact mj_wp_sub (mj_sub_cons g0 (mj_sub_nil hd)) (hf _ _ _ _ _ h)
set_option maxRecDepth 100000 in
theorem pz_X3_arm {lf : pj_Z → mj_M} (hT : pj_Lt pj_TC lf) : pj_Cok ic_P (mj_R ic_P 0) 3004 ie_X3_arm.1 (pm_OK lf pm_rU) lf px_X3_arm := by
  exact pm_cok (c := px_X3_arm) hT (pm_in_ok (L := [(29, 3, 4, 3, false), (32, 3, 5, 0, false), (35, 3, 6, 3, false), (38, 3, 7, 0, false), (41, 3, 8, 0, false), (44, 3, 9, 3, false)]) (f := mj_pF ic_P 3004) (by decide +kernel)) (fun _ _ h => by cases h) (fun _ _ h => by cases h) (fun _ _ h => by cases h) rfl rfl ⟨by decide, rfl⟩ pm_mU (fun _ _ h => by cases h) (fun _ h => by cases h)
set_option maxRecDepth 100000 in
theorem pb_X3_arm : pm_bks ie_X3_arm.1.2.2.2.2 pk_X3_arm = true := by decide +kernel
set_option maxRecDepth 100000 in
theorem pg_X3_arm_15 {lf : pj_Z → mj_M} (hT : pj_Lt pj_TC lf) : ∀ (b1 : Int32) (s : Nat → Int32) (l : Nat → Int64) (x : Nat → Int32) (y : Nat → Int64) (a : Unit × pj_Z), pl_X3_arm_15 b1 s l x y = some a → pm_Gd 0 3004 ie_X3_arm.1 pm_rU lf 15 [(0, .ref 83)] [.int b1, .ref 83] (s, l, x, y) a := by
  intro b1 s l x y a h
  exact pj_bl_ok (pz_X3_arm hT) (fun t lv st z hd h => pj_rn_ok (pz_X3_arm hT) (pm_bks_ok pb_X3_arm) (fun _ _ h => by cases h) 60 t lv st z hd h) [(15, .putfield 32, 3), (18, .aload_n 0, 1), (19, .iconst 0, 1), (20, .putfield 35, 3), (23, .aload_n 0, 1), (24, .iconst 0, 1), (25, .putfield 38, 3), (28, .aload_n 0, 1), (29, .iconst 0, 1), (30, .putfield 41, 3), (33, .aload_n 0, 1), (34, .iconst 0, 1), (35, .putfield 44, 3), (38, .return_, 1)] 15 [(0, pj_O (83, 0))] [pj_I b1, pj_O (83, 0)] (s, l, x, y) (pm_bks_ok pb_X3_arm _ _ rfl) (pm_ndb_ok rfl) ((pq_X3_arm_15  b1 s l x y).symm.trans h)
set_option maxRecDepth 100000 in
theorem pm_X3_arm {lf : pj_Z → mj_M} (hT : pj_Lt pj_TC lf) (a1 : Int32) (s : Nat → Int32) (l : Nat → Int64) (x : Nat → Int32) (y : Nat → Int64) (a : Unit × pj_Z) (h : pf_X3_arm a1 s l x y = some a) : mj_R ic_P 1 3004 [.ref 83, .int a1] (lf (s, l, x, y)) (pm_rU a.1) (lf a.2) := by
  refine pm_main (Y := ie_X3_arm.1) rfl (Nat.le_of_ble_eq_true rfl) ?_
  exact pj_bl_ok (pz_X3_arm hT) (fun t lv st z hd h => pj_rn_ok (pz_X3_arm hT) (pm_bks_ok pb_X3_arm) (pj_as_all (p := pm_Ex 0 3004 ie_X3_arm.1 pm_rU lf a) (List.forall_mem_cons.mpr ⟨pu_X3_arm_15 _ (fun c0 s l x y h => pg_X3_arm_15 hT c0 s l x y _ h), (fun _ h => by cases h)⟩)) 60 t lv st z hd h) [(0, .aload_n 0, 1), (1, .iload_n 1, 1), (2, .putfield 29, 3), (5, .aload_n 0, 1), (6, .iload_n 1, 1), (7, .ifCond .eq 7, 3)] 0 [(0, pj_O (83, 0)), (1, pj_I a1)] [] (s, l, x, y) (pm_bks_ok pb_X3_arm _ _ rfl) (pm_ndb_ok rfl) ((pq_X3_arm_m a1 s l x y).symm.trans h)
abbrev ph_X3_arm {A : Type} : List pj_V → pj_Z → (List pj_V → pj_Z → Option A) → Option A := fun st z K => pj_pi st fun a1 st => pj_pr st 83 0 fun st => pj_ps st (pj_b (pf_X3_arm a1 z.1 z.2.1 z.2.2.1 z.2.2.2) fun r s l x y => K st (s, l, x, y))
set_option maxRecDepth 100000 in
theorem pc_X3_arm {A : Type} {OK : A → Option Value → mj_M → Prop} {d j pc ix : Nat} {Y : mj_Y} {lf : pj_Z → mj_M} (hT : pj_Lt pj_TC lf) (hd : 1 ≤ d) (hl : mj_lk Y.2.2.2.2 pc = some (.invokevirtual ix, 3)) (hg : mj_pG ic_P j ix = some (3004, 1, some 3)) {lv : List (Nat × Value)} {st : List pj_V} {z : pj_Z} {K : List pj_V → pj_Z → Option A} {a : A} (hK : ∀ st z, K st z = some a → pj_Gd ic_P (mj_R ic_P d) j Y OK lf (pc + 3) lv (pj_es st) z a) (h : ph_X3_arm st z K = some a) : pj_Gd ic_P (mj_R ic_P d) j Y OK lf pc lv (pj_es st) z a := by
  obtain ⟨a1, r1, e1, h⟩ := pj_pi_inv h
  obtain ⟨r0, e0, h⟩ := pj_pr_inv h
  obtain ⟨hs, h⟩ := pj_ps_inv h
  obtain ⟨q, hq, h⟩ := pj_b_inv h
  exact pm_cv (o := 83) hl hg [.int a1] rfl (by rw [e1, e0]; rfl) hs (by decide) ((hT.2 83 _ rfl).1.2 z 0 (by decide)) (pm_rU q.1) hd (pm_X3_arm hT a1 z.1 z.2.1 z.2.2.1 z.2.2.2 q hq) rfl (hK _ _ h)
abbrev px_X11_watch : pj_C (Int32 × pj_Z) := (pj_TC, (pj_as [(47, 11, 5, 2, true), (90, 11, 12, 0, false), (307, 3, 4, 3, false)]), (fun _ => none), (fun _ => none), (fun _ => none), ic_X, 3, 2, pj_mI, (pj_as [(32, ph_X3_arm)]), fun _ => false)
abbrev pk_X11_watch : List (Nat × List (Nat × Instr × Nat)) := [(0, [(0, .aload_n 0, 1), (1, .getfield 90, 3), (4, .iconst 1, 1), (5, .if_icmp .eq 14, 3)]), (8, [(8, .new 189, 3)]), (19, [(19, .aload_n 0, 1), (20, .getfield 47, 3), (23, .getfield 307, 3), (26, .istore_n 2, 1), (27, .aload_n 0, 1), (28, .getfield 47, 3), (31, .iload_n 1, 1), (32, .invokevirtual 309, 3), (35, .iload_n 2, 1), (36, .iload_n 1, 1), (37, .if_icmp .eq 7, 3)]), (40, [(40, .iconst 1, 1), (41, .goto 4, 3)]), (44, [(44, .iconst 0, 1)]), (45, [(45, .ireturn, 1)])]
set_option maxRecDepth 100000 in
theorem pq_X11_watch_m (a1 : Int32) (s : Nat → Int32) (l : Nat → Int64) (x : Nat → Int32) (y : Nat → Int64) : pf_X11_watch a1 s l x y = pj_bl px_X11_watch (pj_rn px_X11_watch (pj_as pk_X11_watch) (fun _ => none) 60) [(0, .aload_n 0, 1), (1, .getfield 90, 3), (4, .iconst 1, 1), (5, .if_icmp .eq 14, 3)] 0 [(0, pj_O (0, 0)), (1, pj_I a1)] [] (s, l, x, y) := rfl
set_option maxRecDepth 100000 in
theorem pz_X11_watch {lf : pj_Z → mj_M} (hT : pj_Lt pj_TC lf) : pj_Cok ic_P (mj_R ic_P 1) 11027 ie_X11_watch.1 (pm_OK lf pm_rI) lf px_X11_watch := by
  exact pm_cok (c := px_X11_watch) hT (pm_in_ok (L := [(47, 11, 5, 2, true), (90, 11, 12, 0, false), (307, 3, 4, 3, false)]) (f := mj_pF ic_P 11027) (by decide +kernel)) (fun _ _ h => by cases h) (fun _ _ h => by cases h) (fun _ _ h => by cases h) rfl rfl ⟨by decide, rfl⟩ pm_mI (pj_as_all (p := pm_Cl 1 11027 ie_X11_watch.1 lf (pm_OK lf pm_rI)) (List.forall_mem_cons.mpr ⟨fun _ _ lv st z K a hK h => pc_X3_arm hT (by decide) (ix := 309) rfl rfl hK h, (fun _ h => by cases h)⟩)) (fun _ h => by cases h)
set_option maxRecDepth 100000 in
theorem pb_X11_watch : pm_bks ie_X11_watch.1.2.2.2.2 pk_X11_watch = true := by decide +kernel
set_option maxRecDepth 100000 in
theorem pm_X11_watch {lf : pj_Z → mj_M} (hT : pj_Lt pj_TC lf) (a1 : Int32) (s : Nat → Int32) (l : Nat → Int64) (x : Nat → Int32) (y : Nat → Int64) (a : Int32 × pj_Z) (h : pf_X11_watch a1 s l x y = some a) : mj_R ic_P 2 11027 [.ref 0, .int a1] (lf (s, l, x, y)) (pm_rI a.1) (lf a.2) := by
  refine pm_main (Y := ie_X11_watch.1) rfl (Nat.le_of_ble_eq_true rfl) ?_
  exact pj_bl_ok (pz_X11_watch hT) (fun t lv st z hd h => pj_rn_ok (pz_X11_watch hT) (pm_bks_ok pb_X11_watch) (fun _ _ h => by cases h) 60 t lv st z hd h) [(0, .aload_n 0, 1), (1, .getfield 90, 3), (4, .iconst 1, 1), (5, .if_icmp .eq 14, 3)] 0 [(0, pj_O (0, 0)), (1, pj_I a1)] [] (s, l, x, y) (pm_bks_ok pb_X11_watch _ _ rfl) (pm_ndb_ok rfl) ((pq_X11_watch_m a1 s l x y).symm.trans h)
abbrev ph_X11_watch {A : Type} : List pj_V → pj_Z → (List pj_V → pj_Z → Option A) → Option A := fun st z K => pj_pi st fun a1 st => pj_pr st 0 0 fun st => pj_ps st (pj_b (pf_X11_watch a1 z.1 z.2.1 z.2.2.1 z.2.2.2) fun r s l x y => K (pj_I r :: st) (s, l, x, y))
set_option maxRecDepth 100000 in
theorem pc_X11_watch {A : Type} {OK : A → Option Value → mj_M → Prop} {d j pc ix : Nat} {Y : mj_Y} {lf : pj_Z → mj_M} (hT : pj_Lt pj_TC lf) (hd : 2 ≤ d) (hl : mj_lk Y.2.2.2.2 pc = some (.invokevirtual ix, 3)) (hg : mj_pG ic_P j ix = some (11027, 1, some 11)) {lv : List (Nat × Value)} {st : List pj_V} {z : pj_Z} {K : List pj_V → pj_Z → Option A} {a : A} (hK : ∀ st z, K st z = some a → pj_Gd ic_P (mj_R ic_P d) j Y OK lf (pc + 3) lv (pj_es st) z a) (h : ph_X11_watch st z K = some a) : pj_Gd ic_P (mj_R ic_P d) j Y OK lf pc lv (pj_es st) z a := by
  obtain ⟨a1, r1, e1, h⟩ := pj_pi_inv h
  obtain ⟨r0, e0, h⟩ := pj_pr_inv h
  obtain ⟨hs, h⟩ := pj_ps_inv h
  obtain ⟨q, hq, h⟩ := pj_b_inv h
  exact pm_cv (o := 0) hl hg [.int a1] rfl (by rw [e1, e0]; rfl) hs (by decide) ((hT.2 0 _ rfl).1.2 z 0 (by decide)) (pm_rI q.1) hd (pm_X11_watch hT a1 z.1 z.2.1 z.2.2.1 z.2.2.2 q hq) rfl (hK _ _ h)
abbrev pe_X11_answer_55 (f : Int32 → pj_F (Int32 × pj_Z)) : pj_K (Int32 × pj_Z) := fun lv st z => pj_xr lv 0 0 0 <| pj_pi st fun b1 st => pj_pr st 83 0 fun st => pj_pe st (f b1 z.1 z.2.1 z.2.2.1 z.2.2.2)
abbrev px_X11_answer : pj_C (Int32 × pj_Z) := (pj_TC, (pj_as [(47, 11, 5, 2, true), (307, 3, 4, 3, false), (315, 3, 5, 0, false), (318, 3, 6, 3, false)]), (fun _ => none), (fun _ => none), (fun _ => none), ic_X, 2, 2, pj_mI, (fun _ => none), fun _ => false)
abbrev pk_X11_answer : List (Nat × List (Nat × Instr × Nat)) := [(0, [(0, .aload_n 0, 1), (1, .getfield 47, 3), (4, .getfield 307, 3), (7, .ifCond .ne 14, 3)]), (10, [(10, .new 189, 3)]), (21, [(21, .aload_n 0, 1), (22, .getfield 47, 3), (25, .iload_n 1, 1), (26, .aload_n 0, 1), (27, .getfield 47, 3), (30, .getfield 315, 3), (33, .aload_n 0, 1), (34, .getfield 47, 3), (37, .getfield 315, 3), (40, .imul, 1), (41, .bipush 7, 2), (43, .iadd, 1), (44, .bipush 16, 2), (46, .irem, 1), (47, .if_icmp .ne 7, 3)]), (50, [(50, .iconst 1, 1), (51, .goto 4, 3)]), (54, [(54, .iconst 0, 1)]), (55, [(55, .putfield 318, 3), (58, .aload_n 0, 1), (59, .getfield 47, 3), (62, .getfield 318, 3), (65, .ireturn, 1)])]
set_option maxRecDepth 100000 in
theorem pq_X11_answer_55 (b1 : Int32) (s : Nat → Int32) (l : Nat → Int64) (x : Nat → Int32) (y : Nat → Int64) : pl_X11_answer_55 b1 s l x y = pj_bl px_X11_answer (pj_rn px_X11_answer (pj_as pk_X11_answer) (fun _ => none) 60) [(55, .putfield 318, 3), (58, .aload_n 0, 1), (59, .getfield 47, 3), (62, .getfield 318, 3), (65, .ireturn, 1)] 55 [(0, pj_O (0, 0))] [pj_I b1, pj_O (83, 0)] (s, l, x, y) := rfl
set_option maxRecDepth 100000 in
theorem pq_X11_answer_m (a1 : Int32) (s : Nat → Int32) (l : Nat → Int64) (x : Nat → Int32) (y : Nat → Int64) : pf_X11_answer a1 s l x y = pj_bl px_X11_answer (pj_rn px_X11_answer (pj_as pk_X11_answer) (pj_as [(55, pe_X11_answer_55 (pl_X11_answer_55))]) 60) [(0, .aload_n 0, 1), (1, .getfield 47, 3), (4, .getfield 307, 3), (7, .ifCond .ne 14, 3)] 0 [(0, pj_O (0, 0)), (1, pj_I a1)] [] (s, l, x, y) := rfl
theorem pu_X11_answer_55 {lf : pj_Z → mj_M} {a : Int32 × pj_Z} (f : Int32 → pj_F (Int32 × pj_Z)) (hf : ∀ (b1 : Int32) (s : Nat → Int32) (l : Nat → Int64) (x : Nat → Int32) (y : Nat → Int64), f b1 s l x y = some a → pm_Gd 0 11028 ie_X11_answer.1 pm_rI lf 55 [(0, .ref 0)] [.int b1, .ref 83] (s, l, x, y) a) : pm_Ex 0 11028 ie_X11_answer.1 pm_rI lf a 55 (pe_X11_answer_55 f) := by
  intro lv st z hd h
  obtain ⟨g0, h⟩ := pj_xr_inv h
  obtain ⟨b1, r1, e1, h⟩ := pj_pi_inv h
  obtain ⟨r0, e0, h⟩ := pj_pr_inv h
  obtain ⟨e9, h⟩ := pj_pe_inv h
  rw [e1, e0, e9]
  exact mj_wp_sub (mj_sub_cons g0 (mj_sub_nil hd)) (hf _ _ _ _ _ h)
set_option maxRecDepth 100000 in
theorem pz_X11_answer {lf : pj_Z → mj_M} (hT : pj_Lt pj_TC lf) : pj_Cok ic_P (mj_R ic_P 0) 11028 ie_X11_answer.1 (pm_OK lf pm_rI) lf px_X11_answer := by
  exact pm_cok (c := px_X11_answer) hT (pm_in_ok (L := [(47, 11, 5, 2, true), (307, 3, 4, 3, false), (315, 3, 5, 0, false), (318, 3, 6, 3, false)]) (f := mj_pF ic_P 11028) (by decide +kernel)) (fun _ _ h => by cases h) (fun _ _ h => by cases h) (fun _ _ h => by cases h) rfl rfl ⟨by decide, rfl⟩ pm_mI (fun _ _ h => by cases h) (fun _ h => by cases h)
set_option maxRecDepth 100000 in
theorem pb_X11_answer : pm_bks ie_X11_answer.1.2.2.2.2 pk_X11_answer = true := by decide +kernel
set_option maxRecDepth 100000 in
theorem pg_X11_answer_55 {lf : pj_Z → mj_M} (hT : pj_Lt pj_TC lf) : ∀ (b1 : Int32) (s : Nat → Int32) (l : Nat → Int64) (x : Nat → Int32) (y : Nat → Int64) (a : Int32 × pj_Z), pl_X11_answer_55 b1 s l x y = some a → pm_Gd 0 11028 ie_X11_answer.1 pm_rI lf 55 [(0, .ref 0)] [.int b1, .ref 83] (s, l, x, y) a := by
  intro b1 s l x y a h
  exact pj_bl_ok (pz_X11_answer hT) (fun t lv st z hd h => pj_rn_ok (pz_X11_answer hT) (pm_bks_ok pb_X11_answer) (fun _ _ h => by cases h) 60 t lv st z hd h) [(55, .putfield 318, 3), (58, .aload_n 0, 1), (59, .getfield 47, 3), (62, .getfield 318, 3), (65, .ireturn, 1)] 55 [(0, pj_O (0, 0))] [pj_I b1, pj_O (83, 0)] (s, l, x, y) (pm_bks_ok pb_X11_answer _ _ rfl) (pm_ndb_ok rfl) ((pq_X11_answer_55  b1 s l x y).symm.trans h)
set_option maxRecDepth 100000 in
theorem pm_X11_answer {lf : pj_Z → mj_M} (hT : pj_Lt pj_TC lf) (a1 : Int32) (s : Nat → Int32) (l : Nat → Int64) (x : Nat → Int32) (y : Nat → Int64) (a : Int32 × pj_Z) (h : pf_X11_answer a1 s l x y = some a) : mj_R ic_P 1 11028 [.ref 0, .int a1] (lf (s, l, x, y)) (pm_rI a.1) (lf a.2) := by
  refine pm_main (Y := ie_X11_answer.1) rfl (Nat.le_of_ble_eq_true rfl) ?_
  exact pj_bl_ok (pz_X11_answer hT) (fun t lv st z hd h => pj_rn_ok (pz_X11_answer hT) (pm_bks_ok pb_X11_answer) (pj_as_all (p := pm_Ex 0 11028 ie_X11_answer.1 pm_rI lf a) (List.forall_mem_cons.mpr ⟨pu_X11_answer_55 _ (fun c0 s l x y h => pg_X11_answer_55 hT c0 s l x y _ h), (fun _ h => by cases h)⟩)) 60 t lv st z hd h) [(0, .aload_n 0, 1), (1, .getfield 47, 3), (4, .getfield 307, 3), (7, .ifCond .ne 14, 3)] 0 [(0, pj_O (0, 0)), (1, pj_I a1)] [] (s, l, x, y) (pm_bks_ok pb_X11_answer _ _ rfl) (pm_ndb_ok rfl) ((pq_X11_answer_m a1 s l x y).symm.trans h)
abbrev ph_X11_answer {A : Type} : List pj_V → pj_Z → (List pj_V → pj_Z → Option A) → Option A := fun st z K => pj_pi st fun a1 st => pj_pr st 0 0 fun st => pj_ps st (pj_b (pf_X11_answer a1 z.1 z.2.1 z.2.2.1 z.2.2.2) fun r s l x y => K (pj_I r :: st) (s, l, x, y))
set_option maxRecDepth 100000 in
theorem pc_X11_answer {A : Type} {OK : A → Option Value → mj_M → Prop} {d j pc ix : Nat} {Y : mj_Y} {lf : pj_Z → mj_M} (hT : pj_Lt pj_TC lf) (hd : 1 ≤ d) (hl : mj_lk Y.2.2.2.2 pc = some (.invokevirtual ix, 3)) (hg : mj_pG ic_P j ix = some (11028, 1, some 11)) {lv : List (Nat × Value)} {st : List pj_V} {z : pj_Z} {K : List pj_V → pj_Z → Option A} {a : A} (hK : ∀ st z, K st z = some a → pj_Gd ic_P (mj_R ic_P d) j Y OK lf (pc + 3) lv (pj_es st) z a) (h : ph_X11_answer st z K = some a) : pj_Gd ic_P (mj_R ic_P d) j Y OK lf pc lv (pj_es st) z a := by
  obtain ⟨a1, r1, e1, h⟩ := pj_pi_inv h
  obtain ⟨r0, e0, h⟩ := pj_pr_inv h
  obtain ⟨hs, h⟩ := pj_ps_inv h
  obtain ⟨q, hq, h⟩ := pj_b_inv h
  exact pm_cv (o := 0) hl hg [.int a1] rfl (by rw [e1, e0]; rfl) hs (by decide) ((hT.2 0 _ rfl).1.2 z 0 (by decide)) (pm_rI q.1) hd (pm_X11_answer hT a1 z.1 z.2.1 z.2.2.1 z.2.2.2 q hq) rfl (hK _ _ h)
abbrev pe_X8_take_18 (f : Int32 → Int64 → pj_F (Int32 × pj_Z)) : pj_K (Int32 × pj_Z) := fun lv st z => pj_xr lv 0 96 0 <| pj_xi lv 1 fun a1 => pj_xl lv 2 fun a2 => pj_pe st (f a1 a2 z.1 z.2.1 z.2.2.1 z.2.2.2)
abbrev pe_X8_take_44 (f : pj_F (Int32 × pj_Z)) : pj_K (Int32 × pj_Z) := fun lv st z => pj_xr lv 0 96 0 <| pj_pe st (f  z.1 z.2.1 z.2.2.1 z.2.2.2)
abbrev pe_X8_take_56 (f : Int32 → pj_F (Int32 × pj_Z)) : pj_K (Int32 × pj_Z) := fun lv st z => pj_xr lv 0 96 0 <| pj_xi lv 1 fun a1 => pj_pe st (f a1 z.1 z.2.1 z.2.2.1 z.2.2.2)
abbrev pe_X8_take_88 (f : pj_F (Int32 × pj_Z)) : pj_K (Int32 × pj_Z) := fun lv st z => pj_xr lv 0 96 0 <| pj_pe st (f  z.1 z.2.1 z.2.2.1 z.2.2.2)
abbrev px_X8_take : pj_C (Int32 × pj_Z) := (pj_TC, (pj_as [(9, 8, 0, 2, true), (31, 8, 1, 0, false), (34, 8, 2, 1, false), (48, 8, 6, 0, false)]), (fun _ => none), (pj_as [(69, 20000)]), (fun _ => none), ic_X, 4, 2, pj_mI, (fun _ => none), fun _ => false)
abbrev pk_X8_take : List (Nat × List (Nat × Instr × Nat)) := [(0, [(0, .lload_n 2, 1), (1, .aload_n 0, 1), (2, .getfield 34, 3), (5, .lsub, 1), (6, .ldc2_w 69, 3), (9, .lcmp, 1), (10, .ifCond .le 8, 3)]), (13, [(13, .aload_n 0, 1), (14, .iconst 0, 1), (15, .putfield 31, 3)]), (18, [(18, .aload_n 0, 1), (19, .lload_n 2, 1), (20, .putfield 34, 3), (23, .aload_n 0, 1), (24, .getfield 31, 3), (27, .ifCond .ne 29, 3)]), (30, [(30, .iload_n 1, 1), (31, .sipush 128, 3), (34, .if_icmp .lt 10, 3)]), (37, [(37, .iload_n 1, 1), (38, .bipush 63, 2), (40, .iand, 1), (41, .ifCond .ne 15, 3)]), (44, [(44, .aload_n 0, 1), (45, .dup, 1), (46, .getfield 48, 3), (49, .iconst 1, 1), (50, .iadd, 1), (51, .putfield 48, 3), (54, .iconst 0, 1), (55, .ireturn, 1)]), (56, [(56, .aload_n 0, 1), (57, .getfield 31, 3), (60, .aload_n 0, 1), (61, .getfield 9, 3), (64, .arraylength, 1), (65, .if_icmp .ge 23, 3)]), (68, [(68, .aload_n 0, 1), (69, .getfield 9, 3), (72, .aload_n 0, 1), (73, .getfield 31, 3), (76, .iload_n 1, 1), (77, .iastore, 1), (78, .aload_n 0, 1), (79, .dup, 1), (80, .getfield 31, 3), (83, .iconst 1, 1), (84, .iadd, 1), (85, .putfield 31, 3)]), (88, [(88, .aload_n 0, 1), (89, .getfield 31, 3), (92, .aload_n 0, 1), (93, .getfield 9, 3), (96, .iconst 0, 1), (97, .iaload, 1), (98, .bipush 63, 2), (100, .iand, 1), (101, .iconst 4, 1), (102, .iadd, 1), (103, .if_icmp .lt 7, 3)]), (106, [(106, .iconst 1, 1), (107, .goto 4, 3)]), (110, [(110, .iconst 0, 1)]), (111, [(111, .ireturn, 1)])]
set_option maxRecDepth 100000 in
theorem pq_X8_take_44  (s : Nat → Int32) (l : Nat → Int64) (x : Nat → Int32) (y : Nat → Int64) : pl_X8_take_44 s l x y = pj_bl px_X8_take (pj_rn px_X8_take (pj_as pk_X8_take) (fun _ => none) 60) [(44, .aload_n 0, 1), (45, .dup, 1), (46, .getfield 48, 3), (49, .iconst 1, 1), (50, .iadd, 1), (51, .putfield 48, 3), (54, .iconst 0, 1), (55, .ireturn, 1)] 44 [(0, pj_O (96, 0))] [] (s, l, x, y) := rfl
set_option maxRecDepth 100000 in
theorem pq_X8_take_88  (s : Nat → Int32) (l : Nat → Int64) (x : Nat → Int32) (y : Nat → Int64) : pl_X8_take_88 s l x y = pj_bl px_X8_take (pj_rn px_X8_take (pj_as pk_X8_take) (fun _ => none) 60) [(88, .aload_n 0, 1), (89, .getfield 31, 3), (92, .aload_n 0, 1), (93, .getfield 9, 3), (96, .iconst 0, 1), (97, .iaload, 1), (98, .bipush 63, 2), (100, .iand, 1), (101, .iconst 4, 1), (102, .iadd, 1), (103, .if_icmp .lt 7, 3)] 88 [(0, pj_O (96, 0))] [] (s, l, x, y) := rfl
set_option maxRecDepth 100000 in
theorem pq_X8_take_56 (a1 : Int32) (s : Nat → Int32) (l : Nat → Int64) (x : Nat → Int32) (y : Nat → Int64) : pl_X8_take_56 a1 s l x y = pj_bl px_X8_take (pj_rn px_X8_take (pj_as pk_X8_take) (pj_as [(88, pe_X8_take_88 (pl_X8_take_88))]) 60) [(56, .aload_n 0, 1), (57, .getfield 31, 3), (60, .aload_n 0, 1), (61, .getfield 9, 3), (64, .arraylength, 1), (65, .if_icmp .ge 23, 3)] 56 [(0, pj_O (96, 0)), (1, pj_I a1)] [] (s, l, x, y) := rfl
set_option maxRecDepth 100000 in
theorem pq_X8_take_18 (a1 : Int32) (a2 : Int64) (s : Nat → Int32) (l : Nat → Int64) (x : Nat → Int32) (y : Nat → Int64) : pl_X8_take_18 a1 a2 s l x y = pj_bl px_X8_take (pj_rn px_X8_take (pj_as pk_X8_take) (pj_as [(44, pe_X8_take_44 (pl_X8_take_44)), (56, pe_X8_take_56 (pl_X8_take_56))]) 60) [(18, .aload_n 0, 1), (19, .lload_n 2, 1), (20, .putfield 34, 3), (23, .aload_n 0, 1), (24, .getfield 31, 3), (27, .ifCond .ne 29, 3)] 18 [(0, pj_O (96, 0)), (1, pj_I a1), (2, pj_L a2)] [] (s, l, x, y) := rfl
set_option maxRecDepth 100000 in
theorem pq_X8_take_m (a1 : Int32) (a2 : Int64) (s : Nat → Int32) (l : Nat → Int64) (x : Nat → Int32) (y : Nat → Int64) : pf_X8_take a1 a2 s l x y = pj_bl px_X8_take (pj_rn px_X8_take (pj_as pk_X8_take) (pj_as [(18, pe_X8_take_18 (pl_X8_take_18))]) 60) [(0, .lload_n 2, 1), (1, .aload_n 0, 1), (2, .getfield 34, 3), (5, .lsub, 1), (6, .ldc2_w 69, 3), (9, .lcmp, 1), (10, .ifCond .le 8, 3)] 0 [(0, pj_O (96, 0)), (1, pj_I a1), (2, pj_L a2)] [] (s, l, x, y) := rfl
theorem pu_X8_take_18 {lf : pj_Z → mj_M} {a : Int32 × pj_Z} (f : Int32 → Int64 → pj_F (Int32 × pj_Z)) (hf : ∀ (a1 : Int32) (a2 : Int64) (s : Nat → Int32) (l : Nat → Int64) (x : Nat → Int32) (y : Nat → Int64), f a1 a2 s l x y = some a → pm_Gd 0 8005 ie_X8_take.1 pm_rI lf 18 [(0, .ref 96), (1, .int a1), (2, .long a2)] [] (s, l, x, y) a) : pm_Ex 0 8005 ie_X8_take.1 pm_rI lf a 18 (pe_X8_take_18 f) := by
  intro lv st z hd h
  obtain ⟨g0, h⟩ := pj_xr_inv h
  obtain ⟨a1, g1, h⟩ := pj_xi_inv h
  obtain ⟨a2, g2, h⟩ := pj_xl_inv h
  obtain ⟨e9, h⟩ := pj_pe_inv h
  rw [e9]
  exact mj_wp_sub (mj_sub_cons g0 (mj_sub_cons g1 (mj_sub_cons g2 (mj_sub_nil hd)))) (hf _ _ _ _ _ _ h)
theorem pu_X8_take_44 {lf : pj_Z → mj_M} {a : Int32 × pj_Z} (f : pj_F (Int32 × pj_Z)) (hf : ∀  (s : Nat → Int32) (l : Nat → Int64) (x : Nat → Int32) (y : Nat → Int64), f  s l x y = some a → pm_Gd 0 8005 ie_X8_take.1 pm_rI lf 44 [(0, .ref 96)] [] (s, l, x, y) a) : pm_Ex 0 8005 ie_X8_take.1 pm_rI lf a 44 (pe_X8_take_44 f) := by
  intro lv st z hd h
  obtain ⟨g0, h⟩ := pj_xr_inv h
  obtain ⟨e9, h⟩ := pj_pe_inv h
  rw [e9]
  exact mj_wp_sub (mj_sub_cons g0 (mj_sub_nil hd)) (hf  _ _ _ _ h)
theorem pu_X8_take_56 {lf : pj_Z → mj_M} {a : Int32 × pj_Z} (f : Int32 → pj_F (Int32 × pj_Z)) (hf : ∀ (a1 : Int32) (s : Nat → Int32) (l : Nat → Int64) (x : Nat → Int32) (y : Nat → Int64), f a1 s l x y = some a → pm_Gd 0 8005 ie_X8_take.1 pm_rI lf 56 [(0, .ref 96), (1, .int a1)] [] (s, l, x, y) a) : pm_Ex 0 8005 ie_X8_take.1 pm_rI lf a 56 (pe_X8_take_56 f) := by
  intro lv st z hd h
  obtain ⟨g0, h⟩ := pj_xr_inv h
  obtain ⟨a1, g1, h⟩ := pj_xi_inv h
  obtain ⟨e9, h⟩ := pj_pe_inv h
  rw [e9]
  exact mj_wp_sub (mj_sub_cons g0 (mj_sub_cons g1 (mj_sub_nil hd))) (hf _ _ _ _ _ h)
theorem pu_X8_take_88 {lf : pj_Z → mj_M} {a : Int32 × pj_Z} (f : pj_F (Int32 × pj_Z)) (hf : ∀  (s : Nat → Int32) (l : Nat → Int64) (x : Nat → Int32) (y : Nat → Int64), f  s l x y = some a → pm_Gd 0 8005 ie_X8_take.1 pm_rI lf 88 [(0, .ref 96)] [] (s, l, x, y) a) : pm_Ex 0 8005 ie_X8_take.1 pm_rI lf a 88 (pe_X8_take_88 f) := by
  intro lv st z hd h
  obtain ⟨g0, h⟩ := pj_xr_inv h
  obtain ⟨e9, h⟩ := pj_pe_inv h
  rw [e9]
  exact mj_wp_sub (mj_sub_cons g0 (mj_sub_nil hd)) (hf  _ _ _ _ h)
set_option maxRecDepth 100000 in
theorem pz_X8_take {lf : pj_Z → mj_M} (hT : pj_Lt pj_TC lf) : pj_Cok ic_P (mj_R ic_P 0) 8005 ie_X8_take.1 (pm_OK lf pm_rI) lf px_X8_take := by
  exact pm_cok (c := px_X8_take) hT (pm_in_ok (L := [(9, 8, 0, 2, true), (31, 8, 1, 0, false), (34, 8, 2, 1, false), (48, 8, 6, 0, false)]) (f := mj_pF ic_P 8005) (by decide +kernel)) (fun _ _ h => by cases h) (pm_inL_ok (L := [(69, 20000)]) (f := mj_pL ic_P 8005) (by decide +kernel)) (fun _ _ h => by cases h) rfl rfl ⟨by decide, rfl⟩ pm_mI (fun _ _ h => by cases h) (fun _ h => by cases h)
set_option maxRecDepth 100000 in
theorem pb_X8_take : pm_bks ie_X8_take.1.2.2.2.2 pk_X8_take = true := by decide +kernel
set_option maxRecDepth 100000 in
theorem pg_X8_take_44 {lf : pj_Z → mj_M} (hT : pj_Lt pj_TC lf) : ∀  (s : Nat → Int32) (l : Nat → Int64) (x : Nat → Int32) (y : Nat → Int64) (a : Int32 × pj_Z), pl_X8_take_44 s l x y = some a → pm_Gd 0 8005 ie_X8_take.1 pm_rI lf 44 [(0, .ref 96)] [] (s, l, x, y) a := by
  intro  s l x y a h
  exact pj_bl_ok (pz_X8_take hT) (fun t lv st z hd h => pj_rn_ok (pz_X8_take hT) (pm_bks_ok pb_X8_take) (fun _ _ h => by cases h) 60 t lv st z hd h) [(44, .aload_n 0, 1), (45, .dup, 1), (46, .getfield 48, 3), (49, .iconst 1, 1), (50, .iadd, 1), (51, .putfield 48, 3), (54, .iconst 0, 1), (55, .ireturn, 1)] 44 [(0, pj_O (96, 0))] [] (s, l, x, y) (pm_bks_ok pb_X8_take _ _ rfl) (pm_ndb_ok rfl) ((pq_X8_take_44   s l x y).symm.trans h)
set_option maxRecDepth 100000 in
theorem pg_X8_take_88 {lf : pj_Z → mj_M} (hT : pj_Lt pj_TC lf) : ∀  (s : Nat → Int32) (l : Nat → Int64) (x : Nat → Int32) (y : Nat → Int64) (a : Int32 × pj_Z), pl_X8_take_88 s l x y = some a → pm_Gd 0 8005 ie_X8_take.1 pm_rI lf 88 [(0, .ref 96)] [] (s, l, x, y) a := by
  intro  s l x y a h
  exact pj_bl_ok (pz_X8_take hT) (fun t lv st z hd h => pj_rn_ok (pz_X8_take hT) (pm_bks_ok pb_X8_take) (fun _ _ h => by cases h) 60 t lv st z hd h) [(88, .aload_n 0, 1), (89, .getfield 31, 3), (92, .aload_n 0, 1), (93, .getfield 9, 3), (96, .iconst 0, 1), (97, .iaload, 1), (98, .bipush 63, 2), (100, .iand, 1), (101, .iconst 4, 1), (102, .iadd, 1), (103, .if_icmp .lt 7, 3)] 88 [(0, pj_O (96, 0))] [] (s, l, x, y) (pm_bks_ok pb_X8_take _ _ rfl) (pm_ndb_ok rfl) ((pq_X8_take_88   s l x y).symm.trans h)
set_option maxRecDepth 100000 in
theorem pg_X8_take_56 {lf : pj_Z → mj_M} (hT : pj_Lt pj_TC lf) : ∀ (a1 : Int32) (s : Nat → Int32) (l : Nat → Int64) (x : Nat → Int32) (y : Nat → Int64) (a : Int32 × pj_Z), pl_X8_take_56 a1 s l x y = some a → pm_Gd 0 8005 ie_X8_take.1 pm_rI lf 56 [(0, .ref 96), (1, .int a1)] [] (s, l, x, y) a := by
  intro a1 s l x y a h
  exact pj_bl_ok (pz_X8_take hT) (fun t lv st z hd h => pj_rn_ok (pz_X8_take hT) (pm_bks_ok pb_X8_take) (pj_as_all (p := pm_Ex 0 8005 ie_X8_take.1 pm_rI lf a) (List.forall_mem_cons.mpr ⟨pu_X8_take_88 _ (fun  s l x y h => pg_X8_take_88 hT  s l x y _ h), (fun _ h => by cases h)⟩)) 60 t lv st z hd h) [(56, .aload_n 0, 1), (57, .getfield 31, 3), (60, .aload_n 0, 1), (61, .getfield 9, 3), (64, .arraylength, 1), (65, .if_icmp .ge 23, 3)] 56 [(0, pj_O (96, 0)), (1, pj_I a1)] [] (s, l, x, y) (pm_bks_ok pb_X8_take _ _ rfl) (pm_ndb_ok rfl) ((pq_X8_take_56  a1 s l x y).symm.trans h)
set_option maxRecDepth 100000 in
theorem pg_X8_take_18 {lf : pj_Z → mj_M} (hT : pj_Lt pj_TC lf) : ∀ (a1 : Int32) (a2 : Int64) (s : Nat → Int32) (l : Nat → Int64) (x : Nat → Int32) (y : Nat → Int64) (a : Int32 × pj_Z), pl_X8_take_18 a1 a2 s l x y = some a → pm_Gd 0 8005 ie_X8_take.1 pm_rI lf 18 [(0, .ref 96), (1, .int a1), (2, .long a2)] [] (s, l, x, y) a := by
  intro a1 a2 s l x y a h
  exact pj_bl_ok (pz_X8_take hT) (fun t lv st z hd h => pj_rn_ok (pz_X8_take hT) (pm_bks_ok pb_X8_take) (pj_as_all (p := pm_Ex 0 8005 ie_X8_take.1 pm_rI lf a) (List.forall_mem_cons.mpr ⟨pu_X8_take_44 _ (fun  s l x y h => pg_X8_take_44 hT  s l x y _ h), (List.forall_mem_cons.mpr ⟨pu_X8_take_56 _ (fun c0 s l x y h => pg_X8_take_56 hT c0 s l x y _ h), (fun _ h => by cases h)⟩)⟩)) 60 t lv st z hd h) [(18, .aload_n 0, 1), (19, .lload_n 2, 1), (20, .putfield 34, 3), (23, .aload_n 0, 1), (24, .getfield 31, 3), (27, .ifCond .ne 29, 3)] 18 [(0, pj_O (96, 0)), (1, pj_I a1), (2, pj_L a2)] [] (s, l, x, y) (pm_bks_ok pb_X8_take _ _ rfl) (pm_ndb_ok rfl) ((pq_X8_take_18  a1 a2 s l x y).symm.trans h)
set_option maxRecDepth 100000 in
theorem pm_X8_take {lf : pj_Z → mj_M} (hT : pj_Lt pj_TC lf) (a1 : Int32) (a2 : Int64) (s : Nat → Int32) (l : Nat → Int64) (x : Nat → Int32) (y : Nat → Int64) (a : Int32 × pj_Z) (h : pf_X8_take a1 a2 s l x y = some a) : mj_R ic_P 1 8005 [.ref 96, .int a1, .long a2] (lf (s, l, x, y)) (pm_rI a.1) (lf a.2) := by
  refine pm_main (Y := ie_X8_take.1) rfl (Nat.le_of_ble_eq_true rfl) ?_
  exact pj_bl_ok (pz_X8_take hT) (fun t lv st z hd h => pj_rn_ok (pz_X8_take hT) (pm_bks_ok pb_X8_take) (pj_as_all (p := pm_Ex 0 8005 ie_X8_take.1 pm_rI lf a) (List.forall_mem_cons.mpr ⟨pu_X8_take_18 _ (fun c0 c1 s l x y h => pg_X8_take_18 hT c0 c1 s l x y _ h), (fun _ h => by cases h)⟩)) 60 t lv st z hd h) [(0, .lload_n 2, 1), (1, .aload_n 0, 1), (2, .getfield 34, 3), (5, .lsub, 1), (6, .ldc2_w 69, 3), (9, .lcmp, 1), (10, .ifCond .le 8, 3)] 0 [(0, pj_O (96, 0)), (1, pj_I a1), (2, pj_L a2)] [] (s, l, x, y) (pm_bks_ok pb_X8_take _ _ rfl) (pm_ndb_ok rfl) ((pq_X8_take_m a1 a2 s l x y).symm.trans h)
abbrev ph_X8_take {A : Type} : List pj_V → pj_Z → (List pj_V → pj_Z → Option A) → Option A := fun st z K => pj_pl st fun a2 st => pj_pi st fun a1 st => pj_pr st 96 0 fun st => pj_ps st (pj_b (pf_X8_take a1 a2 z.1 z.2.1 z.2.2.1 z.2.2.2) fun r s l x y => K (pj_I r :: st) (s, l, x, y))
set_option maxRecDepth 100000 in
theorem pc_X8_take {A : Type} {OK : A → Option Value → mj_M → Prop} {d j pc ix : Nat} {Y : mj_Y} {lf : pj_Z → mj_M} (hT : pj_Lt pj_TC lf) (hd : 1 ≤ d) (hl : mj_lk Y.2.2.2.2 pc = some (.invokevirtual ix, 3)) (hg : mj_pG ic_P j ix = some (8005, 2, some 8)) {lv : List (Nat × Value)} {st : List pj_V} {z : pj_Z} {K : List pj_V → pj_Z → Option A} {a : A} (hK : ∀ st z, K st z = some a → pj_Gd ic_P (mj_R ic_P d) j Y OK lf (pc + 3) lv (pj_es st) z a) (h : ph_X8_take st z K = some a) : pj_Gd ic_P (mj_R ic_P d) j Y OK lf pc lv (pj_es st) z a := by
  obtain ⟨a2, r2, e2, h⟩ := pj_pl_inv h
  obtain ⟨a1, r1, e1, h⟩ := pj_pi_inv h
  obtain ⟨r0, e0, h⟩ := pj_pr_inv h
  obtain ⟨hs, h⟩ := pj_ps_inv h
  obtain ⟨q, hq, h⟩ := pj_b_inv h
  exact pm_cv (o := 96) hl hg [.int a1, .long a2] rfl (by rw [e2, e1, e0]; rfl) hs (by decide) ((hT.2 96 _ rfl).1.2 z 0 (by decide)) (pm_rI q.1) hd (pm_X8_take hT a1 a2 z.1 z.2.1 z.2.2.1 z.2.2.2 q hq) rfl (hK _ _ h)
abbrev pe_X8_hasRequest_16 (f : Int32 → Int32 → Int32 → pj_F (Int32 × pj_Z)) : pj_K (Int32 × pj_Z) := fun lv st z => pj_xr lv 0 96 0 <| pj_xi lv 1 fun a1 => pj_xi lv 2 fun a2 => pj_xi lv 3 fun a3 => pj_pe st (f a1 a2 a3 z.1 z.2.1 z.2.2.1 z.2.2.2)
abbrev pe_X8_hasRequest_45 (f : Int32 → Int32 → pj_F (Int32 × pj_Z)) : pj_K (Int32 × pj_Z) := fun lv st z => pj_xr lv 0 96 0 <| pj_xi lv 1 fun a1 => pj_xi lv 2 fun a2 => pj_pe st (f a1 a2 z.1 z.2.1 z.2.2.1 z.2.2.2)
abbrev pe_X8_hasRequest_72 (f : pj_F (Int32 × pj_Z)) : pj_K (Int32 × pj_Z) := fun lv st z => pj_xr lv 0 96 0 <| pj_pe st (f  z.1 z.2.1 z.2.2.1 z.2.2.2)
abbrev pe_X8_hasRequest_109 (f : Int32 → Int32 → pj_F (Int32 × pj_Z)) : pj_K (Int32 × pj_Z) := fun lv st z => pj_xr lv 0 96 0 <| pj_pi st fun b1 st => pj_pi st fun b0 st => pj_pe st (f b0 b1 z.1 z.2.1 z.2.2.1 z.2.2.2)
abbrev pe_X8_hasRequest_131 (f : pj_F (Int32 × pj_Z)) : pj_K (Int32 × pj_Z) := fun lv st z => pj_pe st (f  z.1 z.2.1 z.2.2.1 z.2.2.2)
abbrev px_X8_hasRequest : pj_C (Int32 × pj_Z) := (pj_TC, (pj_as [(9, 8, 0, 2, true), (31, 8, 1, 0, false), (38, 8, 3, 3, false), (48, 8, 6, 0, false)]), (fun _ => none), (fun _ => none), (fun _ => none), ic_X, 4, 2, pj_mI, (fun _ => none), fun _ => false)
abbrev pk_X8_hasRequest : List (Nat × List (Nat × Instr × Nat)) := [(0, [(0, .aload_n 0, 1), (1, .getfield 31, 3), (4, .iconst 1, 1), (5, .isub, 1), (6, .istore_n 1, 1), (7, .aload_n 0, 1), (8, .iconst 0, 1), (9, .putfield 31, 3), (12, .iconst 0, 1), (13, .istore_n 2, 1), (14, .iconst 0, 1), (15, .istore_n 3, 1)]), (16, [(16, .iload_n 3, 1), (17, .iload_n 1, 1), (18, .if_icmp .ge 27, 3)]), (21, [(21, .iload_n 3, 1), (22, .aload_n 0, 1), (23, .getfield 9, 3), (26, .arraylength, 1), (27, .if_icmp .ge 18, 3)]), (30, [(30, .iload_n 2, 1), (31, .aload_n 0, 1), (32, .getfield 9, 3), (35, .iload_n 3, 1), (36, .iaload, 1), (37, .iadd, 1), (38, .istore_n 2, 1), (39, .iinc 3 1, 3), (42, .goto (-26), 3)]), (45, [(45, .iload_n 1, 1), (46, .ifCond .lt 26, 3)]), (49, [(49, .iload_n 1, 1), (50, .aload_n 0, 1), (51, .getfield 9, 3), (54, .arraylength, 1), (55, .if_icmp .ge 17, 3)]), (58, [(58, .aload_n 0, 1), (59, .getfield 9, 3), (62, .iload_n 1, 1), (63, .iaload, 1), (64, .iload_n 2, 1), (65, .sipush 256, 3), (68, .irem, 1), (69, .if_icmp .eq 15, 3)]), (72, [(72, .aload_n 0, 1), (73, .dup, 1), (74, .getfield 48, 3), (77, .iconst 1, 1), (78, .iadd, 1), (79, .putfield 48, 3), (82, .iconst 0, 1), (83, .ireturn, 1)]), (84, [(84, .aload_n 0, 1), (85, .getfield 9, 3), (88, .iconst 1, 1), (89, .iaload, 1), (90, .aload_n 0, 1), (91, .getfield 9, 3), (94, .iconst 0, 1), (95, .iaload, 1), (96, .sipush 192, 3), (99, .if_icmp .ge 8, 3)]), (102, [(102, .bipush 17, 2), (104, .goto 5, 3)]), (107, [(107, .bipush 51, 2)]), (109, [(109, .if_icmp .ne 26, 3)]), (112, [(112, .aload_n 0, 1), (113, .getfield 38, 3), (116, .ifCond .ne 15, 3)]), (119, [(119, .aload_n 0, 1), (120, .getfield 9, 3), (123, .iconst 3, 1), (124, .iaload, 1), (125, .sipush 129, 3), (128, .if_icmp .ne 7, 3)]), (131, [(131, .iconst 1, 1), (132, .goto 4, 3)]), (135, [(135, .iconst 0, 1)]), (136, [(136, .ireturn, 1)])]
set_option maxRecDepth 100000 in
theorem pq_X8_hasRequest_72  (s : Nat → Int32) (l : Nat → Int64) (x : Nat → Int32) (y : Nat → Int64) : pl_X8_hasRequest_72 s l x y = pj_bl px_X8_hasRequest (pj_rn px_X8_hasRequest (pj_as pk_X8_hasRequest) (fun _ => none) 60) [(72, .aload_n 0, 1), (73, .dup, 1), (74, .getfield 48, 3), (77, .iconst 1, 1), (78, .iadd, 1), (79, .putfield 48, 3), (82, .iconst 0, 1), (83, .ireturn, 1)] 72 [(0, pj_O (96, 0))] [] (s, l, x, y) := rfl
set_option maxRecDepth 100000 in
theorem pq_X8_hasRequest_131  (s : Nat → Int32) (l : Nat → Int64) (x : Nat → Int32) (y : Nat → Int64) : pl_X8_hasRequest_131 s l x y = pj_bl px_X8_hasRequest (pj_rn px_X8_hasRequest (pj_as pk_X8_hasRequest) (fun _ => none) 60) [(131, .iconst 1, 1), (132, .goto 4, 3)] 131 [] [] (s, l, x, y) := rfl
set_option maxRecDepth 100000 in
theorem pq_X8_hasRequest_109 (b0 : Int32) (b1 : Int32) (s : Nat → Int32) (l : Nat → Int64) (x : Nat → Int32) (y : Nat → Int64) : pl_X8_hasRequest_109 b0 b1 s l x y = pj_bl px_X8_hasRequest (pj_rn px_X8_hasRequest (pj_as pk_X8_hasRequest) (pj_as [(131, pe_X8_hasRequest_131 (pl_X8_hasRequest_131))]) 60) [(109, .if_icmp .ne 26, 3)] 109 [(0, pj_O (96, 0))] [pj_I b1, pj_I b0] (s, l, x, y) := rfl
set_option maxRecDepth 100000 in
theorem pq_X8_hasRequest_45 (a1 : Int32) (a2 : Int32) (s : Nat → Int32) (l : Nat → Int64) (x : Nat → Int32) (y : Nat → Int64) : pl_X8_hasRequest_45 a1 a2 s l x y = pj_bl px_X8_hasRequest (pj_rn px_X8_hasRequest (pj_as pk_X8_hasRequest) (pj_as [(72, pe_X8_hasRequest_72 (pl_X8_hasRequest_72)), (109, pe_X8_hasRequest_109 (pl_X8_hasRequest_109))]) 60) [(45, .iload_n 1, 1), (46, .ifCond .lt 26, 3)] 45 [(0, pj_O (96, 0)), (1, pj_I a1), (2, pj_I a2)] [] (s, l, x, y) := rfl
set_option maxRecDepth 100000 in
theorem pq_X8_hasRequest_16 (n : Nat) (a1 : Int32) (a2 : Int32) (a3 : Int32) (s : Nat → Int32) (l : Nat → Int64) (x : Nat → Int32) (y : Nat → Int64) : pl_X8_hasRequest_16 (n + 1) a1 a2 a3 s l x y = pj_bl px_X8_hasRequest (pj_rn px_X8_hasRequest (pj_as pk_X8_hasRequest) (pj_as [(16, pe_X8_hasRequest_16 (pl_X8_hasRequest_16 n)), (45, pe_X8_hasRequest_45 (pl_X8_hasRequest_45))]) 60) [(16, .iload_n 3, 1), (17, .iload_n 1, 1), (18, .if_icmp .ge 27, 3)] 16 [(0, pj_O (96, 0)), (1, pj_I a1), (2, pj_I a2), (3, pj_I a3)] [] (s, l, x, y) := rfl
set_option maxRecDepth 100000 in
theorem pq_X8_hasRequest_m  (s : Nat → Int32) (l : Nat → Int64) (x : Nat → Int32) (y : Nat → Int64) : pf_X8_hasRequest  s l x y = pj_bl px_X8_hasRequest (pj_rn px_X8_hasRequest (pj_as pk_X8_hasRequest) (pj_as [(16, pe_X8_hasRequest_16 (pl_X8_hasRequest_16 (pj_fu 0)))]) 60) [(0, .aload_n 0, 1), (1, .getfield 31, 3), (4, .iconst 1, 1), (5, .isub, 1), (6, .istore_n 1, 1), (7, .aload_n 0, 1), (8, .iconst 0, 1), (9, .putfield 31, 3), (12, .iconst 0, 1), (13, .istore_n 2, 1), (14, .iconst 0, 1), (15, .istore_n 3, 1)] 0 [(0, pj_O (96, 0))] [] (s, l, x, y) := rfl
theorem pu_X8_hasRequest_16 {lf : pj_Z → mj_M} {a : Int32 × pj_Z} (f : Int32 → Int32 → Int32 → pj_F (Int32 × pj_Z)) (hf : ∀ (a1 : Int32) (a2 : Int32) (a3 : Int32) (s : Nat → Int32) (l : Nat → Int64) (x : Nat → Int32) (y : Nat → Int64), f a1 a2 a3 s l x y = some a → pm_Gd 0 8006 ie_X8_hasRequest.1 pm_rI lf 16 [(0, .ref 96), (1, .int a1), (2, .int a2), (3, .int a3)] [] (s, l, x, y) a) : pm_Ex 0 8006 ie_X8_hasRequest.1 pm_rI lf a 16 (pe_X8_hasRequest_16 f) := by
  intro lv st z hd h
  obtain ⟨g0, h⟩ := pj_xr_inv h
  obtain ⟨a1, g1, h⟩ := pj_xi_inv h
  obtain ⟨a2, g2, h⟩ := pj_xi_inv h
  obtain ⟨a3, g3, h⟩ := pj_xi_inv h
  obtain ⟨e9, h⟩ := pj_pe_inv h
  rw [e9]
  exact mj_wp_sub (mj_sub_cons g0 (mj_sub_cons g1 (mj_sub_cons g2 (mj_sub_cons g3 (mj_sub_nil hd))))) (hf _ _ _ _ _ _ _ h)
theorem pu_X8_hasRequest_45 {lf : pj_Z → mj_M} {a : Int32 × pj_Z} (f : Int32 → Int32 → pj_F (Int32 × pj_Z)) (hf : ∀ (a1 : Int32) (a2 : Int32) (s : Nat → Int32) (l : Nat → Int64) (x : Nat → Int32) (y : Nat → Int64), f a1 a2 s l x y = some a → pm_Gd 0 8006 ie_X8_hasRequest.1 pm_rI lf 45 [(0, .ref 96), (1, .int a1), (2, .int a2)] [] (s, l, x, y) a) : pm_Ex 0 8006 ie_X8_hasRequest.1 pm_rI lf a 45 (pe_X8_hasRequest_45 f) := by
  intro lv st z hd h
  obtain ⟨g0, h⟩ := pj_xr_inv h
  obtain ⟨a1, g1, h⟩ := pj_xi_inv h
  obtain ⟨a2, g2, h⟩ := pj_xi_inv h
  obtain ⟨e9, h⟩ := pj_pe_inv h
  rw [e9]
  exact mj_wp_sub (mj_sub_cons g0 (mj_sub_cons g1 (mj_sub_cons g2 (mj_sub_nil hd)))) (hf _ _ _ _ _ _ h)
theorem pu_X8_hasRequest_72 {lf : pj_Z → mj_M} {a : Int32 × pj_Z} (f : pj_F (Int32 × pj_Z)) (hf : ∀  (s : Nat → Int32) (l : Nat → Int64) (x : Nat → Int32) (y : Nat → Int64), f  s l x y = some a → pm_Gd 0 8006 ie_X8_hasRequest.1 pm_rI lf 72 [(0, .ref 96)] [] (s, l, x, y) a) : pm_Ex 0 8006 ie_X8_hasRequest.1 pm_rI lf a 72 (pe_X8_hasRequest_72 f) := by
  intro lv st z hd h
  obtain ⟨g0, h⟩ := pj_xr_inv h
  obtain ⟨e9, h⟩ := pj_pe_inv h
  rw [e9]
  exact mj_wp_sub (mj_sub_cons g0 (mj_sub_nil hd)) (hf  _ _ _ _ h)
theorem pu_X8_hasRequest_109 {lf : pj_Z → mj_M} {a : Int32 × pj_Z} (f : Int32 → Int32 → pj_F (Int32 × pj_Z)) (hf : ∀ (b0 : Int32) (b1 : Int32) (s : Nat → Int32) (l : Nat → Int64) (x : Nat → Int32) (y : Nat → Int64), f b0 b1 s l x y = some a → pm_Gd 0 8006 ie_X8_hasRequest.1 pm_rI lf 109 [(0, .ref 96)] [.int b1, .int b0] (s, l, x, y) a) : pm_Ex 0 8006 ie_X8_hasRequest.1 pm_rI lf a 109 (pe_X8_hasRequest_109 f) := by
  intro lv st z hd h
  obtain ⟨g0, h⟩ := pj_xr_inv h
  obtain ⟨b1, r1, e1, h⟩ := pj_pi_inv h
  obtain ⟨b0, r0, e0, h⟩ := pj_pi_inv h
  obtain ⟨e9, h⟩ := pj_pe_inv h
  rw [e1, e0, e9]
  exact mj_wp_sub (mj_sub_cons g0 (mj_sub_nil hd)) (hf _ _ _ _ _ _ h)
theorem pu_X8_hasRequest_131 {lf : pj_Z → mj_M} {a : Int32 × pj_Z} (f : pj_F (Int32 × pj_Z)) (hf : ∀  (s : Nat → Int32) (l : Nat → Int64) (x : Nat → Int32) (y : Nat → Int64), f  s l x y = some a → pm_Gd 0 8006 ie_X8_hasRequest.1 pm_rI lf 131 [] [] (s, l, x, y) a) : pm_Ex 0 8006 ie_X8_hasRequest.1 pm_rI lf a 131 (pe_X8_hasRequest_131 f) := by
  intro lv st z hd h
  obtain ⟨e9, h⟩ := pj_pe_inv h
  rw [e9]
  exact mj_wp_sub (mj_sub_nil hd) (hf  _ _ _ _ h)
set_option maxRecDepth 100000 in
theorem pz_X8_hasRequest {lf : pj_Z → mj_M} (hT : pj_Lt pj_TC lf) : pj_Cok ic_P (mj_R ic_P 0) 8006 ie_X8_hasRequest.1 (pm_OK lf pm_rI) lf px_X8_hasRequest := by
  exact pm_cok (c := px_X8_hasRequest) hT (pm_in_ok (L := [(9, 8, 0, 2, true), (31, 8, 1, 0, false), (38, 8, 3, 3, false), (48, 8, 6, 0, false)]) (f := mj_pF ic_P 8006) (by decide +kernel)) (fun _ _ h => by cases h) (fun _ _ h => by cases h) (fun _ _ h => by cases h) rfl rfl ⟨by decide, rfl⟩ pm_mI (fun _ _ h => by cases h) (fun _ h => by cases h)
set_option maxRecDepth 100000 in
theorem pb_X8_hasRequest : pm_bks ie_X8_hasRequest.1.2.2.2.2 pk_X8_hasRequest = true := by decide +kernel
set_option maxRecDepth 100000 in
theorem pg_X8_hasRequest_72 {lf : pj_Z → mj_M} (hT : pj_Lt pj_TC lf) : ∀  (s : Nat → Int32) (l : Nat → Int64) (x : Nat → Int32) (y : Nat → Int64) (a : Int32 × pj_Z), pl_X8_hasRequest_72 s l x y = some a → pm_Gd 0 8006 ie_X8_hasRequest.1 pm_rI lf 72 [(0, .ref 96)] [] (s, l, x, y) a := by
  intro  s l x y a h
  exact pj_bl_ok (pz_X8_hasRequest hT) (fun t lv st z hd h => pj_rn_ok (pz_X8_hasRequest hT) (pm_bks_ok pb_X8_hasRequest) (fun _ _ h => by cases h) 60 t lv st z hd h) [(72, .aload_n 0, 1), (73, .dup, 1), (74, .getfield 48, 3), (77, .iconst 1, 1), (78, .iadd, 1), (79, .putfield 48, 3), (82, .iconst 0, 1), (83, .ireturn, 1)] 72 [(0, pj_O (96, 0))] [] (s, l, x, y) (pm_bks_ok pb_X8_hasRequest _ _ rfl) (pm_ndb_ok rfl) ((pq_X8_hasRequest_72   s l x y).symm.trans h)
set_option maxRecDepth 100000 in
theorem pg_X8_hasRequest_131 {lf : pj_Z → mj_M} (hT : pj_Lt pj_TC lf) : ∀  (s : Nat → Int32) (l : Nat → Int64) (x : Nat → Int32) (y : Nat → Int64) (a : Int32 × pj_Z), pl_X8_hasRequest_131 s l x y = some a → pm_Gd 0 8006 ie_X8_hasRequest.1 pm_rI lf 131 [] [] (s, l, x, y) a := by
  intro  s l x y a h
  exact pj_bl_ok (pz_X8_hasRequest hT) (fun t lv st z hd h => pj_rn_ok (pz_X8_hasRequest hT) (pm_bks_ok pb_X8_hasRequest) (fun _ _ h => by cases h) 60 t lv st z hd h) [(131, .iconst 1, 1), (132, .goto 4, 3)] 131 [] [] (s, l, x, y) (pm_bks_ok pb_X8_hasRequest _ _ rfl) (pm_ndb_ok rfl) ((pq_X8_hasRequest_131   s l x y).symm.trans h)
set_option maxRecDepth 100000 in
theorem pg_X8_hasRequest_109 {lf : pj_Z → mj_M} (hT : pj_Lt pj_TC lf) : ∀ (b0 : Int32) (b1 : Int32) (s : Nat → Int32) (l : Nat → Int64) (x : Nat → Int32) (y : Nat → Int64) (a : Int32 × pj_Z), pl_X8_hasRequest_109 b0 b1 s l x y = some a → pm_Gd 0 8006 ie_X8_hasRequest.1 pm_rI lf 109 [(0, .ref 96)] [.int b1, .int b0] (s, l, x, y) a := by
  intro b0 b1 s l x y a h
  exact pj_bl_ok (pz_X8_hasRequest hT) (fun t lv st z hd h => pj_rn_ok (pz_X8_hasRequest hT) (pm_bks_ok pb_X8_hasRequest) (pj_as_all (p := pm_Ex 0 8006 ie_X8_hasRequest.1 pm_rI lf a) (List.forall_mem_cons.mpr ⟨pu_X8_hasRequest_131 _ (fun  s l x y h => pg_X8_hasRequest_131 hT  s l x y _ h), (fun _ h => by cases h)⟩)) 60 t lv st z hd h) [(109, .if_icmp .ne 26, 3)] 109 [(0, pj_O (96, 0))] [pj_I b1, pj_I b0] (s, l, x, y) (pm_bks_ok pb_X8_hasRequest _ _ rfl) (pm_ndb_ok rfl) ((pq_X8_hasRequest_109  b0 b1 s l x y).symm.trans h)
set_option maxRecDepth 100000 in
theorem pg_X8_hasRequest_45 {lf : pj_Z → mj_M} (hT : pj_Lt pj_TC lf) : ∀ (a1 : Int32) (a2 : Int32) (s : Nat → Int32) (l : Nat → Int64) (x : Nat → Int32) (y : Nat → Int64) (a : Int32 × pj_Z), pl_X8_hasRequest_45 a1 a2 s l x y = some a → pm_Gd 0 8006 ie_X8_hasRequest.1 pm_rI lf 45 [(0, .ref 96), (1, .int a1), (2, .int a2)] [] (s, l, x, y) a := by
  intro a1 a2 s l x y a h
  exact pj_bl_ok (pz_X8_hasRequest hT) (fun t lv st z hd h => pj_rn_ok (pz_X8_hasRequest hT) (pm_bks_ok pb_X8_hasRequest) (pj_as_all (p := pm_Ex 0 8006 ie_X8_hasRequest.1 pm_rI lf a) (List.forall_mem_cons.mpr ⟨pu_X8_hasRequest_72 _ (fun  s l x y h => pg_X8_hasRequest_72 hT  s l x y _ h), (List.forall_mem_cons.mpr ⟨pu_X8_hasRequest_109 _ (fun c0 c1 s l x y h => pg_X8_hasRequest_109 hT c0 c1 s l x y _ h), (fun _ h => by cases h)⟩)⟩)) 60 t lv st z hd h) [(45, .iload_n 1, 1), (46, .ifCond .lt 26, 3)] 45 [(0, pj_O (96, 0)), (1, pj_I a1), (2, pj_I a2)] [] (s, l, x, y) (pm_bks_ok pb_X8_hasRequest _ _ rfl) (pm_ndb_ok rfl) ((pq_X8_hasRequest_45  a1 a2 s l x y).symm.trans h)
set_option maxRecDepth 100000 in
theorem pg_X8_hasRequest_16 {lf : pj_Z → mj_M} (hT : pj_Lt pj_TC lf) : ∀ (n : Nat), ∀ (a1 : Int32) (a2 : Int32) (a3 : Int32) (s : Nat → Int32) (l : Nat → Int64) (x : Nat → Int32) (y : Nat → Int64) (a : Int32 × pj_Z), pl_X8_hasRequest_16 n a1 a2 a3 s l x y = some a → pm_Gd 0 8006 ie_X8_hasRequest.1 pm_rI lf 16 [(0, .ref 96), (1, .int a1), (2, .int a2), (3, .int a3)] [] (s, l, x, y) a := by
  intro n
  induction n with
  | zero => intro a1 a2 a3 s l x y a h; cases (show (none : Option (Int32 × pj_Z)) = some a from h)
  | succ n ih =>
    intro a1 a2 a3 s l x y a h
    exact pj_bl_ok (pz_X8_hasRequest hT) (fun t lv st z hd h => pj_rn_ok (pz_X8_hasRequest hT) (pm_bks_ok pb_X8_hasRequest) (pj_as_all (p := pm_Ex 0 8006 ie_X8_hasRequest.1 pm_rI lf a) (List.forall_mem_cons.mpr ⟨pu_X8_hasRequest_16 _ (fun c0 c1 c2 s l x y h => ih c0 c1 c2 s l x y _ h), (List.forall_mem_cons.mpr ⟨pu_X8_hasRequest_45 _ (fun c0 c1 s l x y h => pg_X8_hasRequest_45 hT c0 c1 s l x y _ h), (fun _ h => by cases h)⟩)⟩)) 60 t lv st z hd h) [(16, .iload_n 3, 1), (17, .iload_n 1, 1), (18, .if_icmp .ge 27, 3)] 16 [(0, pj_O (96, 0)), (1, pj_I a1), (2, pj_I a2), (3, pj_I a3)] [] (s, l, x, y) (pm_bks_ok pb_X8_hasRequest _ _ rfl) (pm_ndb_ok rfl) ((pq_X8_hasRequest_16 n a1 a2 a3 s l x y).symm.trans h)
set_option maxRecDepth 100000 in
theorem pm_X8_hasRequest {lf : pj_Z → mj_M} (hT : pj_Lt pj_TC lf)  (s : Nat → Int32) (l : Nat → Int64) (x : Nat → Int32) (y : Nat → Int64) (a : Int32 × pj_Z) (h : pf_X8_hasRequest  s l x y = some a) : mj_R ic_P 1 8006 [.ref 96] (lf (s, l, x, y)) (pm_rI a.1) (lf a.2) := by
  refine pm_main (Y := ie_X8_hasRequest.1) rfl (Nat.le_of_ble_eq_true rfl) ?_
  exact pj_bl_ok (pz_X8_hasRequest hT) (fun t lv st z hd h => pj_rn_ok (pz_X8_hasRequest hT) (pm_bks_ok pb_X8_hasRequest) (pj_as_all (p := pm_Ex 0 8006 ie_X8_hasRequest.1 pm_rI lf a) (List.forall_mem_cons.mpr ⟨pu_X8_hasRequest_16 _ (fun c0 c1 c2 s l x y h => pg_X8_hasRequest_16 hT (pj_fu 0) c0 c1 c2 s l x y _ h), (fun _ h => by cases h)⟩)) 60 t lv st z hd h) [(0, .aload_n 0, 1), (1, .getfield 31, 3), (4, .iconst 1, 1), (5, .isub, 1), (6, .istore_n 1, 1), (7, .aload_n 0, 1), (8, .iconst 0, 1), (9, .putfield 31, 3), (12, .iconst 0, 1), (13, .istore_n 2, 1), (14, .iconst 0, 1), (15, .istore_n 3, 1)] 0 [(0, pj_O (96, 0))] [] (s, l, x, y) (pm_bks_ok pb_X8_hasRequest _ _ rfl) (pm_ndb_ok rfl) ((pq_X8_hasRequest_m  s l x y).symm.trans h)
abbrev ph_X8_hasRequest {A : Type} : List pj_V → pj_Z → (List pj_V → pj_Z → Option A) → Option A := fun st z K => pj_pr st 96 0 fun st => pj_ps st (pj_b (pf_X8_hasRequest  z.1 z.2.1 z.2.2.1 z.2.2.2) fun r s l x y => K (pj_I r :: st) (s, l, x, y))
set_option maxRecDepth 100000 in
theorem pc_X8_hasRequest {A : Type} {OK : A → Option Value → mj_M → Prop} {d j pc ix : Nat} {Y : mj_Y} {lf : pj_Z → mj_M} (hT : pj_Lt pj_TC lf) (hd : 1 ≤ d) (hl : mj_lk Y.2.2.2.2 pc = some (.invokevirtual ix, 3)) (hg : mj_pG ic_P j ix = some (8006, 0, some 8)) {lv : List (Nat × Value)} {st : List pj_V} {z : pj_Z} {K : List pj_V → pj_Z → Option A} {a : A} (hK : ∀ st z, K st z = some a → pj_Gd ic_P (mj_R ic_P d) j Y OK lf (pc + 3) lv (pj_es st) z a) (h : ph_X8_hasRequest st z K = some a) : pj_Gd ic_P (mj_R ic_P d) j Y OK lf pc lv (pj_es st) z a := by
  obtain ⟨r0, e0, h⟩ := pj_pr_inv h
  obtain ⟨hs, h⟩ := pj_ps_inv h
  obtain ⟨q, hq, h⟩ := pj_b_inv h
  exact pm_cv (o := 96) hl hg [] rfl (by rw [e0]; rfl) hs (by decide) ((hT.2 96 _ rfl).1.2 z 0 (by decide)) (pm_rI q.1) hd (pm_X8_hasRequest hT  z.1 z.2.1 z.2.2.1 z.2.2.2 q hq) rfl (hK _ _ h)
abbrev px_X8_lengthDue : pj_C (Int32 × pj_Z) := (pj_TC, (fun _ => none), (fun _ => none), (fun _ => none), (fun _ => none), ic_X, 1, 1, pj_mI, (fun _ => none), fun _ => false)
abbrev pk_X8_lengthDue : List (Nat × List (Nat × Instr × Nat)) := [(0, [(0, .iload_n 0, 1), (1, .lookupswitch 143 #[(1, 133), (2, 135), (3, 131), (4, 131), (7, 131), (9, 133), (33, 133), (39, 141), (52, 133), (54, 137), (55, 135), (59, 139), (62, 131), (129, 131), (130, 131)], 131)]), (132, [(132, .iconst 1, 1), (133, .ireturn, 1)]), (134, [(134, .iconst 2, 1), (135, .ireturn, 1)]), (136, [(136, .iconst 3, 1), (137, .ireturn, 1)]), (138, [(138, .iconst 4, 1), (139, .ireturn, 1)]), (140, [(140, .iconst 5, 1), (141, .ireturn, 1)]), (142, [(142, .iconst 0, 1), (143, .ireturn, 1)]), (144, [(144, .iconst (-1), 1), (145, .ireturn, 1)])]
set_option maxRecDepth 100000 in
theorem pq_X8_lengthDue_m (a0 : Int32) (s : Nat → Int32) (l : Nat → Int64) (x : Nat → Int32) (y : Nat → Int64) : pf_X8_lengthDue a0 s l x y = pj_bl px_X8_lengthDue (pj_rn px_X8_lengthDue (pj_as pk_X8_lengthDue) (fun _ => none) 60) [(0, .iload_n 0, 1), (1, .lookupswitch 143 #[(1, 133), (2, 135), (3, 131), (4, 131), (7, 131), (9, 133), (33, 133), (39, 141), (52, 133), (54, 137), (55, 135), (59, 139), (62, 131), (129, 131), (130, 131)], 131)] 0 [(0, pj_I a0)] [] (s, l, x, y) := rfl
set_option maxRecDepth 100000 in
theorem pz_X8_lengthDue {lf : pj_Z → mj_M} (hT : pj_Lt pj_TC lf) : pj_Cok ic_P (mj_R ic_P 0) 8007 ie_X8_lengthDue.1 (pm_OK lf pm_rI) lf px_X8_lengthDue := by
  exact pm_cok (c := px_X8_lengthDue) hT (fun _ _ h => by cases h) (fun _ _ h => by cases h) (fun _ _ h => by cases h) (fun _ _ h => by cases h) rfl rfl ⟨by decide, rfl⟩ pm_mI (fun _ _ h => by cases h) (fun _ h => by cases h)
set_option maxRecDepth 100000 in
theorem pb_X8_lengthDue : pm_bks ie_X8_lengthDue.1.2.2.2.2 pk_X8_lengthDue = true := by decide +kernel
set_option maxRecDepth 100000 in
theorem pm_X8_lengthDue {lf : pj_Z → mj_M} (hT : pj_Lt pj_TC lf) (a0 : Int32) (s : Nat → Int32) (l : Nat → Int64) (x : Nat → Int32) (y : Nat → Int64) (a : Int32 × pj_Z) (h : pf_X8_lengthDue a0 s l x y = some a) : mj_R ic_P 1 8007 [.int a0] (lf (s, l, x, y)) (pm_rI a.1) (lf a.2) := by
  refine pm_main (Y := ie_X8_lengthDue.1) rfl (Nat.le_of_ble_eq_true rfl) ?_
  exact pj_bl_ok (pz_X8_lengthDue hT) (fun t lv st z hd h => pj_rn_ok (pz_X8_lengthDue hT) (pm_bks_ok pb_X8_lengthDue) (fun _ _ h => by cases h) 60 t lv st z hd h) [(0, .iload_n 0, 1), (1, .lookupswitch 143 #[(1, 133), (2, 135), (3, 131), (4, 131), (7, 131), (9, 133), (33, 133), (39, 141), (52, 133), (54, 137), (55, 135), (59, 139), (62, 131), (129, 131), (130, 131)], 131)] 0 [(0, pj_I a0)] [] (s, l, x, y) (pm_bks_ok pb_X8_lengthDue _ _ rfl) (pm_ndb_ok rfl) ((pq_X8_lengthDue_m a0 s l x y).symm.trans h)
abbrev ph_X8_lengthDue {A : Type} : List pj_V → pj_Z → (List pj_V → pj_Z → Option A) → Option A := fun st z K => pj_pi st fun a0 st => pj_ps st (pj_b (pf_X8_lengthDue a0 z.1 z.2.1 z.2.2.1 z.2.2.2) fun r s l x y => K (pj_I r :: st) (s, l, x, y))
set_option maxRecDepth 100000 in
theorem pc_X8_lengthDue {A : Type} {OK : A → Option Value → mj_M → Prop} {d j pc ix : Nat} {Y : mj_Y} {lf : pj_Z → mj_M} (hT : pj_Lt pj_TC lf) (hd : 1 ≤ d) (hl : mj_lk Y.2.2.2.2 pc = some (.invokestatic ix, 3)) (hg : mj_pG ic_P j ix = some (8007, 1, none)) {lv : List (Nat × Value)} {st : List pj_V} {z : pj_Z} {K : List pj_V → pj_Z → Option A} {a : A} (hK : ∀ st z, K st z = some a → pj_Gd ic_P (mj_R ic_P d) j Y OK lf (pc + 3) lv (pj_es st) z a) (h : ph_X8_lengthDue st z K = some a) : pj_Gd ic_P (mj_R ic_P d) j Y OK lf pc lv (pj_es st) z a := by
  obtain ⟨a0, r0, e0, h⟩ := pj_pi_inv h
  obtain ⟨hs, h⟩ := pj_ps_inv h
  obtain ⟨q, hq, h⟩ := pj_b_inv h
  exact pm_cs hl hg [.int a0] rfl (by rw [e0]; rfl) hs (pm_rI q.1) hd (pm_X8_lengthDue hT a0 z.1 z.2.1 z.2.2.1 z.2.2.2 q hq) rfl (hK _ _ h)
abbrev pe_X8_sumIsRight_4 (f : Int32 → Int32 → pj_F (Int32 × pj_Z)) : pj_K (Int32 × pj_Z) := fun lv st z => pj_xr lv 0 96 0 <| pj_xi lv 1 fun a1 => pj_xi lv 2 fun a2 => pj_pe st (f a1 a2 z.1 z.2.1 z.2.2.1 z.2.2.2)
abbrev px_X8_sumIsRight : pj_C (Int32 × pj_Z) := (pj_TC, (pj_as [(9, 8, 0, 2, true), (25, 8, 16, 2, true)]), (pj_as [(125, 65535)]), (fun _ => none), (fun _ => none), ic_X, 3, 2, pj_mI, (fun _ => none), fun _ => false)
abbrev pk_X8_sumIsRight : List (Nat × List (Nat × Instr × Nat)) := [(0, [(0, .iconst 0, 1), (1, .istore_n 1, 1), (2, .iconst 0, 1), (3, .istore_n 2, 1)]), (4, [(4, .iload_n 2, 1), (5, .bipush 16, 2), (7, .if_icmp .ge 18, 3)]), (10, [(10, .iload_n 1, 1), (11, .aload_n 0, 1), (12, .getfield 25, 3), (15, .iload_n 2, 1), (16, .iaload, 1), (17, .iadd, 1), (18, .istore_n 1, 1), (19, .iinc 2 1, 3), (22, .goto (-18), 3)]), (25, [(25, .iload_n 1, 1), (26, .ldc 125, 2), (28, .iand, 1), (29, .aload_n 0, 1), (30, .getfield 9, 3), (33, .iconst 4, 1), (34, .iaload, 1), (35, .bipush 8, 2), (37, .ishl, 1), (38, .aload_n 0, 1), (39, .getfield 9, 3), (42, .iconst 5, 1), (43, .iaload, 1), (44, .ior, 1), (45, .if_icmp .ne 7, 3)]), (48, [(48, .iconst 1, 1), (49, .goto 4, 3)]), (52, [(52, .iconst 0, 1)]), (53, [(53, .ireturn, 1)])]
set_option maxRecDepth 100000 in
theorem pq_X8_sumIsRight_4 (n : Nat) (a1 : Int32) (a2 : Int32) (s : Nat → Int32) (l : Nat → Int64) (x : Nat → Int32) (y : Nat → Int64) : pl_X8_sumIsRight_4 (n + 1) a1 a2 s l x y = pj_bl px_X8_sumIsRight (pj_rn px_X8_sumIsRight (pj_as pk_X8_sumIsRight) (pj_as [(4, pe_X8_sumIsRight_4 (pl_X8_sumIsRight_4 n))]) 60) [(4, .iload_n 2, 1), (5, .bipush 16, 2), (7, .if_icmp .ge 18, 3)] 4 [(0, pj_O (96, 0)), (1, pj_I a1), (2, pj_I a2)] [] (s, l, x, y) := rfl
set_option maxRecDepth 100000 in
theorem pq_X8_sumIsRight_m  (s : Nat → Int32) (l : Nat → Int64) (x : Nat → Int32) (y : Nat → Int64) : pf_X8_sumIsRight  s l x y = pj_bl px_X8_sumIsRight (pj_rn px_X8_sumIsRight (pj_as pk_X8_sumIsRight) (pj_as [(4, pe_X8_sumIsRight_4 (pl_X8_sumIsRight_4 (pj_fu 0)))]) 60) [(0, .iconst 0, 1), (1, .istore_n 1, 1), (2, .iconst 0, 1), (3, .istore_n 2, 1)] 0 [(0, pj_O (96, 0))] [] (s, l, x, y) := rfl
theorem pu_X8_sumIsRight_4 {lf : pj_Z → mj_M} {a : Int32 × pj_Z} (f : Int32 → Int32 → pj_F (Int32 × pj_Z)) (hf : ∀ (a1 : Int32) (a2 : Int32) (s : Nat → Int32) (l : Nat → Int64) (x : Nat → Int32) (y : Nat → Int64), f a1 a2 s l x y = some a → pm_Gd 0 8021 ie_X8_sumIsRight.1 pm_rI lf 4 [(0, .ref 96), (1, .int a1), (2, .int a2)] [] (s, l, x, y) a) : pm_Ex 0 8021 ie_X8_sumIsRight.1 pm_rI lf a 4 (pe_X8_sumIsRight_4 f) := by
  intro lv st z hd h
  obtain ⟨g0, h⟩ := pj_xr_inv h
  obtain ⟨a1, g1, h⟩ := pj_xi_inv h
  obtain ⟨a2, g2, h⟩ := pj_xi_inv h
  obtain ⟨e9, h⟩ := pj_pe_inv h
  rw [e9]
  exact mj_wp_sub (mj_sub_cons g0 (mj_sub_cons g1 (mj_sub_cons g2 (mj_sub_nil hd)))) (hf _ _ _ _ _ _ h)
set_option maxRecDepth 100000 in
theorem pz_X8_sumIsRight {lf : pj_Z → mj_M} (hT : pj_Lt pj_TC lf) : pj_Cok ic_P (mj_R ic_P 0) 8021 ie_X8_sumIsRight.1 (pm_OK lf pm_rI) lf px_X8_sumIsRight := by
  exact pm_cok (c := px_X8_sumIsRight) hT (pm_in_ok (L := [(9, 8, 0, 2, true), (25, 8, 16, 2, true)]) (f := mj_pF ic_P 8021) (by decide +kernel)) (pm_inI_ok (L := [(125, 65535)]) (f := mj_pK ic_P 8021) (by decide +kernel)) (fun _ _ h => by cases h) (fun _ _ h => by cases h) rfl rfl ⟨by decide, rfl⟩ pm_mI (fun _ _ h => by cases h) (fun _ h => by cases h)
set_option maxRecDepth 100000 in
theorem pb_X8_sumIsRight : pm_bks ie_X8_sumIsRight.1.2.2.2.2 pk_X8_sumIsRight = true := by decide +kernel
set_option maxRecDepth 100000 in
theorem pg_X8_sumIsRight_4 {lf : pj_Z → mj_M} (hT : pj_Lt pj_TC lf) : ∀ (n : Nat), ∀ (a1 : Int32) (a2 : Int32) (s : Nat → Int32) (l : Nat → Int64) (x : Nat → Int32) (y : Nat → Int64) (a : Int32 × pj_Z), pl_X8_sumIsRight_4 n a1 a2 s l x y = some a → pm_Gd 0 8021 ie_X8_sumIsRight.1 pm_rI lf 4 [(0, .ref 96), (1, .int a1), (2, .int a2)] [] (s, l, x, y) a := by
  intro n
  induction n with
  | zero => intro a1 a2 s l x y a h; cases (show (none : Option (Int32 × pj_Z)) = some a from h)
  | succ n ih =>
    intro a1 a2 s l x y a h
    exact pj_bl_ok (pz_X8_sumIsRight hT) (fun t lv st z hd h => pj_rn_ok (pz_X8_sumIsRight hT) (pm_bks_ok pb_X8_sumIsRight) (pj_as_all (p := pm_Ex 0 8021 ie_X8_sumIsRight.1 pm_rI lf a) (List.forall_mem_cons.mpr ⟨pu_X8_sumIsRight_4 _ (fun c0 c1 s l x y h => ih c0 c1 s l x y _ h), (fun _ h => by cases h)⟩)) 60 t lv st z hd h) [(4, .iload_n 2, 1), (5, .bipush 16, 2), (7, .if_icmp .ge 18, 3)] 4 [(0, pj_O (96, 0)), (1, pj_I a1), (2, pj_I a2)] [] (s, l, x, y) (pm_bks_ok pb_X8_sumIsRight _ _ rfl) (pm_ndb_ok rfl) ((pq_X8_sumIsRight_4 n a1 a2 s l x y).symm.trans h)
set_option maxRecDepth 100000 in
theorem pm_X8_sumIsRight {lf : pj_Z → mj_M} (hT : pj_Lt pj_TC lf)  (s : Nat → Int32) (l : Nat → Int64) (x : Nat → Int32) (y : Nat → Int64) (a : Int32 × pj_Z) (h : pf_X8_sumIsRight  s l x y = some a) : mj_R ic_P 1 8021 [.ref 96] (lf (s, l, x, y)) (pm_rI a.1) (lf a.2) := by
  refine pm_main (Y := ie_X8_sumIsRight.1) rfl (Nat.le_of_ble_eq_true rfl) ?_
  exact pj_bl_ok (pz_X8_sumIsRight hT) (fun t lv st z hd h => pj_rn_ok (pz_X8_sumIsRight hT) (pm_bks_ok pb_X8_sumIsRight) (pj_as_all (p := pm_Ex 0 8021 ie_X8_sumIsRight.1 pm_rI lf a) (List.forall_mem_cons.mpr ⟨pu_X8_sumIsRight_4 _ (fun c0 c1 s l x y h => pg_X8_sumIsRight_4 hT (pj_fu 0) c0 c1 s l x y _ h), (fun _ h => by cases h)⟩)) 60 t lv st z hd h) [(0, .iconst 0, 1), (1, .istore_n 1, 1), (2, .iconst 0, 1), (3, .istore_n 2, 1)] 0 [(0, pj_O (96, 0))] [] (s, l, x, y) (pm_bks_ok pb_X8_sumIsRight _ _ rfl) (pm_ndb_ok rfl) ((pq_X8_sumIsRight_m  s l x y).symm.trans h)
abbrev ph_X8_sumIsRight {A : Type} : List pj_V → pj_Z → (List pj_V → pj_Z → Option A) → Option A := fun st z K => pj_pr st 96 0 fun st => pj_ps st (pj_b (pf_X8_sumIsRight  z.1 z.2.1 z.2.2.1 z.2.2.2) fun r s l x y => K (pj_I r :: st) (s, l, x, y))
set_option maxRecDepth 100000 in
theorem pc_X8_sumIsRight {A : Type} {OK : A → Option Value → mj_M → Prop} {d j pc ix : Nat} {Y : mj_Y} {lf : pj_Z → mj_M} (hT : pj_Lt pj_TC lf) (hd : 1 ≤ d) (hl : mj_lk Y.2.2.2.2 pc = some (.invokevirtual ix, 3)) (hg : mj_pG ic_P j ix = some (8021, 0, some 8)) {lv : List (Nat × Value)} {st : List pj_V} {z : pj_Z} {K : List pj_V → pj_Z → Option A} {a : A} (hK : ∀ st z, K st z = some a → pj_Gd ic_P (mj_R ic_P d) j Y OK lf (pc + 3) lv (pj_es st) z a) (h : ph_X8_sumIsRight st z K = some a) : pj_Gd ic_P (mj_R ic_P d) j Y OK lf pc lv (pj_es st) z a := by
  obtain ⟨r0, e0, h⟩ := pj_pr_inv h
  obtain ⟨hs, h⟩ := pj_ps_inv h
  obtain ⟨q, hq, h⟩ := pj_b_inv h
  exact pm_cv (o := 96) hl hg [] rfl (by rw [e0]; rfl) hs (by decide) ((hT.2 96 _ rfl).1.2 z 0 (by decide)) (pm_rI q.1) hd (pm_X8_sumIsRight hT  z.1 z.2.1 z.2.2.1 z.2.2.2 q hq) rfl (hK _ _ h)
abbrev pe_X4_writeWord_v2_43 (f : pj_F (Int32 × pj_Z)) : pj_K (Int32 × pj_Z) := fun lv st z => pj_xr lv 0 1 0 <| pj_pe st (f  z.1 z.2.1 z.2.2.1 z.2.2.2)
abbrev px_X4_writeWord_v2 : pj_C (Int32 × pj_Z) := (pj_TC, (pj_as [(38, 4, 8, 0, false), (89, 4, 9, 0, false)]), (fun _ => none), (fun _ => none), (fun _ => none), ic_X, 4, 2, pj_mI, (fun _ => none), fun _ => false)
abbrev pk_X4_writeWord_v2 : List (Nat × List (Nat × Instr × Nat)) := [(0, [(0, .iload_n 2, 1), (1, .ifCond .lt 9, 3)]), (4, [(4, .iload_n 2, 1), (5, .aload_n 1, 1), (6, .arraylength, 1), (7, .if_icmp .lt 5, 3)]), (10, [(10, .iconst 1, 1), (11, .ireturn, 1)]), (12, [(12, .aload_n 1, 1), (13, .iload_n 2, 1), (14, .iload_n 3, 1), (15, .iastore, 1), (16, .aload_n 0, 1), (17, .dup, 1), (18, .getfield 89, 3), (21, .iconst 1, 1), (22, .iadd, 1), (23, .putfield 89, 3), (26, .aload_n 0, 1), (27, .getfield 38, 3), (30, .ifCond .le 13, 3)]), (33, [(33, .aload_n 0, 1), (34, .dup, 1), (35, .getfield 38, 3), (38, .iconst 1, 1), (39, .isub, 1), (40, .putfield 38, 3)]), (43, [(43, .aload_n 0, 1), (44, .getfield 38, 3), (47, .ifCond .ne 10, 3)]), (50, [(50, .aload_n 0, 1), (51, .iconst (-1), 1), (52, .putfield 38, 3), (55, .iconst 0, 1), (56, .ireturn, 1)]), (57, [(57, .iconst 1, 1), (58, .ireturn, 1)])]
set_option maxRecDepth 100000 in
theorem pq_X4_writeWord_v2_43  (s : Nat → Int32) (l : Nat → Int64) (x : Nat → Int32) (y : Nat → Int64) : pl_X4_writeWord_v2_43 s l x y = pj_bl px_X4_writeWord_v2 (pj_rn px_X4_writeWord_v2 (pj_as pk_X4_writeWord_v2) (fun _ => none) 60) [(43, .aload_n 0, 1), (44, .getfield 38, 3), (47, .ifCond .ne 10, 3)] 43 [(0, pj_O (1, 0))] [] (s, l, x, y) := rfl
set_option maxRecDepth 100000 in
theorem pq_X4_writeWord_v2_m (a2 : Int32) (a3 : Int32) (s : Nat → Int32) (l : Nat → Int64) (x : Nat → Int32) (y : Nat → Int64) : pf_X4_writeWord_v2 a2 a3 s l x y = pj_bl px_X4_writeWord_v2 (pj_rn px_X4_writeWord_v2 (pj_as pk_X4_writeWord_v2) (pj_as [(43, pe_X4_writeWord_v2_43 (pl_X4_writeWord_v2_43))]) 60) [(0, .iload_n 2, 1), (1, .ifCond .lt 9, 3)] 0 [(0, pj_O (1, 0)), (1, pj_O (15, 1)), (2, pj_I a2), (3, pj_I a3)] [] (s, l, x, y) := rfl
theorem pu_X4_writeWord_v2_43 {lf : pj_Z → mj_M} {a : Int32 × pj_Z} (f : pj_F (Int32 × pj_Z)) (hf : ∀  (s : Nat → Int32) (l : Nat → Int64) (x : Nat → Int32) (y : Nat → Int64), f  s l x y = some a → pm_Gd 0 4010 ie_X4_writeWord.1 pm_rI lf 43 [(0, .ref 1)] [] (s, l, x, y) a) : pm_Ex 0 4010 ie_X4_writeWord.1 pm_rI lf a 43 (pe_X4_writeWord_v2_43 f) := by
  intro lv st z hd h
  obtain ⟨g0, h⟩ := pj_xr_inv h
  obtain ⟨e9, h⟩ := pj_pe_inv h
  rw [e9]
  exact mj_wp_sub (mj_sub_cons g0 (mj_sub_nil hd)) (hf  _ _ _ _ h)
set_option maxRecDepth 100000 in
theorem pz_X4_writeWord_v2 {lf : pj_Z → mj_M} (hT : pj_Lt pj_TC lf) : pj_Cok ic_P (mj_R ic_P 0) 4010 ie_X4_writeWord.1 (pm_OK lf pm_rI) lf px_X4_writeWord_v2 := by
  exact pm_cok (c := px_X4_writeWord_v2) hT (pm_in_ok (L := [(38, 4, 8, 0, false), (89, 4, 9, 0, false)]) (f := mj_pF ic_P 4010) (by decide +kernel)) (fun _ _ h => by cases h) (fun _ _ h => by cases h) (fun _ _ h => by cases h) rfl rfl ⟨by decide, rfl⟩ pm_mI (fun _ _ h => by cases h) (fun _ h => by cases h)
set_option maxRecDepth 100000 in
theorem pb_X4_writeWord_v2 : pm_bks ie_X4_writeWord.1.2.2.2.2 pk_X4_writeWord_v2 = true := by decide +kernel
set_option maxRecDepth 100000 in
theorem pg_X4_writeWord_v2_43 {lf : pj_Z → mj_M} (hT : pj_Lt pj_TC lf) : ∀  (s : Nat → Int32) (l : Nat → Int64) (x : Nat → Int32) (y : Nat → Int64) (a : Int32 × pj_Z), pl_X4_writeWord_v2_43 s l x y = some a → pm_Gd 0 4010 ie_X4_writeWord.1 pm_rI lf 43 [(0, .ref 1)] [] (s, l, x, y) a := by
  intro  s l x y a h
  exact pj_bl_ok (pz_X4_writeWord_v2 hT) (fun t lv st z hd h => pj_rn_ok (pz_X4_writeWord_v2 hT) (pm_bks_ok pb_X4_writeWord_v2) (fun _ _ h => by cases h) 60 t lv st z hd h) [(43, .aload_n 0, 1), (44, .getfield 38, 3), (47, .ifCond .ne 10, 3)] 43 [(0, pj_O (1, 0))] [] (s, l, x, y) (pm_bks_ok pb_X4_writeWord_v2 _ _ rfl) (pm_ndb_ok rfl) ((pq_X4_writeWord_v2_43   s l x y).symm.trans h)
set_option maxRecDepth 100000 in
theorem pm_X4_writeWord_v2 {lf : pj_Z → mj_M} (hT : pj_Lt pj_TC lf) (a2 : Int32) (a3 : Int32) (s : Nat → Int32) (l : Nat → Int64) (x : Nat → Int32) (y : Nat → Int64) (a : Int32 × pj_Z) (h : pf_X4_writeWord_v2 a2 a3 s l x y = some a) : mj_R ic_P 1 4010 [.ref 1, .ref 16, .int a2, .int a3] (lf (s, l, x, y)) (pm_rI a.1) (lf a.2) := by
  refine pm_main (Y := ie_X4_writeWord.1) rfl (Nat.le_of_ble_eq_true rfl) ?_
  exact pj_bl_ok (pz_X4_writeWord_v2 hT) (fun t lv st z hd h => pj_rn_ok (pz_X4_writeWord_v2 hT) (pm_bks_ok pb_X4_writeWord_v2) (pj_as_all (p := pm_Ex 0 4010 ie_X4_writeWord.1 pm_rI lf a) (List.forall_mem_cons.mpr ⟨pu_X4_writeWord_v2_43 _ (fun  s l x y h => pg_X4_writeWord_v2_43 hT  s l x y _ h), (fun _ h => by cases h)⟩)) 60 t lv st z hd h) [(0, .iload_n 2, 1), (1, .ifCond .lt 9, 3)] 0 [(0, pj_O (1, 0)), (1, pj_O (15, 1)), (2, pj_I a2), (3, pj_I a3)] [] (s, l, x, y) (pm_bks_ok pb_X4_writeWord_v2 _ _ rfl) (pm_ndb_ok rfl) ((pq_X4_writeWord_v2_m a2 a3 s l x y).symm.trans h)
abbrev ph_X4_writeWord_v2 {A : Type} : List pj_V → pj_Z → (List pj_V → pj_Z → Option A) → Option A := fun st z K => pj_pi st fun a3 st => pj_pi st fun a2 st => pj_pr st 15 1 fun st => pj_pr st 1 0 fun st => pj_ps st (pj_b (pf_X4_writeWord_v2 a2 a3 z.1 z.2.1 z.2.2.1 z.2.2.2) fun r s l x y => K (pj_I r :: st) (s, l, x, y))
set_option maxRecDepth 100000 in
theorem pc_X4_writeWord_v2 {A : Type} {OK : A → Option Value → mj_M → Prop} {d j pc ix : Nat} {Y : mj_Y} {lf : pj_Z → mj_M} (hT : pj_Lt pj_TC lf) (hd : 1 ≤ d) (hl : mj_lk Y.2.2.2.2 pc = some (.invokevirtual ix, 3)) (hg : mj_pG ic_P j ix = some (4010, 3, some 4)) {lv : List (Nat × Value)} {st : List pj_V} {z : pj_Z} {K : List pj_V → pj_Z → Option A} {a : A} (hK : ∀ st z, K st z = some a → pj_Gd ic_P (mj_R ic_P d) j Y OK lf (pc + 3) lv (pj_es st) z a) (h : ph_X4_writeWord_v2 st z K = some a) : pj_Gd ic_P (mj_R ic_P d) j Y OK lf pc lv (pj_es st) z a := by
  obtain ⟨a3, r3, e3, h⟩ := pj_pi_inv h
  obtain ⟨a2, r2, e2, h⟩ := pj_pi_inv h
  obtain ⟨r1, e1, h⟩ := pj_pr_inv h
  obtain ⟨r0, e0, h⟩ := pj_pr_inv h
  obtain ⟨hs, h⟩ := pj_ps_inv h
  obtain ⟨q, hq, h⟩ := pj_b_inv h
  exact pm_cv (o := 1) hl hg [.ref 16, .int a2, .int a3] rfl (by rw [e3, e2, e1, e0]; rfl) hs (by decide) ((hT.2 1 _ rfl).1.2 z 0 (by decide)) (pm_rI q.1) hd (pm_X4_writeWord_v2 hT a2 a3 z.1 z.2.1 z.2.2.1 z.2.2.2 q hq) rfl (hK _ _ h)
abbrev pe_X4_writeWord_v3_43 (f : pj_F (Int32 × pj_Z)) : pj_K (Int32 × pj_Z) := fun lv st z => pj_xr lv 0 1 0 <| pj_pe st (f  z.1 z.2.1 z.2.2.1 z.2.2.2)
abbrev px_X4_writeWord_v3 : pj_C (Int32 × pj_Z) := (pj_TC, (pj_as [(38, 4, 8, 0, false), (89, 4, 9, 0, false)]), (fun _ => none), (fun _ => none), (fun _ => none), ic_X, 4, 2, pj_mI, (fun _ => none), fun _ => false)
abbrev pk_X4_writeWord_v3 : List (Nat × List (Nat × Instr × Nat)) := [(0, [(0, .iload_n 2, 1), (1, .ifCond .lt 9, 3)]), (4, [(4, .iload_n 2, 1), (5, .aload_n 1, 1), (6, .arraylength, 1), (7, .if_icmp .lt 5, 3)]), (10, [(10, .iconst 1, 1), (11, .ireturn, 1)]), (12, [(12, .aload_n 1, 1), (13, .iload_n 2, 1), (14, .iload_n 3, 1), (15, .iastore, 1), (16, .aload_n 0, 1), (17, .dup, 1), (18, .getfield 89, 3), (21, .iconst 1, 1), (22, .iadd, 1), (23, .putfield 89, 3), (26, .aload_n 0, 1), (27, .getfield 38, 3), (30, .ifCond .le 13, 3)]), (33, [(33, .aload_n 0, 1), (34, .dup, 1), (35, .getfield 38, 3), (38, .iconst 1, 1), (39, .isub, 1), (40, .putfield 38, 3)]), (43, [(43, .aload_n 0, 1), (44, .getfield 38, 3), (47, .ifCond .ne 10, 3)]), (50, [(50, .aload_n 0, 1), (51, .iconst (-1), 1), (52, .putfield 38, 3), (55, .iconst 0, 1), (56, .ireturn, 1)]), (57, [(57, .iconst 1, 1), (58, .ireturn, 1)])]
set_option maxRecDepth 100000 in
theorem pq_X4_writeWord_v3_43  (s : Nat → Int32) (l : Nat → Int64) (x : Nat → Int32) (y : Nat → Int64) : pl_X4_writeWord_v3_43 s l x y = pj_bl px_X4_writeWord_v3 (pj_rn px_X4_writeWord_v3 (pj_as pk_X4_writeWord_v3) (fun _ => none) 60) [(43, .aload_n 0, 1), (44, .getfield 38, 3), (47, .ifCond .ne 10, 3)] 43 [(0, pj_O (1, 0))] [] (s, l, x, y) := rfl
set_option maxRecDepth 100000 in
theorem pq_X4_writeWord_v3_m (a1 : Nat) (a2 : Int32) (a3 : Int32) (s : Nat → Int32) (l : Nat → Int64) (x : Nat → Int32) (y : Nat → Int64) : pf_X4_writeWord_v3 a1 a2 a3 s l x y = pj_bl px_X4_writeWord_v3 (pj_rn px_X4_writeWord_v3 (pj_as pk_X4_writeWord_v3) (pj_as [(43, pe_X4_writeWord_v3_43 (pl_X4_writeWord_v3_43))]) 60) [(0, .iload_n 2, 1), (1, .ifCond .lt 9, 3)] 0 [(0, pj_O (1, 0)), (1, pj_W (15, a1)), (2, pj_I a2), (3, pj_I a3)] [] (s, l, x, y) := rfl
theorem pu_X4_writeWord_v3_43 {lf : pj_Z → mj_M} {a : Int32 × pj_Z} (f : pj_F (Int32 × pj_Z)) (hf : ∀  (s : Nat → Int32) (l : Nat → Int64) (x : Nat → Int32) (y : Nat → Int64), f  s l x y = some a → pm_Gd 0 4010 ie_X4_writeWord.1 pm_rI lf 43 [(0, .ref 1)] [] (s, l, x, y) a) : pm_Ex 0 4010 ie_X4_writeWord.1 pm_rI lf a 43 (pe_X4_writeWord_v3_43 f) := by
  intro lv st z hd h
  obtain ⟨g0, h⟩ := pj_xr_inv h
  obtain ⟨e9, h⟩ := pj_pe_inv h
  rw [e9]
  exact mj_wp_sub (mj_sub_cons g0 (mj_sub_nil hd)) (hf  _ _ _ _ h)
set_option maxRecDepth 100000 in
theorem pz_X4_writeWord_v3 {lf : pj_Z → mj_M} (hT : pj_Lt pj_TC lf) : pj_Cok ic_P (mj_R ic_P 0) 4010 ie_X4_writeWord.1 (pm_OK lf pm_rI) lf px_X4_writeWord_v3 := by
  exact pm_cok (c := px_X4_writeWord_v3) hT (pm_in_ok (L := [(38, 4, 8, 0, false), (89, 4, 9, 0, false)]) (f := mj_pF ic_P 4010) (by decide +kernel)) (fun _ _ h => by cases h) (fun _ _ h => by cases h) (fun _ _ h => by cases h) rfl rfl ⟨by decide, rfl⟩ pm_mI (fun _ _ h => by cases h) (fun _ h => by cases h)
set_option maxRecDepth 100000 in
theorem pb_X4_writeWord_v3 : pm_bks ie_X4_writeWord.1.2.2.2.2 pk_X4_writeWord_v3 = true := by decide +kernel
set_option maxRecDepth 100000 in
theorem pg_X4_writeWord_v3_43 {lf : pj_Z → mj_M} (hT : pj_Lt pj_TC lf) : ∀  (s : Nat → Int32) (l : Nat → Int64) (x : Nat → Int32) (y : Nat → Int64) (a : Int32 × pj_Z), pl_X4_writeWord_v3_43 s l x y = some a → pm_Gd 0 4010 ie_X4_writeWord.1 pm_rI lf 43 [(0, .ref 1)] [] (s, l, x, y) a := by
  intro  s l x y a h
  exact pj_bl_ok (pz_X4_writeWord_v3 hT) (fun t lv st z hd h => pj_rn_ok (pz_X4_writeWord_v3 hT) (pm_bks_ok pb_X4_writeWord_v3) (fun _ _ h => by cases h) 60 t lv st z hd h) [(43, .aload_n 0, 1), (44, .getfield 38, 3), (47, .ifCond .ne 10, 3)] 43 [(0, pj_O (1, 0))] [] (s, l, x, y) (pm_bks_ok pb_X4_writeWord_v3 _ _ rfl) (pm_ndb_ok rfl) ((pq_X4_writeWord_v3_43   s l x y).symm.trans h)
set_option maxRecDepth 100000 in
theorem pm_X4_writeWord_v3 {lf : pj_Z → mj_M} (hT : pj_Lt pj_TC lf) (a1 : Nat) (a2 : Int32) (a3 : Int32) (s : Nat → Int32) (l : Nat → Int64) (x : Nat → Int32) (y : Nat → Int64) (a : Int32 × pj_Z) (h : pf_X4_writeWord_v3 a1 a2 a3 s l x y = some a) : mj_R ic_P 1 4010 [.ref 1, .ref (15 + a1), .int a2, .int a3] (lf (s, l, x, y)) (pm_rI a.1) (lf a.2) := by
  refine pm_main (Y := ie_X4_writeWord.1) rfl (Nat.le_of_ble_eq_true rfl) ?_
  exact pj_bl_ok (pz_X4_writeWord_v3 hT) (fun t lv st z hd h => pj_rn_ok (pz_X4_writeWord_v3 hT) (pm_bks_ok pb_X4_writeWord_v3) (pj_as_all (p := pm_Ex 0 4010 ie_X4_writeWord.1 pm_rI lf a) (List.forall_mem_cons.mpr ⟨pu_X4_writeWord_v3_43 _ (fun  s l x y h => pg_X4_writeWord_v3_43 hT  s l x y _ h), (fun _ h => by cases h)⟩)) 60 t lv st z hd h) [(0, .iload_n 2, 1), (1, .ifCond .lt 9, 3)] 0 [(0, pj_O (1, 0)), (1, pj_W (15, a1)), (2, pj_I a2), (3, pj_I a3)] [] (s, l, x, y) (pm_bks_ok pb_X4_writeWord_v3 _ _ rfl) (pm_ndb_ok rfl) ((pq_X4_writeWord_v3_m a1 a2 a3 s l x y).symm.trans h)
abbrev ph_X4_writeWord_v3 {A : Type} : List pj_V → pj_Z → (List pj_V → pj_Z → Option A) → Option A := fun st z K => pj_pi st fun a3 st => pj_pi st fun a2 st => pj_pw st 15 fun a1 st => pj_pr st 1 0 fun st => pj_ps st (pj_b (pf_X4_writeWord_v3 a1 a2 a3 z.1 z.2.1 z.2.2.1 z.2.2.2) fun r s l x y => K (pj_I r :: st) (s, l, x, y))
set_option maxRecDepth 100000 in
theorem pc_X4_writeWord_v3 {A : Type} {OK : A → Option Value → mj_M → Prop} {d j pc ix : Nat} {Y : mj_Y} {lf : pj_Z → mj_M} (hT : pj_Lt pj_TC lf) (hd : 1 ≤ d) (hl : mj_lk Y.2.2.2.2 pc = some (.invokevirtual ix, 3)) (hg : mj_pG ic_P j ix = some (4010, 3, some 4)) {lv : List (Nat × Value)} {st : List pj_V} {z : pj_Z} {K : List pj_V → pj_Z → Option A} {a : A} (hK : ∀ st z, K st z = some a → pj_Gd ic_P (mj_R ic_P d) j Y OK lf (pc + 3) lv (pj_es st) z a) (h : ph_X4_writeWord_v3 st z K = some a) : pj_Gd ic_P (mj_R ic_P d) j Y OK lf pc lv (pj_es st) z a := by
  obtain ⟨a3, r3, e3, h⟩ := pj_pi_inv h
  obtain ⟨a2, r2, e2, h⟩ := pj_pi_inv h
  obtain ⟨a1, r1, e1, h⟩ := pj_pw_inv h
  obtain ⟨r0, e0, h⟩ := pj_pr_inv h
  obtain ⟨hs, h⟩ := pj_ps_inv h
  obtain ⟨q, hq, h⟩ := pj_b_inv h
  exact pm_cv (o := 1) hl hg [.ref (15 + a1), .int a2, .int a3] rfl (by rw [e3, e2, e1, e0]; rfl) hs (by decide) ((hT.2 1 _ rfl).1.2 z 0 (by decide)) (pm_rI q.1) hd (pm_X4_writeWord_v3 hT a1 a2 a3 z.1 z.2.1 z.2.2.1 z.2.2.2 q hq) rfl (hK _ _ h)

/-! METHODS 28, printed by gen_meth.py -/
abbrev pe_X12_word_14 (f : Int32 → Int32 → Int32 → pj_F (Int32 × pj_Z)) : pj_K (Int32 × pj_Z) := fun lv st z => pj_xr lv 0 124 0 <| pj_xi lv 1 fun a1 => pj_xi lv 2 fun a2 => pj_pi st fun b1 st => pj_pr st 124 0 fun st => pj_pe st (f a1 a2 b1 z.1 z.2.1 z.2.2.1 z.2.2.2)
abbrev px_X12_word : pj_C (Int32 × pj_Z) := (pj_TR, (pj_as [(37, 12, 9, 2, true), (259, 12, 0, 0, false)]), (fun _ => none), (fun _ => none), (fun _ => none), ic_X, 3, 1, pj_mI, (pj_as [(3, ph_X12_noWord)]), fun _ => false)
abbrev pk_X12_word : List (Nat × List (Nat × Instr × Nat)) := [(0, [(0, .aload_n 0, 1), (1, .iload_n 1, 1), (2, .iload_n 2, 1), (3, .invokestatic 948, 3), (6, .ifCond .eq 7, 3)]), (9, [(9, .iconst 1, 1), (10, .goto 4, 3)]), (13, [(13, .iconst 0, 1)]), (14, [(14, .putfield 259, 3), (17, .aload_n 0, 1), (18, .getfield 259, 3), (21, .ifCond .le 7, 3)]), (24, [(24, .iconst 0, 1), (25, .goto 14, 3)]), (28, [(28, .aload_n 0, 1), (29, .getfield 37, 3), (32, .bipush 55, 2), (34, .iload_n 1, 1), (35, .imul, 1), (36, .iload_n 2, 1), (37, .iadd, 1), (38, .iaload, 1)]), (39, [(39, .ireturn, 1)])]
set_option maxRecDepth 100000 in
theorem pq_X12_word_14 (a1 : Int32) (a2 : Int32) (b1 : Int32) (s : Nat → Int32) (l : Nat → Int64) (x : Nat → Int32) (y : Nat → Int64) : pl_X12_word_14 a1 a2 b1 s l x y = pj_bl px_X12_word (pj_rn px_X12_word (pj_as pk_X12_word) (fun _ => none) 60) [(14, .putfield 259, 3), (17, .aload_n 0, 1), (18, .getfield 259, 3), (21, .ifCond .le 7, 3)] 14 [(0, pj_O (124, 0)), (1, pj_I a1), (2, pj_I a2)] [pj_I b1, pj_O (124, 0)] (s, l, x, y) := rfl
set_option maxRecDepth 100000 in
theorem pq_X12_word_m (a1 : Int32) (a2 : Int32) (s : Nat → Int32) (l : Nat → Int64) (x : Nat → Int32) (y : Nat → Int64) : pf_X12_word a1 a2 s l x y = pj_bl px_X12_word (pj_rn px_X12_word (pj_as pk_X12_word) (pj_as [(14, pe_X12_word_14 (pl_X12_word_14))]) 60) [(0, .aload_n 0, 1), (1, .iload_n 1, 1), (2, .iload_n 2, 1), (3, .invokestatic 948, 3), (6, .ifCond .eq 7, 3)] 0 [(0, pj_O (124, 0)), (1, pj_I a1), (2, pj_I a2)] [] (s, l, x, y) := rfl
theorem pu_X12_word_14 {lf : pj_Z → mj_M} {a : Int32 × pj_Z} (f : Int32 → Int32 → Int32 → pj_F (Int32 × pj_Z)) (hf : ∀ (a1 : Int32) (a2 : Int32) (b1 : Int32) (s : Nat → Int32) (l : Nat → Int64) (x : Nat → Int32) (y : Nat → Int64), f a1 a2 b1 s l x y = some a → pm_Gd 2 12105 ie_X12_word.1 pm_rI lf 14 [(0, .ref 124), (1, .int a1), (2, .int a2)] [.int b1, .ref 124] (s, l, x, y) a) : pm_Ex 2 12105 ie_X12_word.1 pm_rI lf a 14 (pe_X12_word_14 f) := by
  intro lv st z hd h
  obtain ⟨g0, h⟩ := pj_xr_inv h
  obtain ⟨a1, g1, h⟩ := pj_xi_inv h
  obtain ⟨a2, g2, h⟩ := pj_xi_inv h
  obtain ⟨b1, r1, e1, h⟩ := pj_pi_inv h
  obtain ⟨r0, e0, h⟩ := pj_pr_inv h
  obtain ⟨e9, h⟩ := pj_pe_inv h
  rw [e1, e0, e9]
  exact mj_wp_sub (mj_sub_cons g0 (mj_sub_cons g1 (mj_sub_cons g2 (mj_sub_nil hd)))) (hf _ _ _ _ _ _ _ h)
set_option maxRecDepth 100000 in
theorem pz_X12_word {lf : pj_Z → mj_M} (hT : pj_Lt pj_TR lf) : pj_Cok ic_P (mj_R ic_P 2) 12105 ie_X12_word.1 (pm_OK lf pm_rI) lf px_X12_word := by
  exact pm_cok (c := px_X12_word) hT (pm_in_ok (L := [(37, 12, 9, 2, true), (259, 12, 0, 0, false)]) (f := mj_pF ic_P 12105) (by decide +kernel)) (fun _ _ h => by cases h) (fun _ _ h => by cases h) (fun _ _ h => by cases h) rfl rfl ⟨by decide, rfl⟩ pm_mI (pj_as_all (p := pm_Cl 2 12105 ie_X12_word.1 lf (pm_OK lf pm_rI)) (List.forall_mem_cons.mpr ⟨fun _ _ lv st z K a hK h => pc_X12_noWord hT (by decide) (ix := 948) rfl rfl hK h, (fun _ h => by cases h)⟩)) (fun _ h => by cases h)
set_option maxRecDepth 100000 in
theorem pb_X12_word : pm_bks ie_X12_word.1.2.2.2.2 pk_X12_word = true := by decide +kernel
set_option maxRecDepth 100000 in
theorem pg_X12_word_14 {lf : pj_Z → mj_M} (hT : pj_Lt pj_TR lf) : ∀ (a1 : Int32) (a2 : Int32) (b1 : Int32) (s : Nat → Int32) (l : Nat → Int64) (x : Nat → Int32) (y : Nat → Int64) (a : Int32 × pj_Z), pl_X12_word_14 a1 a2 b1 s l x y = some a → pm_Gd 2 12105 ie_X12_word.1 pm_rI lf 14 [(0, .ref 124), (1, .int a1), (2, .int a2)] [.int b1, .ref 124] (s, l, x, y) a := by
  intro a1 a2 b1 s l x y a h
  exact pj_bl_ok (pz_X12_word hT) (fun t lv st z hd h => pj_rn_ok (pz_X12_word hT) (pm_bks_ok pb_X12_word) (fun _ _ h => by cases h) 60 t lv st z hd h) [(14, .putfield 259, 3), (17, .aload_n 0, 1), (18, .getfield 259, 3), (21, .ifCond .le 7, 3)] 14 [(0, pj_O (124, 0)), (1, pj_I a1), (2, pj_I a2)] [pj_I b1, pj_O (124, 0)] (s, l, x, y) (pm_bks_ok pb_X12_word _ _ rfl) (pm_ndb_ok rfl) ((pq_X12_word_14  a1 a2 b1 s l x y).symm.trans h)
set_option maxRecDepth 100000 in
theorem pm_X12_word {lf : pj_Z → mj_M} (hT : pj_Lt pj_TR lf) (a1 : Int32) (a2 : Int32) (s : Nat → Int32) (l : Nat → Int64) (x : Nat → Int32) (y : Nat → Int64) (a : Int32 × pj_Z) (h : pf_X12_word a1 a2 s l x y = some a) : mj_R ic_P 3 12105 [.ref 124, .int a1, .int a2] (lf (s, l, x, y)) (pm_rI a.1) (lf a.2) := by
  refine pm_main (Y := ie_X12_word.1) rfl (Nat.le_of_ble_eq_true rfl) ?_
  exact pj_bl_ok (pz_X12_word hT) (fun t lv st z hd h => pj_rn_ok (pz_X12_word hT) (pm_bks_ok pb_X12_word) (pj_as_all (p := pm_Ex 2 12105 ie_X12_word.1 pm_rI lf a) (List.forall_mem_cons.mpr ⟨pu_X12_word_14 _ (fun c0 c1 c2 s l x y h => pg_X12_word_14 hT c0 c1 c2 s l x y _ h), (fun _ h => by cases h)⟩)) 60 t lv st z hd h) [(0, .aload_n 0, 1), (1, .iload_n 1, 1), (2, .iload_n 2, 1), (3, .invokestatic 948, 3), (6, .ifCond .eq 7, 3)] 0 [(0, pj_O (124, 0)), (1, pj_I a1), (2, pj_I a2)] [] (s, l, x, y) (pm_bks_ok pb_X12_word _ _ rfl) (pm_ndb_ok rfl) ((pq_X12_word_m a1 a2 s l x y).symm.trans h)
abbrev ph_X12_word {A : Type} : List pj_V → pj_Z → (List pj_V → pj_Z → Option A) → Option A := fun st z K => pj_pi st fun a2 st => pj_pi st fun a1 st => pj_pr st 124 0 fun st => pj_ps st (pj_b (pf_X12_word a1 a2 z.1 z.2.1 z.2.2.1 z.2.2.2) fun r s l x y => K (pj_I r :: st) (s, l, x, y))
set_option maxRecDepth 100000 in
theorem pc_X12_word {A : Type} {OK : A → Option Value → mj_M → Prop} {d j pc ix : Nat} {Y : mj_Y} {lf : pj_Z → mj_M} (hT : pj_Lt pj_TR lf) (hd : 3 ≤ d) (hl : mj_lk Y.2.2.2.2 pc = some (.invokevirtual ix, 3)) (hg : mj_pG ic_P j ix = some (12105, 2, some 12)) {lv : List (Nat × Value)} {st : List pj_V} {z : pj_Z} {K : List pj_V → pj_Z → Option A} {a : A} (hK : ∀ st z, K st z = some a → pj_Gd ic_P (mj_R ic_P d) j Y OK lf (pc + 3) lv (pj_es st) z a) (h : ph_X12_word st z K = some a) : pj_Gd ic_P (mj_R ic_P d) j Y OK lf pc lv (pj_es st) z a := by
  obtain ⟨a2, r2, e2, h⟩ := pj_pi_inv h
  obtain ⟨a1, r1, e1, h⟩ := pj_pi_inv h
  obtain ⟨r0, e0, h⟩ := pj_pr_inv h
  obtain ⟨hs, h⟩ := pj_ps_inv h
  obtain ⟨q, hq, h⟩ := pj_b_inv h
  exact pm_cv (o := 124) hl hg [.int a1, .int a2] rfl (by rw [e2, e1, e0]; rfl) hs (by decide) ((hT.2 124 _ rfl).1.2 z 0 (by decide)) (pm_rI q.1) hd (pm_X12_word hT a1 a2 z.1 z.2.1 z.2.2.1 z.2.2.2 q hq) rfl (hK _ _ h)
abbrev pe_X12_watch_14 (f : Int32 → Int32 → pj_F (Int32 × pj_Z)) : pj_K (Int32 × pj_Z) := fun lv st z => pj_xr lv 0 124 0 <| pj_xi lv 1 fun a1 => pj_pi st fun b1 st => pj_pr st 124 0 fun st => pj_pe st (f a1 b1 z.1 z.2.1 z.2.2.1 z.2.2.2)
abbrev pe_X12_watch_61 (f : Int32 → Int32 → Int32 → pj_F (Int32 × pj_Z)) : pj_K (Int32 × pj_Z) := fun lv st z => pj_xr lv 0 124 0 <| pj_xi lv 1 fun a1 => pj_xi lv 2 fun a2 => pj_pi st fun b1 st => pj_pr st 124 0 fun st => pj_pe st (f a1 a2 b1 z.1 z.2.1 z.2.2.1 z.2.2.2)
abbrev px_X12_watch : pj_C (Int32 × pj_Z) := (pj_TR, (pj_as [(259, 12, 0, 0, false), (462, 12, 91, 3, false), (465, 12, 92, 0, false), (468, 12, 93, 0, false), (471, 12, 94, 0, false), (474, 12, 95, 3, false), (477, 12, 96, 3, false), (519, 12, 23, 0, false)]), (fun _ => none), (fun _ => none), (fun _ => none), ic_X, 3, 2, pj_mI, (fun _ => none), fun _ => false)
abbrev pk_X12_watch : List (Nat × List (Nat × Instr × Nat)) := [(0, [(0, .aload_n 0, 1), (1, .aload_n 0, 1), (2, .getfield 519, 3), (5, .iconst 1, 1), (6, .if_icmp .eq 7, 3)]), (9, [(9, .iconst 1, 1), (10, .goto 4, 3)]), (13, [(13, .iconst 0, 1)]), (14, [(14, .putfield 259, 3), (17, .aload_n 0, 1), (18, .getfield 259, 3), (21, .ifCond .le 5, 3)]), (24, [(24, .iconst 0, 1), (25, .ireturn, 1)]), (26, [(26, .aload_n 0, 1), (27, .getfield 462, 3), (30, .istore_n 2, 1), (31, .aload_n 0, 1), (32, .iload_n 1, 1), (33, .putfield 462, 3), (36, .aload_n 0, 1), (37, .iconst 0, 1), (38, .putfield 465, 3), (41, .aload_n 0, 1), (42, .iconst 0, 1), (43, .putfield 468, 3), (46, .aload_n 0, 1), (47, .iconst 0, 1), (48, .putfield 477, 3), (51, .aload_n 0, 1), (52, .iload_n 1, 1), (53, .ifCond .eq 7, 3)]), (56, [(56, .iconst 1, 1), (57, .goto 4, 3)]), (60, [(60, .iconst 0, 1)]), (61, [(61, .putfield 471, 3), (64, .aload_n 0, 1), (65, .iconst 0, 1), (66, .putfield 474, 3), (69, .iload_n 2, 1), (70, .iload_n 1, 1), (71, .if_icmp .eq 7, 3)]), (74, [(74, .iconst 1, 1), (75, .goto 4, 3)]), (78, [(78, .iconst 0, 1)]), (79, [(79, .ireturn, 1)])]
set_option maxRecDepth 100000 in
theorem pq_X12_watch_61 (a1 : Int32) (a2 : Int32) (b1 : Int32) (s : Nat → Int32) (l : Nat → Int64) (x : Nat → Int32) (y : Nat → Int64) : pl_X12_watch_61 a1 a2 b1 s l x y = pj_bl px_X12_watch (pj_rn px_X12_watch (pj_as pk_X12_watch) (fun _ => none) 60) [(61, .putfield 471, 3), (64, .aload_n 0, 1), (65, .iconst 0, 1), (66, .putfield 474, 3), (69, .iload_n 2, 1), (70, .iload_n 1, 1), (71, .if_icmp .eq 7, 3)] 61 [(0, pj_O (124, 0)), (1, pj_I a1), (2, pj_I a2)] [pj_I b1, pj_O (124, 0)] (s, l, x, y) := rfl
set_option maxRecDepth 100000 in
theorem pq_X12_watch_14 (a1 : Int32) (b1 : Int32) (s : Nat → Int32) (l : Nat → Int64) (x : Nat → Int32) (y : Nat → Int64) : pl_X12_watch_14 a1 b1 s l x y = pj_bl px_X12_watch (pj_rn px_X12_watch (pj_as pk_X12_watch) (pj_as [(61, pe_X12_watch_61 (pl_X12_watch_61))]) 60) [(14, .putfield 259, 3), (17, .aload_n 0, 1), (18, .getfield 259, 3), (21, .ifCond .le 5, 3)] 14 [(0, pj_O (124, 0)), (1, pj_I a1)] [pj_I b1, pj_O (124, 0)] (s, l, x, y) := rfl
set_option maxRecDepth 100000 in
theorem pq_X12_watch_m (a1 : Int32) (s : Nat → Int32) (l : Nat → Int64) (x : Nat → Int32) (y : Nat → Int64) : pf_X12_watch a1 s l x y = pj_bl px_X12_watch (pj_rn px_X12_watch (pj_as pk_X12_watch) (pj_as [(14, pe_X12_watch_14 (pl_X12_watch_14))]) 60) [(0, .aload_n 0, 1), (1, .aload_n 0, 1), (2, .getfield 519, 3), (5, .iconst 1, 1), (6, .if_icmp .eq 7, 3)] 0 [(0, pj_O (124, 0)), (1, pj_I a1)] [] (s, l, x, y) := rfl
theorem pu_X12_watch_14 {lf : pj_Z → mj_M} {a : Int32 × pj_Z} (f : Int32 → Int32 → pj_F (Int32 × pj_Z)) (hf : ∀ (a1 : Int32) (b1 : Int32) (s : Nat → Int32) (l : Nat → Int64) (x : Nat → Int32) (y : Nat → Int64), f a1 b1 s l x y = some a → pm_Gd 0 12106 ie_X12_watch.1 pm_rI lf 14 [(0, .ref 124), (1, .int a1)] [.int b1, .ref 124] (s, l, x, y) a) : pm_Ex 0 12106 ie_X12_watch.1 pm_rI lf a 14 (pe_X12_watch_14 f) := by
  intro lv st z hd h
  obtain ⟨g0, h⟩ := pj_xr_inv h
  obtain ⟨a1, g1, h⟩ := pj_xi_inv h
  obtain ⟨b1, r1, e1, h⟩ := pj_pi_inv h
  obtain ⟨r0, e0, h⟩ := pj_pr_inv h
  obtain ⟨e9, h⟩ := pj_pe_inv h
  rw [e1, e0, e9]
  exact mj_wp_sub (mj_sub_cons g0 (mj_sub_cons g1 (mj_sub_nil hd))) (hf _ _ _ _ _ _ h)
theorem pu_X12_watch_61 {lf : pj_Z → mj_M} {a : Int32 × pj_Z} (f : Int32 → Int32 → Int32 → pj_F (Int32 × pj_Z)) (hf : ∀ (a1 : Int32) (a2 : Int32) (b1 : Int32) (s : Nat → Int32) (l : Nat → Int64) (x : Nat → Int32) (y : Nat → Int64), f a1 a2 b1 s l x y = some a → pm_Gd 0 12106 ie_X12_watch.1 pm_rI lf 61 [(0, .ref 124), (1, .int a1), (2, .int a2)] [.int b1, .ref 124] (s, l, x, y) a) : pm_Ex 0 12106 ie_X12_watch.1 pm_rI lf a 61 (pe_X12_watch_61 f) := by
  intro lv st z hd h
  obtain ⟨g0, h⟩ := pj_xr_inv h
  obtain ⟨a1, g1, h⟩ := pj_xi_inv h
  obtain ⟨a2, g2, h⟩ := pj_xi_inv h
  obtain ⟨b1, r1, e1, h⟩ := pj_pi_inv h
  obtain ⟨r0, e0, h⟩ := pj_pr_inv h
  obtain ⟨e9, h⟩ := pj_pe_inv h
  rw [e1, e0, e9]
  exact mj_wp_sub (mj_sub_cons g0 (mj_sub_cons g1 (mj_sub_cons g2 (mj_sub_nil hd)))) (hf _ _ _ _ _ _ _ h)
set_option maxRecDepth 100000 in
theorem pz_X12_watch {lf : pj_Z → mj_M} (hT : pj_Lt pj_TR lf) : pj_Cok ic_P (mj_R ic_P 0) 12106 ie_X12_watch.1 (pm_OK lf pm_rI) lf px_X12_watch := by
  exact pm_cok (c := px_X12_watch) hT (pm_in_ok (L := [(259, 12, 0, 0, false), (462, 12, 91, 3, false), (465, 12, 92, 0, false), (468, 12, 93, 0, false), (471, 12, 94, 0, false), (474, 12, 95, 3, false), (477, 12, 96, 3, false), (519, 12, 23, 0, false)]) (f := mj_pF ic_P 12106) (by decide +kernel)) (fun _ _ h => by cases h) (fun _ _ h => by cases h) (fun _ _ h => by cases h) rfl rfl ⟨by decide, rfl⟩ pm_mI (fun _ _ h => by cases h) (fun _ h => by cases h)
set_option maxRecDepth 100000 in
theorem pb_X12_watch : pm_bks ie_X12_watch.1.2.2.2.2 pk_X12_watch = true := by decide +kernel
set_option maxRecDepth 100000 in
theorem pg_X12_watch_61 {lf : pj_Z → mj_M} (hT : pj_Lt pj_TR lf) : ∀ (a1 : Int32) (a2 : Int32) (b1 : Int32) (s : Nat → Int32) (l : Nat → Int64) (x : Nat → Int32) (y : Nat → Int64) (a : Int32 × pj_Z), pl_X12_watch_61 a1 a2 b1 s l x y = some a → pm_Gd 0 12106 ie_X12_watch.1 pm_rI lf 61 [(0, .ref 124), (1, .int a1), (2, .int a2)] [.int b1, .ref 124] (s, l, x, y) a := by
  intro a1 a2 b1 s l x y a h
  exact pj_bl_ok (pz_X12_watch hT) (fun t lv st z hd h => pj_rn_ok (pz_X12_watch hT) (pm_bks_ok pb_X12_watch) (fun _ _ h => by cases h) 60 t lv st z hd h) [(61, .putfield 471, 3), (64, .aload_n 0, 1), (65, .iconst 0, 1), (66, .putfield 474, 3), (69, .iload_n 2, 1), (70, .iload_n 1, 1), (71, .if_icmp .eq 7, 3)] 61 [(0, pj_O (124, 0)), (1, pj_I a1), (2, pj_I a2)] [pj_I b1, pj_O (124, 0)] (s, l, x, y) (pm_bks_ok pb_X12_watch _ _ rfl) (pm_ndb_ok rfl) ((pq_X12_watch_61  a1 a2 b1 s l x y).symm.trans h)
set_option maxRecDepth 100000 in
theorem pg_X12_watch_14 {lf : pj_Z → mj_M} (hT : pj_Lt pj_TR lf) : ∀ (a1 : Int32) (b1 : Int32) (s : Nat → Int32) (l : Nat → Int64) (x : Nat → Int32) (y : Nat → Int64) (a : Int32 × pj_Z), pl_X12_watch_14 a1 b1 s l x y = some a → pm_Gd 0 12106 ie_X12_watch.1 pm_rI lf 14 [(0, .ref 124), (1, .int a1)] [.int b1, .ref 124] (s, l, x, y) a := by
  intro a1 b1 s l x y a h
  exact pj_bl_ok (pz_X12_watch hT) (fun t lv st z hd h => pj_rn_ok (pz_X12_watch hT) (pm_bks_ok pb_X12_watch) (pj_as_all (p := pm_Ex 0 12106 ie_X12_watch.1 pm_rI lf a) (List.forall_mem_cons.mpr ⟨pu_X12_watch_61 _ (fun c0 c1 c2 s l x y h => pg_X12_watch_61 hT c0 c1 c2 s l x y _ h), (fun _ h => by cases h)⟩)) 60 t lv st z hd h) [(14, .putfield 259, 3), (17, .aload_n 0, 1), (18, .getfield 259, 3), (21, .ifCond .le 5, 3)] 14 [(0, pj_O (124, 0)), (1, pj_I a1)] [pj_I b1, pj_O (124, 0)] (s, l, x, y) (pm_bks_ok pb_X12_watch _ _ rfl) (pm_ndb_ok rfl) ((pq_X12_watch_14  a1 b1 s l x y).symm.trans h)
set_option maxRecDepth 100000 in
theorem pm_X12_watch {lf : pj_Z → mj_M} (hT : pj_Lt pj_TR lf) (a1 : Int32) (s : Nat → Int32) (l : Nat → Int64) (x : Nat → Int32) (y : Nat → Int64) (a : Int32 × pj_Z) (h : pf_X12_watch a1 s l x y = some a) : mj_R ic_P 1 12106 [.ref 124, .int a1] (lf (s, l, x, y)) (pm_rI a.1) (lf a.2) := by
  refine pm_main (Y := ie_X12_watch.1) rfl (Nat.le_of_ble_eq_true rfl) ?_
  exact pj_bl_ok (pz_X12_watch hT) (fun t lv st z hd h => pj_rn_ok (pz_X12_watch hT) (pm_bks_ok pb_X12_watch) (pj_as_all (p := pm_Ex 0 12106 ie_X12_watch.1 pm_rI lf a) (List.forall_mem_cons.mpr ⟨pu_X12_watch_14 _ (fun c0 c1 s l x y h => pg_X12_watch_14 hT c0 c1 s l x y _ h), (fun _ h => by cases h)⟩)) 60 t lv st z hd h) [(0, .aload_n 0, 1), (1, .aload_n 0, 1), (2, .getfield 519, 3), (5, .iconst 1, 1), (6, .if_icmp .eq 7, 3)] 0 [(0, pj_O (124, 0)), (1, pj_I a1)] [] (s, l, x, y) (pm_bks_ok pb_X12_watch _ _ rfl) (pm_ndb_ok rfl) ((pq_X12_watch_m a1 s l x y).symm.trans h)
abbrev ph_X12_watch {A : Type} : List pj_V → pj_Z → (List pj_V → pj_Z → Option A) → Option A := fun st z K => pj_pi st fun a1 st => pj_pr st 124 0 fun st => pj_ps st (pj_b (pf_X12_watch a1 z.1 z.2.1 z.2.2.1 z.2.2.2) fun r s l x y => K (pj_I r :: st) (s, l, x, y))
set_option maxRecDepth 100000 in
theorem pc_X12_watch {A : Type} {OK : A → Option Value → mj_M → Prop} {d j pc ix : Nat} {Y : mj_Y} {lf : pj_Z → mj_M} (hT : pj_Lt pj_TR lf) (hd : 1 ≤ d) (hl : mj_lk Y.2.2.2.2 pc = some (.invokevirtual ix, 3)) (hg : mj_pG ic_P j ix = some (12106, 1, some 12)) {lv : List (Nat × Value)} {st : List pj_V} {z : pj_Z} {K : List pj_V → pj_Z → Option A} {a : A} (hK : ∀ st z, K st z = some a → pj_Gd ic_P (mj_R ic_P d) j Y OK lf (pc + 3) lv (pj_es st) z a) (h : ph_X12_watch st z K = some a) : pj_Gd ic_P (mj_R ic_P d) j Y OK lf pc lv (pj_es st) z a := by
  obtain ⟨a1, r1, e1, h⟩ := pj_pi_inv h
  obtain ⟨r0, e0, h⟩ := pj_pr_inv h
  obtain ⟨hs, h⟩ := pj_ps_inv h
  obtain ⟨q, hq, h⟩ := pj_b_inv h
  exact pm_cv (o := 124) hl hg [.int a1] rfl (by rw [e1, e0]; rfl) hs (by decide) ((hT.2 124 _ rfl).1.2 z 0 (by decide)) (pm_rI q.1) hd (pm_X12_watch hT a1 z.1 z.2.1 z.2.2.1 z.2.2.2 q hq) rfl (hK _ _ h)
abbrev pe_X12_answer_13 (f : Int32 → Int32 → pj_F (Int32 × pj_Z)) : pj_K (Int32 × pj_Z) := fun lv st z => pj_xr lv 0 124 0 <| pj_xi lv 1 fun a1 => pj_pi st fun b1 st => pj_pr st 124 0 fun st => pj_pe st (f a1 b1 z.1 z.2.1 z.2.2.1 z.2.2.2)
abbrev pe_X12_answer_50 (f : Int32 → pj_F (Int32 × pj_Z)) : pj_K (Int32 × pj_Z) := fun lv st z => pj_xr lv 0 124 0 <| pj_pi st fun b1 st => pj_pr st 124 0 fun st => pj_pe st (f b1 z.1 z.2.1 z.2.2.1 z.2.2.2)
abbrev px_X12_answer : pj_C (Int32 × pj_Z) := (pj_TR, (pj_as [(259, 12, 0, 0, false), (462, 12, 91, 3, false), (471, 12, 94, 0, false), (474, 12, 95, 3, false)]), (fun _ => none), (fun _ => none), (fun _ => none), ic_X, 2, 2, pj_mI, (fun _ => none), fun _ => false)
abbrev pk_X12_answer : List (Nat × List (Nat × Instr × Nat)) := [(0, [(0, .aload_n 0, 1), (1, .aload_n 0, 1), (2, .getfield 462, 3), (5, .ifCond .ne 7, 3)]), (8, [(8, .iconst 1, 1), (9, .goto 4, 3)]), (12, [(12, .iconst 0, 1)]), (13, [(13, .putfield 259, 3), (16, .aload_n 0, 1), (17, .getfield 259, 3), (20, .ifCond .le 5, 3)]), (23, [(23, .iconst 0, 1), (24, .ireturn, 1)]), (25, [(25, .aload_n 0, 1), (26, .iload_n 1, 1), (27, .aload_n 0, 1), (28, .getfield 471, 3), (31, .aload_n 0, 1), (32, .getfield 471, 3), (35, .imul, 1), (36, .bipush 7, 2), (38, .iadd, 1), (39, .bipush 16, 2), (41, .irem, 1), (42, .if_icmp .ne 7, 3)]), (45, [(45, .iconst 1, 1), (46, .goto 4, 3)]), (49, [(49, .iconst 0, 1)]), (50, [(50, .putfield 474, 3), (53, .aload_n 0, 1), (54, .getfield 474, 3), (57, .ireturn, 1)])]
set_option maxRecDepth 100000 in
theorem pq_X12_answer_50 (b1 : Int32) (s : Nat → Int32) (l : Nat → Int64) (x : Nat → Int32) (y : Nat → Int64) : pl_X12_answer_50 b1 s l x y = pj_bl px_X12_answer (pj_rn px_X12_answer (pj_as pk_X12_answer) (fun _ => none) 60) [(50, .putfield 474, 3), (53, .aload_n 0, 1), (54, .getfield 474, 3), (57, .ireturn, 1)] 50 [(0, pj_O (124, 0))] [pj_I b1, pj_O (124, 0)] (s, l, x, y) := rfl
set_option maxRecDepth 100000 in
theorem pq_X12_answer_13 (a1 : Int32) (b1 : Int32) (s : Nat → Int32) (l : Nat → Int64) (x : Nat → Int32) (y : Nat → Int64) : pl_X12_answer_13 a1 b1 s l x y = pj_bl px_X12_answer (pj_rn px_X12_answer (pj_as pk_X12_answer) (pj_as [(50, pe_X12_answer_50 (pl_X12_answer_50))]) 60) [(13, .putfield 259, 3), (16, .aload_n 0, 1), (17, .getfield 259, 3), (20, .ifCond .le 5, 3)] 13 [(0, pj_O (124, 0)), (1, pj_I a1)] [pj_I b1, pj_O (124, 0)] (s, l, x, y) := rfl
set_option maxRecDepth 100000 in
theorem pq_X12_answer_m (a1 : Int32) (s : Nat → Int32) (l : Nat → Int64) (x : Nat → Int32) (y : Nat → Int64) : pf_X12_answer a1 s l x y = pj_bl px_X12_answer (pj_rn px_X12_answer (pj_as pk_X12_answer) (pj_as [(13, pe_X12_answer_13 (pl_X12_answer_13))]) 60) [(0, .aload_n 0, 1), (1, .aload_n 0, 1), (2, .getfield 462, 3), (5, .ifCond .ne 7, 3)] 0 [(0, pj_O (124, 0)), (1, pj_I a1)] [] (s, l, x, y) := rfl
theorem pu_X12_answer_13 {lf : pj_Z → mj_M} {a : Int32 × pj_Z} (f : Int32 → Int32 → pj_F (Int32 × pj_Z)) (hf : ∀ (a1 : Int32) (b1 : Int32) (s : Nat → Int32) (l : Nat → Int64) (x : Nat → Int32) (y : Nat → Int64), f a1 b1 s l x y = some a → pm_Gd 0 12107 ie_X12_answer.1 pm_rI lf 13 [(0, .ref 124), (1, .int a1)] [.int b1, .ref 124] (s, l, x, y) a) : pm_Ex 0 12107 ie_X12_answer.1 pm_rI lf a 13 (pe_X12_answer_13 f) := by
  intro lv st z hd h
  obtain ⟨g0, h⟩ := pj_xr_inv h
  obtain ⟨a1, g1, h⟩ := pj_xi_inv h
  obtain ⟨b1, r1, e1, h⟩ := pj_pi_inv h
  obtain ⟨r0, e0, h⟩ := pj_pr_inv h
  obtain ⟨e9, h⟩ := pj_pe_inv h
  rw [e1, e0, e9]
  exact mj_wp_sub (mj_sub_cons g0 (mj_sub_cons g1 (mj_sub_nil hd))) (hf _ _ _ _ _ _ h)
theorem pu_X12_answer_50 {lf : pj_Z → mj_M} {a : Int32 × pj_Z} (f : Int32 → pj_F (Int32 × pj_Z)) (hf : ∀ (b1 : Int32) (s : Nat → Int32) (l : Nat → Int64) (x : Nat → Int32) (y : Nat → Int64), f b1 s l x y = some a → pm_Gd 0 12107 ie_X12_answer.1 pm_rI lf 50 [(0, .ref 124)] [.int b1, .ref 124] (s, l, x, y) a) : pm_Ex 0 12107 ie_X12_answer.1 pm_rI lf a 50 (pe_X12_answer_50 f) := by
  intro lv st z hd h
  obtain ⟨g0, h⟩ := pj_xr_inv h
  obtain ⟨b1, r1, e1, h⟩ := pj_pi_inv h
  obtain ⟨r0, e0, h⟩ := pj_pr_inv h
  obtain ⟨e9, h⟩ := pj_pe_inv h
  rw [e1, e0, e9]
  exact mj_wp_sub (mj_sub_cons g0 (mj_sub_nil hd)) (hf _ _ _ _ _ h)
set_option maxRecDepth 100000 in
theorem pz_X12_answer {lf : pj_Z → mj_M} (hT : pj_Lt pj_TR lf) : pj_Cok ic_P (mj_R ic_P 0) 12107 ie_X12_answer.1 (pm_OK lf pm_rI) lf px_X12_answer := by
  exact pm_cok (c := px_X12_answer) hT (pm_in_ok (L := [(259, 12, 0, 0, false), (462, 12, 91, 3, false), (471, 12, 94, 0, false), (474, 12, 95, 3, false)]) (f := mj_pF ic_P 12107) (by decide +kernel)) (fun _ _ h => by cases h) (fun _ _ h => by cases h) (fun _ _ h => by cases h) rfl rfl ⟨by decide, rfl⟩ pm_mI (fun _ _ h => by cases h) (fun _ h => by cases h)
set_option maxRecDepth 100000 in
theorem pb_X12_answer : pm_bks ie_X12_answer.1.2.2.2.2 pk_X12_answer = true := by decide +kernel
set_option maxRecDepth 100000 in
theorem pg_X12_answer_50 {lf : pj_Z → mj_M} (hT : pj_Lt pj_TR lf) : ∀ (b1 : Int32) (s : Nat → Int32) (l : Nat → Int64) (x : Nat → Int32) (y : Nat → Int64) (a : Int32 × pj_Z), pl_X12_answer_50 b1 s l x y = some a → pm_Gd 0 12107 ie_X12_answer.1 pm_rI lf 50 [(0, .ref 124)] [.int b1, .ref 124] (s, l, x, y) a := by
  intro b1 s l x y a h
  exact pj_bl_ok (pz_X12_answer hT) (fun t lv st z hd h => pj_rn_ok (pz_X12_answer hT) (pm_bks_ok pb_X12_answer) (fun _ _ h => by cases h) 60 t lv st z hd h) [(50, .putfield 474, 3), (53, .aload_n 0, 1), (54, .getfield 474, 3), (57, .ireturn, 1)] 50 [(0, pj_O (124, 0))] [pj_I b1, pj_O (124, 0)] (s, l, x, y) (pm_bks_ok pb_X12_answer _ _ rfl) (pm_ndb_ok rfl) ((pq_X12_answer_50  b1 s l x y).symm.trans h)
set_option maxRecDepth 100000 in
theorem pg_X12_answer_13 {lf : pj_Z → mj_M} (hT : pj_Lt pj_TR lf) : ∀ (a1 : Int32) (b1 : Int32) (s : Nat → Int32) (l : Nat → Int64) (x : Nat → Int32) (y : Nat → Int64) (a : Int32 × pj_Z), pl_X12_answer_13 a1 b1 s l x y = some a → pm_Gd 0 12107 ie_X12_answer.1 pm_rI lf 13 [(0, .ref 124), (1, .int a1)] [.int b1, .ref 124] (s, l, x, y) a := by
  intro a1 b1 s l x y a h
  exact pj_bl_ok (pz_X12_answer hT) (fun t lv st z hd h => pj_rn_ok (pz_X12_answer hT) (pm_bks_ok pb_X12_answer) (pj_as_all (p := pm_Ex 0 12107 ie_X12_answer.1 pm_rI lf a) (List.forall_mem_cons.mpr ⟨pu_X12_answer_50 _ (fun c0 s l x y h => pg_X12_answer_50 hT c0 s l x y _ h), (fun _ h => by cases h)⟩)) 60 t lv st z hd h) [(13, .putfield 259, 3), (16, .aload_n 0, 1), (17, .getfield 259, 3), (20, .ifCond .le 5, 3)] 13 [(0, pj_O (124, 0)), (1, pj_I a1)] [pj_I b1, pj_O (124, 0)] (s, l, x, y) (pm_bks_ok pb_X12_answer _ _ rfl) (pm_ndb_ok rfl) ((pq_X12_answer_13  a1 b1 s l x y).symm.trans h)
set_option maxRecDepth 100000 in
theorem pm_X12_answer {lf : pj_Z → mj_M} (hT : pj_Lt pj_TR lf) (a1 : Int32) (s : Nat → Int32) (l : Nat → Int64) (x : Nat → Int32) (y : Nat → Int64) (a : Int32 × pj_Z) (h : pf_X12_answer a1 s l x y = some a) : mj_R ic_P 1 12107 [.ref 124, .int a1] (lf (s, l, x, y)) (pm_rI a.1) (lf a.2) := by
  refine pm_main (Y := ie_X12_answer.1) rfl (Nat.le_of_ble_eq_true rfl) ?_
  exact pj_bl_ok (pz_X12_answer hT) (fun t lv st z hd h => pj_rn_ok (pz_X12_answer hT) (pm_bks_ok pb_X12_answer) (pj_as_all (p := pm_Ex 0 12107 ie_X12_answer.1 pm_rI lf a) (List.forall_mem_cons.mpr ⟨pu_X12_answer_13 _ (fun c0 c1 s l x y h => pg_X12_answer_13 hT c0 c1 s l x y _ h), (fun _ h => by cases h)⟩)) 60 t lv st z hd h) [(0, .aload_n 0, 1), (1, .aload_n 0, 1), (2, .getfield 462, 3), (5, .ifCond .ne 7, 3)] 0 [(0, pj_O (124, 0)), (1, pj_I a1)] [] (s, l, x, y) (pm_bks_ok pb_X12_answer _ _ rfl) (pm_ndb_ok rfl) ((pq_X12_answer_m a1 s l x y).symm.trans h)
abbrev ph_X12_answer {A : Type} : List pj_V → pj_Z → (List pj_V → pj_Z → Option A) → Option A := fun st z K => pj_pi st fun a1 st => pj_pr st 124 0 fun st => pj_ps st (pj_b (pf_X12_answer a1 z.1 z.2.1 z.2.2.1 z.2.2.2) fun r s l x y => K (pj_I r :: st) (s, l, x, y))
set_option maxRecDepth 100000 in
theorem pc_X12_answer {A : Type} {OK : A → Option Value → mj_M → Prop} {d j pc ix : Nat} {Y : mj_Y} {lf : pj_Z → mj_M} (hT : pj_Lt pj_TR lf) (hd : 1 ≤ d) (hl : mj_lk Y.2.2.2.2 pc = some (.invokevirtual ix, 3)) (hg : mj_pG ic_P j ix = some (12107, 1, some 12)) {lv : List (Nat × Value)} {st : List pj_V} {z : pj_Z} {K : List pj_V → pj_Z → Option A} {a : A} (hK : ∀ st z, K st z = some a → pj_Gd ic_P (mj_R ic_P d) j Y OK lf (pc + 3) lv (pj_es st) z a) (h : ph_X12_answer st z K = some a) : pj_Gd ic_P (mj_R ic_P d) j Y OK lf pc lv (pj_es st) z a := by
  obtain ⟨a1, r1, e1, h⟩ := pj_pi_inv h
  obtain ⟨r0, e0, h⟩ := pj_pr_inv h
  obtain ⟨hs, h⟩ := pj_ps_inv h
  obtain ⟨q, hq, h⟩ := pj_b_inv h
  exact pm_cv (o := 124) hl hg [.int a1] rfl (by rw [e1, e0]; rfl) hs (by decide) ((hT.2 124 _ rfl).1.2 z 0 (by decide)) (pm_rI q.1) hd (pm_X12_answer hT a1 z.1 z.2.1 z.2.2.1 z.2.2.2 q hq) rfl (hK _ _ h)
abbrev pe_X12_hear_18 (f : Int32 → Int32 → Int32 → pj_F (Int32 × pj_Z)) : pj_K (Int32 × pj_Z) := fun lv st z => pj_xr lv 0 124 0 <| pj_xi lv 1 fun a1 => pj_xi lv 2 fun a2 => pj_pi st fun b1 st => pj_pr st 124 0 fun st => pj_pe st (f a1 a2 b1 z.1 z.2.1 z.2.2.1 z.2.2.2)
abbrev px_X12_hear : pj_C (Int32 × pj_Z) := (pj_TR, (pj_as [(259, 12, 0, 0, false), (594, 12, 22, 1, false), (820, 12, 17, 0, false)]), (fun _ => none), (pj_as [(630, 1000000)]), (fun _ => none), ic_X, 3, 1, pj_mI, (pj_as [(7, ph_X12_isIn), (38, ph_X12_passTo), (47, ph_X12_heard)]), fun _ => false)
abbrev pk_X12_hear : List (Nat × List (Nat × Instr × Nat)) := [(0, [(0, .aload_n 0, 1), (1, .iload_n 2, 1), (2, .i2l, 1), (3, .lconst 0, 1), (4, .ldc2_w 630, 3), (7, .invokestatic 568, 3), (10, .ifCond .ne 7, 3)]), (13, [(13, .iconst 1, 1), (14, .goto 4, 3)]), (17, [(17, .iconst 0, 1)]), (18, [(18, .putfield 259, 3), (21, .aload_n 0, 1), (22, .getfield 259, 3), (25, .ifCond .le 5, 3)]), (28, [(28, .iconst 0, 1), (29, .ireturn, 1)]), (30, [(30, .aload_n 0, 1), (31, .aload_n 0, 1), (32, .getfield 594, 3), (35, .iload_n 2, 1), (36, .i2l, 1), (37, .ladd, 1), (38, .invokevirtual 894, 3), (41, .aload_n 0, 1), (42, .iload_n 1, 1), (43, .sipush 255, 3), (46, .iand, 1), (47, .invokevirtual 951, 3), (50, .aload_n 0, 1), (51, .getfield 820, 3), (54, .ireturn, 1)])]
set_option maxRecDepth 100000 in
theorem pq_X12_hear_18 (a1 : Int32) (a2 : Int32) (b1 : Int32) (s : Nat → Int32) (l : Nat → Int64) (x : Nat → Int32) (y : Nat → Int64) : pl_X12_hear_18 a1 a2 b1 s l x y = pj_bl px_X12_hear (pj_rn px_X12_hear (pj_as pk_X12_hear) (fun _ => none) 60) [(18, .putfield 259, 3), (21, .aload_n 0, 1), (22, .getfield 259, 3), (25, .ifCond .le 5, 3)] 18 [(0, pj_O (124, 0)), (1, pj_I a1), (2, pj_I a2)] [pj_I b1, pj_O (124, 0)] (s, l, x, y) := rfl
set_option maxRecDepth 100000 in
theorem pq_X12_hear_m (a1 : Int32) (a2 : Int32) (s : Nat → Int32) (l : Nat → Int64) (x : Nat → Int32) (y : Nat → Int64) : pf_X12_hear a1 a2 s l x y = pj_bl px_X12_hear (pj_rn px_X12_hear (pj_as pk_X12_hear) (pj_as [(18, pe_X12_hear_18 (pl_X12_hear_18))]) 60) [(0, .aload_n 0, 1), (1, .iload_n 2, 1), (2, .i2l, 1), (3, .lconst 0, 1), (4, .ldc2_w 630, 3), (7, .invokestatic 568, 3), (10, .ifCond .ne 7, 3)] 0 [(0, pj_O (124, 0)), (1, pj_I a1), (2, pj_I a2)] [] (s, l, x, y) := rfl
theorem pu_X12_hear_18 {lf : pj_Z → mj_M} {a : Int32 × pj_Z} (f : Int32 → Int32 → Int32 → pj_F (Int32 × pj_Z)) (hf : ∀ (a1 : Int32) (a2 : Int32) (b1 : Int32) (s : Nat → Int32) (l : Nat → Int64) (x : Nat → Int32) (y : Nat → Int64), f a1 a2 b1 s l x y = some a → pm_Gd 10 12108 ie_X12_hear.1 pm_rI lf 18 [(0, .ref 124), (1, .int a1), (2, .int a2)] [.int b1, .ref 124] (s, l, x, y) a) : pm_Ex 10 12108 ie_X12_hear.1 pm_rI lf a 18 (pe_X12_hear_18 f) := by
  intro lv st z hd h
  obtain ⟨g0, h⟩ := pj_xr_inv h
  obtain ⟨a1, g1, h⟩ := pj_xi_inv h
  obtain ⟨a2, g2, h⟩ := pj_xi_inv h
  obtain ⟨b1, r1, e1, h⟩ := pj_pi_inv h
  obtain ⟨r0, e0, h⟩ := pj_pr_inv h
  obtain ⟨e9, h⟩ := pj_pe_inv h
  rw [e1, e0, e9]
  exact mj_wp_sub (mj_sub_cons g0 (mj_sub_cons g1 (mj_sub_cons g2 (mj_sub_nil hd)))) (hf _ _ _ _ _ _ _ h)
set_option maxRecDepth 100000 in
theorem pz_X12_hear {lf : pj_Z → mj_M} (hT : pj_Lt pj_TR lf) : pj_Cok ic_P (mj_R ic_P 10) 12108 ie_X12_hear.1 (pm_OK lf pm_rI) lf px_X12_hear := by
  exact pm_cok (c := px_X12_hear) hT (pm_in_ok (L := [(259, 12, 0, 0, false), (594, 12, 22, 1, false), (820, 12, 17, 0, false)]) (f := mj_pF ic_P 12108) (by decide +kernel)) (fun _ _ h => by cases h) (pm_inL_ok (L := [(630, 1000000)]) (f := mj_pL ic_P 12108) (by decide +kernel)) (fun _ _ h => by cases h) rfl rfl ⟨by decide, rfl⟩ pm_mI (pj_as_all (p := pm_Cl 10 12108 ie_X12_hear.1 lf (pm_OK lf pm_rI)) (List.forall_mem_cons.mpr ⟨fun _ _ lv st z K a hK h => pc_X12_isIn hT (by decide) (ix := 568) rfl rfl hK h, (List.forall_mem_cons.mpr ⟨fun _ _ lv st z K a hK h => pc_X12_passTo hT (by decide) (ix := 894) rfl rfl hK h, (List.forall_mem_cons.mpr ⟨fun _ _ lv st z K a hK h => pc_X12_heard hT (by decide) (ix := 951) rfl rfl hK h, (fun _ h => by cases h)⟩)⟩)⟩)) (fun _ h => by cases h)
set_option maxRecDepth 100000 in
theorem pb_X12_hear : pm_bks ie_X12_hear.1.2.2.2.2 pk_X12_hear = true := by decide +kernel
set_option maxRecDepth 100000 in
theorem pg_X12_hear_18 {lf : pj_Z → mj_M} (hT : pj_Lt pj_TR lf) : ∀ (a1 : Int32) (a2 : Int32) (b1 : Int32) (s : Nat → Int32) (l : Nat → Int64) (x : Nat → Int32) (y : Nat → Int64) (a : Int32 × pj_Z), pl_X12_hear_18 a1 a2 b1 s l x y = some a → pm_Gd 10 12108 ie_X12_hear.1 pm_rI lf 18 [(0, .ref 124), (1, .int a1), (2, .int a2)] [.int b1, .ref 124] (s, l, x, y) a := by
  intro a1 a2 b1 s l x y a h
  exact pj_bl_ok (pz_X12_hear hT) (fun t lv st z hd h => pj_rn_ok (pz_X12_hear hT) (pm_bks_ok pb_X12_hear) (fun _ _ h => by cases h) 60 t lv st z hd h) [(18, .putfield 259, 3), (21, .aload_n 0, 1), (22, .getfield 259, 3), (25, .ifCond .le 5, 3)] 18 [(0, pj_O (124, 0)), (1, pj_I a1), (2, pj_I a2)] [pj_I b1, pj_O (124, 0)] (s, l, x, y) (pm_bks_ok pb_X12_hear _ _ rfl) (pm_ndb_ok rfl) ((pq_X12_hear_18  a1 a2 b1 s l x y).symm.trans h)
set_option maxRecDepth 100000 in
theorem pm_X12_hear {lf : pj_Z → mj_M} (hT : pj_Lt pj_TR lf) (a1 : Int32) (a2 : Int32) (s : Nat → Int32) (l : Nat → Int64) (x : Nat → Int32) (y : Nat → Int64) (a : Int32 × pj_Z) (h : pf_X12_hear a1 a2 s l x y = some a) : mj_R ic_P 11 12108 [.ref 124, .int a1, .int a2] (lf (s, l, x, y)) (pm_rI a.1) (lf a.2) := by
  refine pm_main (Y := ie_X12_hear.1) rfl (Nat.le_of_ble_eq_true rfl) ?_
  exact pj_bl_ok (pz_X12_hear hT) (fun t lv st z hd h => pj_rn_ok (pz_X12_hear hT) (pm_bks_ok pb_X12_hear) (pj_as_all (p := pm_Ex 10 12108 ie_X12_hear.1 pm_rI lf a) (List.forall_mem_cons.mpr ⟨pu_X12_hear_18 _ (fun c0 c1 c2 s l x y h => pg_X12_hear_18 hT c0 c1 c2 s l x y _ h), (fun _ h => by cases h)⟩)) 60 t lv st z hd h) [(0, .aload_n 0, 1), (1, .iload_n 2, 1), (2, .i2l, 1), (3, .lconst 0, 1), (4, .ldc2_w 630, 3), (7, .invokestatic 568, 3), (10, .ifCond .ne 7, 3)] 0 [(0, pj_O (124, 0)), (1, pj_I a1), (2, pj_I a2)] [] (s, l, x, y) (pm_bks_ok pb_X12_hear _ _ rfl) (pm_ndb_ok rfl) ((pq_X12_hear_m a1 a2 s l x y).symm.trans h)
abbrev ph_X12_hear {A : Type} : List pj_V → pj_Z → (List pj_V → pj_Z → Option A) → Option A := fun st z K => pj_pi st fun a2 st => pj_pi st fun a1 st => pj_pr st 124 0 fun st => pj_ps st (pj_b (pf_X12_hear a1 a2 z.1 z.2.1 z.2.2.1 z.2.2.2) fun r s l x y => K (pj_I r :: st) (s, l, x, y))
set_option maxRecDepth 100000 in
theorem pc_X12_hear {A : Type} {OK : A → Option Value → mj_M → Prop} {d j pc ix : Nat} {Y : mj_Y} {lf : pj_Z → mj_M} (hT : pj_Lt pj_TR lf) (hd : 11 ≤ d) (hl : mj_lk Y.2.2.2.2 pc = some (.invokevirtual ix, 3)) (hg : mj_pG ic_P j ix = some (12108, 2, some 12)) {lv : List (Nat × Value)} {st : List pj_V} {z : pj_Z} {K : List pj_V → pj_Z → Option A} {a : A} (hK : ∀ st z, K st z = some a → pj_Gd ic_P (mj_R ic_P d) j Y OK lf (pc + 3) lv (pj_es st) z a) (h : ph_X12_hear st z K = some a) : pj_Gd ic_P (mj_R ic_P d) j Y OK lf pc lv (pj_es st) z a := by
  obtain ⟨a2, r2, e2, h⟩ := pj_pi_inv h
  obtain ⟨a1, r1, e1, h⟩ := pj_pi_inv h
  obtain ⟨r0, e0, h⟩ := pj_pr_inv h
  obtain ⟨hs, h⟩ := pj_ps_inv h
  obtain ⟨q, hq, h⟩ := pj_b_inv h
  exact pm_cv (o := 124) hl hg [.int a1, .int a2] rfl (by rw [e2, e1, e0]; rfl) hs (by decide) ((hT.2 124 _ rfl).1.2 z 0 (by decide)) (pm_rI q.1) hd (pm_X12_hear hT a1 a2 z.1 z.2.1 z.2.2.1 z.2.2.2 q hq) rfl (hK _ _ h)
abbrev px_X12_byteAfter : pj_C (Unit × pj_Z) := (pj_TR, (pj_as [(594, 12, 22, 1, false)]), (fun _ => none), (fun _ => none), (fun _ => none), ic_X, 4, 0, pj_mU, (pj_as [(7, ph_X12_passTo), (16, ph_X12_heard)]), fun _ => false)
abbrev pk_X12_byteAfter : List (Nat × List (Nat × Instr × Nat)) := [(0, [(0, .aload_n 0, 1), (1, .aload_n 0, 1), (2, .getfield 594, 3), (5, .lload_n 2, 1), (6, .ladd, 1), (7, .invokevirtual 894, 3), (10, .aload_n 0, 1), (11, .iload_n 1, 1), (12, .sipush 255, 3), (15, .iand, 1), (16, .invokevirtual 951, 3), (19, .return_, 1)])]
set_option maxRecDepth 100000 in
theorem pq_X12_byteAfter_m (a1 : Int32) (a2 : Int64) (s : Nat → Int32) (l : Nat → Int64) (x : Nat → Int32) (y : Nat → Int64) : pf_X12_byteAfter a1 a2 s l x y = pj_bl px_X12_byteAfter (pj_rn px_X12_byteAfter (pj_as pk_X12_byteAfter) (fun _ => none) 60) [(0, .aload_n 0, 1), (1, .aload_n 0, 1), (2, .getfield 594, 3), (5, .lload_n 2, 1), (6, .ladd, 1), (7, .invokevirtual 894, 3), (10, .aload_n 0, 1), (11, .iload_n 1, 1), (12, .sipush 255, 3), (15, .iand, 1), (16, .invokevirtual 951, 3), (19, .return_, 1)] 0 [(0, pj_O (124, 0)), (1, pj_I a1), (2, pj_L a2)] [] (s, l, x, y) := rfl
set_option maxRecDepth 100000 in
theorem pz_X12_byteAfter {lf : pj_Z → mj_M} (hT : pj_Lt pj_TR lf) : pj_Cok ic_P (mj_R ic_P 10) 12109 ie_X12_byteAfter.1 (pm_OK lf pm_rU) lf px_X12_byteAfter := by
  exact pm_cok (c := px_X12_byteAfter) hT (pm_in_ok (L := [(594, 12, 22, 1, false)]) (f := mj_pF ic_P 12109) (by decide +kernel)) (fun _ _ h => by cases h) (fun _ _ h => by cases h) (fun _ _ h => by cases h) rfl rfl ⟨by decide, rfl⟩ pm_mU (pj_as_all (p := pm_Cl 10 12109 ie_X12_byteAfter.1 lf (pm_OK lf pm_rU)) (List.forall_mem_cons.mpr ⟨fun _ _ lv st z K a hK h => pc_X12_passTo hT (by decide) (ix := 894) rfl rfl hK h, (List.forall_mem_cons.mpr ⟨fun _ _ lv st z K a hK h => pc_X12_heard hT (by decide) (ix := 951) rfl rfl hK h, (fun _ h => by cases h)⟩)⟩)) (fun _ h => by cases h)
set_option maxRecDepth 100000 in
theorem pb_X12_byteAfter : pm_bks ie_X12_byteAfter.1.2.2.2.2 pk_X12_byteAfter = true := by decide +kernel
set_option maxRecDepth 100000 in
theorem pm_X12_byteAfter {lf : pj_Z → mj_M} (hT : pj_Lt pj_TR lf) (a1 : Int32) (a2 : Int64) (s : Nat → Int32) (l : Nat → Int64) (x : Nat → Int32) (y : Nat → Int64) (a : Unit × pj_Z) (h : pf_X12_byteAfter a1 a2 s l x y = some a) : mj_R ic_P 11 12109 [.ref 124, .int a1, .long a2] (lf (s, l, x, y)) (pm_rU a.1) (lf a.2) := by
  refine pm_main (Y := ie_X12_byteAfter.1) rfl (Nat.le_of_ble_eq_true rfl) ?_
  exact pj_bl_ok (pz_X12_byteAfter hT) (fun t lv st z hd h => pj_rn_ok (pz_X12_byteAfter hT) (pm_bks_ok pb_X12_byteAfter) (fun _ _ h => by cases h) 60 t lv st z hd h) [(0, .aload_n 0, 1), (1, .aload_n 0, 1), (2, .getfield 594, 3), (5, .lload_n 2, 1), (6, .ladd, 1), (7, .invokevirtual 894, 3), (10, .aload_n 0, 1), (11, .iload_n 1, 1), (12, .sipush 255, 3), (15, .iand, 1), (16, .invokevirtual 951, 3), (19, .return_, 1)] 0 [(0, pj_O (124, 0)), (1, pj_I a1), (2, pj_L a2)] [] (s, l, x, y) (pm_bks_ok pb_X12_byteAfter _ _ rfl) (pm_ndb_ok rfl) ((pq_X12_byteAfter_m a1 a2 s l x y).symm.trans h)
abbrev ph_X12_byteAfter {A : Type} : List pj_V → pj_Z → (List pj_V → pj_Z → Option A) → Option A := fun st z K => pj_pl st fun a2 st => pj_pi st fun a1 st => pj_pr st 124 0 fun st => pj_ps st (pj_b (pf_X12_byteAfter a1 a2 z.1 z.2.1 z.2.2.1 z.2.2.2) fun r s l x y => K st (s, l, x, y))
set_option maxRecDepth 100000 in
theorem pc_X12_byteAfter {A : Type} {OK : A → Option Value → mj_M → Prop} {d j pc ix : Nat} {Y : mj_Y} {lf : pj_Z → mj_M} (hT : pj_Lt pj_TR lf) (hd : 11 ≤ d) (hl : mj_lk Y.2.2.2.2 pc = some (.invokevirtual ix, 3)) (hg : mj_pG ic_P j ix = some (12109, 2, some 12)) {lv : List (Nat × Value)} {st : List pj_V} {z : pj_Z} {K : List pj_V → pj_Z → Option A} {a : A} (hK : ∀ st z, K st z = some a → pj_Gd ic_P (mj_R ic_P d) j Y OK lf (pc + 3) lv (pj_es st) z a) (h : ph_X12_byteAfter st z K = some a) : pj_Gd ic_P (mj_R ic_P d) j Y OK lf pc lv (pj_es st) z a := by
  obtain ⟨a2, r2, e2, h⟩ := pj_pl_inv h
  obtain ⟨a1, r1, e1, h⟩ := pj_pi_inv h
  obtain ⟨r0, e0, h⟩ := pj_pr_inv h
  obtain ⟨hs, h⟩ := pj_ps_inv h
  obtain ⟨q, hq, h⟩ := pj_b_inv h
  exact pm_cv (o := 124) hl hg [.int a1, .long a2] rfl (by rw [e2, e1, e0]; rfl) hs (by decide) ((hT.2 124 _ rfl).1.2 z 0 (by decide)) (pm_rU q.1) hd (pm_X12_byteAfter hT a1 a2 z.1 z.2.1 z.2.2.1 z.2.2.2 q hq) rfl (hK _ _ h)
abbrev pe_X12_ask_18 (f : Int32 → Int32 → Int32 → Int32 → Int32 → Int32 → Int32 → pj_F (Int32 × pj_Z)) : pj_K (Int32 × pj_Z) := fun lv st z => pj_xr lv 0 124 0 <| pj_xi lv 1 fun a1 => pj_xi lv 2 fun a2 => pj_xi lv 3 fun a3 => pj_xi lv 4 fun a4 => pj_xi lv 5 fun a5 => pj_xi lv 6 fun a6 => pj_pi st fun b1 st => pj_pr st 124 0 fun st => pj_pe st (f a1 a2 a3 a4 a5 a6 b1 z.1 z.2.1 z.2.2.1 z.2.2.2)
abbrev pe_X12_ask_78 (f : Int32 → Int32 → Int32 → Int32 → Int32 → Int32 → Int32 → Int32 → pj_F (Int32 × pj_Z)) : pj_K (Int32 × pj_Z) := fun lv st z => pj_xr lv 0 124 0 <| pj_xi lv 1 fun a1 => pj_xi lv 2 fun a2 => pj_xi lv 3 fun a3 => pj_xi lv 4 fun a4 => pj_xi lv 5 fun a5 => pj_xi lv 6 fun a6 => pj_xi lv 7 fun a7 => pj_xi lv 8 fun a8 => pj_pe st (f a1 a2 a3 a4 a5 a6 a7 a8 z.1 z.2.1 z.2.2.1 z.2.2.2)
abbrev pe_X12_ask_127 (f : Int32 → Int32 → Int32 → Int32 → Int32 → Int32 → Int32 → Int32 → Int32 → pj_F (Int32 × pj_Z)) : pj_K (Int32 × pj_Z) := fun lv st z => pj_xr lv 0 124 0 <| pj_xi lv 1 fun a1 => pj_xi lv 2 fun a2 => pj_xi lv 3 fun a3 => pj_xi lv 4 fun a4 => pj_xi lv 5 fun a5 => pj_xi lv 6 fun a6 => pj_xi lv 7 fun a7 => pj_xi lv 8 fun a8 => pj_pi st fun b0 st => pj_pe st (f a1 a2 a3 a4 a5 a6 a7 a8 b0 z.1 z.2.1 z.2.2.1 z.2.2.2)
abbrev px_X12_ask : pj_C (Int32 × pj_Z) := (pj_TR, (pj_as [(259, 12, 0, 0, false), (820, 12, 17, 0, false)]), (fun _ => none), (pj_as [(645, 5), (687, 1000), (935, 30000)]), (fun _ => none), ic_X, 10, 1, pj_mI, (pj_as [(7, ph_X12_isIn), (53, ph_X12_byteAfter), (62, ph_X12_byteAfter), (72, ph_X12_byteAfter), (146, ph_X12_byteAfter), (161, ph_X12_byteAfter)]), fun _ => false)
abbrev pk_X12_ask : List (Nat × List (Nat × Instr × Nat)) := [(0, [(0, .aload_n 0, 1), (1, .iload_n 1, 1), (2, .i2l, 1), (3, .lconst 1, 1), (4, .ldc2_w 645, 3), (7, .invokestatic 568, 3), (10, .ifCond .ne 7, 3)]), (13, [(13, .iconst 1, 1), (14, .goto 4, 3)]), (17, [(17, .iconst 0, 1)]), (18, [(18, .putfield 259, 3), (21, .aload_n 0, 1), (22, .getfield 259, 3), (25, .ifCond .le 5, 3)]), (28, [(28, .iconst 0, 1), (29, .ireturn, 1)]), (30, [(30, .sipush 128, 3), (33, .iload_n 1, 1), (34, .iadd, 1), (35, .bipush 17, 2), (37, .iadd, 1), (38, .sipush 241, 3), (41, .iadd, 1), (42, .istore 7, 2), (44, .aload_n 0, 1), (45, .sipush 128, 3), (48, .iload_n 1, 1), (49, .iadd, 1), (50, .ldc2_w 935, 3), (53, .invokevirtual 954, 3), (56, .aload_n 0, 1), (57, .bipush 17, 2), (59, .ldc2_w 687, 3), (62, .invokevirtual 954, 3), (65, .aload_n 0, 1), (66, .sipush 241, 3), (69, .ldc2_w 687, 3), (72, .invokevirtual 954, 3), (75, .iconst 0, 1), (76, .istore 8, 2)]), (78, [(78, .iload 8, 2), (80, .iload_n 1, 1), (81, .if_icmp .ge 74, 3)]), (84, [(84, .iload 8, 2), (86, .ifCond .ne 7, 3)]), (89, [(89, .iload_n 2, 1), (90, .goto 37, 3)]), (93, [(93, .iload 8, 2), (95, .iconst 1, 1), (96, .if_icmp .ne 7, 3)]), (99, [(99, .iload_n 3, 1), (100, .goto 27, 3)]), (103, [(103, .iload 8, 2), (105, .iconst 2, 1), (106, .if_icmp .ne 8, 3)]), (109, [(109, .iload 4, 2), (111, .goto 16, 3)]), (114, [(114, .iload 8, 2), (116, .iconst 3, 1), (117, .if_icmp .ne 8, 3)]), (120, [(120, .iload 5, 2), (122, .goto 5, 3)]), (125, [(125, .iload 6, 2)]), (127, [(127, .sipush 255, 3), (130, .iand, 1), (131, .istore 9, 2), (133, .iload 7, 2), (135, .iload 9, 2), (137, .iadd, 1), (138, .istore 7, 2), (140, .aload_n 0, 1), (141, .iload 9, 2), (143, .ldc2_w 687, 3), (146, .invokevirtual 954, 3), (149, .iinc 8 1, 3), (152, .goto (-74), 3)]), (155, [(155, .aload_n 0, 1), (156, .iload 7, 2), (158, .ldc2_w 687, 3), (161, .invokevirtual 954, 3), (164, .aload_n 0, 1), (165, .getfield 820, 3), (168, .ireturn, 1)])]
set_option maxRecDepth 100000 in
theorem pq_X12_ask_127 (k78 : Int32 → Int32 → Int32 → Int32 → Int32 → Int32 → Int32 → Int32 → pj_F (Int32 × pj_Z)) (a1 : Int32) (a2 : Int32) (a3 : Int32) (a4 : Int32) (a5 : Int32) (a6 : Int32) (a7 : Int32) (a8 : Int32) (b0 : Int32) (s : Nat → Int32) (l : Nat → Int64) (x : Nat → Int32) (y : Nat → Int64) : pl_X12_ask_127 k78 a1 a2 a3 a4 a5 a6 a7 a8 b0 s l x y = pj_bl px_X12_ask (pj_rn px_X12_ask (pj_as pk_X12_ask) (pj_as [(78, pe_X12_ask_78 k78)]) 60) [(127, .sipush 255, 3), (130, .iand, 1), (131, .istore 9, 2), (133, .iload 7, 2), (135, .iload 9, 2), (137, .iadd, 1), (138, .istore 7, 2), (140, .aload_n 0, 1), (141, .iload 9, 2), (143, .ldc2_w 687, 3), (146, .invokevirtual 954, 3), (149, .iinc 8 1, 3), (152, .goto (-74), 3)] 127 [(0, pj_O (124, 0)), (1, pj_I a1), (2, pj_I a2), (3, pj_I a3), (4, pj_I a4), (5, pj_I a5), (6, pj_I a6), (7, pj_I a7), (8, pj_I a8)] [pj_I b0] (s, l, x, y) := rfl
set_option maxRecDepth 100000 in
theorem pq_X12_ask_78 (n : Nat) (a1 : Int32) (a2 : Int32) (a3 : Int32) (a4 : Int32) (a5 : Int32) (a6 : Int32) (a7 : Int32) (a8 : Int32) (s : Nat → Int32) (l : Nat → Int64) (x : Nat → Int32) (y : Nat → Int64) : pl_X12_ask_78 (n + 1) a1 a2 a3 a4 a5 a6 a7 a8 s l x y = pj_bl px_X12_ask (pj_rn px_X12_ask (pj_as pk_X12_ask) (pj_as [(78, pe_X12_ask_78 (pl_X12_ask_78 n)), (127, pe_X12_ask_127 (pl_X12_ask_127 (pl_X12_ask_78 n)))]) 60) [(78, .iload 8, 2), (80, .iload_n 1, 1), (81, .if_icmp .ge 74, 3)] 78 [(0, pj_O (124, 0)), (1, pj_I a1), (2, pj_I a2), (3, pj_I a3), (4, pj_I a4), (5, pj_I a5), (6, pj_I a6), (7, pj_I a7), (8, pj_I a8)] [] (s, l, x, y) := rfl
set_option maxRecDepth 100000 in
theorem pq_X12_ask_18 (a1 : Int32) (a2 : Int32) (a3 : Int32) (a4 : Int32) (a5 : Int32) (a6 : Int32) (b1 : Int32) (s : Nat → Int32) (l : Nat → Int64) (x : Nat → Int32) (y : Nat → Int64) : pl_X12_ask_18 a1 a2 a3 a4 a5 a6 b1 s l x y = pj_bl px_X12_ask (pj_rn px_X12_ask (pj_as pk_X12_ask) (pj_as [(78, pe_X12_ask_78 (pl_X12_ask_78 (pj_fu 0)))]) 60) [(18, .putfield 259, 3), (21, .aload_n 0, 1), (22, .getfield 259, 3), (25, .ifCond .le 5, 3)] 18 [(0, pj_O (124, 0)), (1, pj_I a1), (2, pj_I a2), (3, pj_I a3), (4, pj_I a4), (5, pj_I a5), (6, pj_I a6)] [pj_I b1, pj_O (124, 0)] (s, l, x, y) := rfl
set_option maxRecDepth 100000 in
theorem pq_X12_ask_m (a1 : Int32) (a2 : Int32) (a3 : Int32) (a4 : Int32) (a5 : Int32) (a6 : Int32) (s : Nat → Int32) (l : Nat → Int64) (x : Nat → Int32) (y : Nat → Int64) : pf_X12_ask a1 a2 a3 a4 a5 a6 s l x y = pj_bl px_X12_ask (pj_rn px_X12_ask (pj_as pk_X12_ask) (pj_as [(18, pe_X12_ask_18 (pl_X12_ask_18))]) 60) [(0, .aload_n 0, 1), (1, .iload_n 1, 1), (2, .i2l, 1), (3, .lconst 1, 1), (4, .ldc2_w 645, 3), (7, .invokestatic 568, 3), (10, .ifCond .ne 7, 3)] 0 [(0, pj_O (124, 0)), (1, pj_I a1), (2, pj_I a2), (3, pj_I a3), (4, pj_I a4), (5, pj_I a5), (6, pj_I a6)] [] (s, l, x, y) := rfl
theorem pu_X12_ask_18 {lf : pj_Z → mj_M} {a : Int32 × pj_Z} (f : Int32 → Int32 → Int32 → Int32 → Int32 → Int32 → Int32 → pj_F (Int32 × pj_Z)) (hf : ∀ (a1 : Int32) (a2 : Int32) (a3 : Int32) (a4 : Int32) (a5 : Int32) (a6 : Int32) (b1 : Int32) (s : Nat → Int32) (l : Nat → Int64) (x : Nat → Int32) (y : Nat → Int64), f a1 a2 a3 a4 a5 a6 b1 s l x y = some a → pm_Gd 11 12110 ie_X12_ask.1 pm_rI lf 18 [(0, .ref 124), (1, .int a1), (2, .int a2), (3, .int a3), (4, .int a4), (5, .int a5), (6, .int a6)] [.int b1, .ref 124] (s, l, x, y) a) : pm_Ex 11 12110 ie_X12_ask.1 pm_rI lf a 18 (pe_X12_ask_18 f) := by
  intro lv st z hd h
  obtain ⟨g0, h⟩ := pj_xr_inv h
  obtain ⟨a1, g1, h⟩ := pj_xi_inv h
  obtain ⟨a2, g2, h⟩ := pj_xi_inv h
  obtain ⟨a3, g3, h⟩ := pj_xi_inv h
  obtain ⟨a4, g4, h⟩ := pj_xi_inv h
  obtain ⟨a5, g5, h⟩ := pj_xi_inv h
  obtain ⟨a6, g6, h⟩ := pj_xi_inv h
  obtain ⟨b1, r1, e1, h⟩ := pj_pi_inv h
  obtain ⟨r0, e0, h⟩ := pj_pr_inv h
  obtain ⟨e9, h⟩ := pj_pe_inv h
  rw [e1, e0, e9]
  exact mj_wp_sub (mj_sub_cons g0 (mj_sub_cons g1 (mj_sub_cons g2 (mj_sub_cons g3 (mj_sub_cons g4 (mj_sub_cons g5 (mj_sub_cons g6 (mj_sub_nil hd)))))))) (hf _ _ _ _ _ _ _ _ _ _ _ h)
theorem pu_X12_ask_78 {lf : pj_Z → mj_M} {a : Int32 × pj_Z} (f : Int32 → Int32 → Int32 → Int32 → Int32 → Int32 → Int32 → Int32 → pj_F (Int32 × pj_Z)) (hf : ∀ (a1 : Int32) (a2 : Int32) (a3 : Int32) (a4 : Int32) (a5 : Int32) (a6 : Int32) (a7 : Int32) (a8 : Int32) (s : Nat → Int32) (l : Nat → Int64) (x : Nat → Int32) (y : Nat → Int64), f a1 a2 a3 a4 a5 a6 a7 a8 s l x y = some a → pm_Gd 11 12110 ie_X12_ask.1 pm_rI lf 78 [(0, .ref 124), (1, .int a1), (2, .int a2), (3, .int a3), (4, .int a4), (5, .int a5), (6, .int a6), (7, .int a7), (8, .int a8)] [] (s, l, x, y) a) : pm_Ex 11 12110 ie_X12_ask.1 pm_rI lf a 78 (pe_X12_ask_78 f) := by
  intro lv st z hd h
  obtain ⟨g0, h⟩ := pj_xr_inv h
  obtain ⟨a1, g1, h⟩ := pj_xi_inv h
  obtain ⟨a2, g2, h⟩ := pj_xi_inv h
  obtain ⟨a3, g3, h⟩ := pj_xi_inv h
  obtain ⟨a4, g4, h⟩ := pj_xi_inv h
  obtain ⟨a5, g5, h⟩ := pj_xi_inv h
  obtain ⟨a6, g6, h⟩ := pj_xi_inv h
  obtain ⟨a7, g7, h⟩ := pj_xi_inv h
  obtain ⟨a8, g8, h⟩ := pj_xi_inv h
  obtain ⟨e9, h⟩ := pj_pe_inv h
  rw [e9]
  exact mj_wp_sub (mj_sub_cons g0 (mj_sub_cons g1 (mj_sub_cons g2 (mj_sub_cons g3 (mj_sub_cons g4 (mj_sub_cons g5 (mj_sub_cons g6 (mj_sub_cons g7 (mj_sub_cons g8 (mj_sub_nil hd)))))))))) (hf _ _ _ _ _ _ _ _ _ _ _ _ h)
theorem pu_X12_ask_127 {lf : pj_Z → mj_M} {a : Int32 × pj_Z} (f : Int32 → Int32 → Int32 → Int32 → Int32 → Int32 → Int32 → Int32 → Int32 → pj_F (Int32 × pj_Z)) (hf : ∀ (a1 : Int32) (a2 : Int32) (a3 : Int32) (a4 : Int32) (a5 : Int32) (a6 : Int32) (a7 : Int32) (a8 : Int32) (b0 : Int32) (s : Nat → Int32) (l : Nat → Int64) (x : Nat → Int32) (y : Nat → Int64), f a1 a2 a3 a4 a5 a6 a7 a8 b0 s l x y = some a → pm_Gd 11 12110 ie_X12_ask.1 pm_rI lf 127 [(0, .ref 124), (1, .int a1), (2, .int a2), (3, .int a3), (4, .int a4), (5, .int a5), (6, .int a6), (7, .int a7), (8, .int a8)] [.int b0] (s, l, x, y) a) : pm_Ex 11 12110 ie_X12_ask.1 pm_rI lf a 127 (pe_X12_ask_127 f) := by
  intro lv st z hd h
  obtain ⟨g0, h⟩ := pj_xr_inv h
  obtain ⟨a1, g1, h⟩ := pj_xi_inv h
  obtain ⟨a2, g2, h⟩ := pj_xi_inv h
  obtain ⟨a3, g3, h⟩ := pj_xi_inv h
  obtain ⟨a4, g4, h⟩ := pj_xi_inv h
  obtain ⟨a5, g5, h⟩ := pj_xi_inv h
  obtain ⟨a6, g6, h⟩ := pj_xi_inv h
  obtain ⟨a7, g7, h⟩ := pj_xi_inv h
  obtain ⟨a8, g8, h⟩ := pj_xi_inv h
  obtain ⟨b0, r0, e0, h⟩ := pj_pi_inv h
  obtain ⟨e9, h⟩ := pj_pe_inv h
  rw [e0, e9]
  exact mj_wp_sub (mj_sub_cons g0 (mj_sub_cons g1 (mj_sub_cons g2 (mj_sub_cons g3 (mj_sub_cons g4 (mj_sub_cons g5 (mj_sub_cons g6 (mj_sub_cons g7 (mj_sub_cons g8 (mj_sub_nil hd)))))))))) (hf _ _ _ _ _ _ _ _ _ _ _ _ _ h)
set_option maxRecDepth 100000 in
theorem pz_X12_ask {lf : pj_Z → mj_M} (hT : pj_Lt pj_TR lf) : pj_Cok ic_P (mj_R ic_P 11) 12110 ie_X12_ask.1 (pm_OK lf pm_rI) lf px_X12_ask := by
  exact pm_cok (c := px_X12_ask) hT (pm_in_ok (L := [(259, 12, 0, 0, false), (820, 12, 17, 0, false)]) (f := mj_pF ic_P 12110) (by decide +kernel)) (fun _ _ h => by cases h) (pm_inL_ok (L := [(645, 5), (687, 1000), (935, 30000)]) (f := mj_pL ic_P 12110) (by decide +kernel)) (fun _ _ h => by cases h) rfl rfl ⟨by decide, rfl⟩ pm_mI (pj_as_all (p := pm_Cl 11 12110 ie_X12_ask.1 lf (pm_OK lf pm_rI)) (List.forall_mem_cons.mpr ⟨fun _ _ lv st z K a hK h => pc_X12_isIn hT (by decide) (ix := 568) rfl rfl hK h, (List.forall_mem_cons.mpr ⟨fun _ _ lv st z K a hK h => pc_X12_byteAfter hT (by decide) (ix := 954) rfl rfl hK h, (List.forall_mem_cons.mpr ⟨fun _ _ lv st z K a hK h => pc_X12_byteAfter hT (by decide) (ix := 954) rfl rfl hK h, (List.forall_mem_cons.mpr ⟨fun _ _ lv st z K a hK h => pc_X12_byteAfter hT (by decide) (ix := 954) rfl rfl hK h, (List.forall_mem_cons.mpr ⟨fun _ _ lv st z K a hK h => pc_X12_byteAfter hT (by decide) (ix := 954) rfl rfl hK h, (List.forall_mem_cons.mpr ⟨fun _ _ lv st z K a hK h => pc_X12_byteAfter hT (by decide) (ix := 954) rfl rfl hK h, (fun _ h => by cases h)⟩)⟩)⟩)⟩)⟩)⟩)) (fun _ h => by cases h)
set_option maxRecDepth 100000 in
theorem pb_X12_ask : pm_bks ie_X12_ask.1.2.2.2.2 pk_X12_ask = true := by decide +kernel
set_option maxRecDepth 100000 in
theorem pg_X12_ask_127 {lf : pj_Z → mj_M} (hT : pj_Lt pj_TR lf) {k78 : Int32 → Int32 → Int32 → Int32 → Int32 → Int32 → Int32 → Int32 → pj_F (Int32 × pj_Z)} (hk78 : ∀ (a1 : Int32) (a2 : Int32) (a3 : Int32) (a4 : Int32) (a5 : Int32) (a6 : Int32) (a7 : Int32) (a8 : Int32) (s : Nat → Int32) (l : Nat → Int64) (x : Nat → Int32) (y : Nat → Int64) (a : Int32 × pj_Z), k78 a1 a2 a3 a4 a5 a6 a7 a8 s l x y = some a → pm_Gd 11 12110 ie_X12_ask.1 pm_rI lf 78 [(0, .ref 124), (1, .int a1), (2, .int a2), (3, .int a3), (4, .int a4), (5, .int a5), (6, .int a6), (7, .int a7), (8, .int a8)] [] (s, l, x, y) a) : ∀ (a1 : Int32) (a2 : Int32) (a3 : Int32) (a4 : Int32) (a5 : Int32) (a6 : Int32) (a7 : Int32) (a8 : Int32) (b0 : Int32) (s : Nat → Int32) (l : Nat → Int64) (x : Nat → Int32) (y : Nat → Int64) (a : Int32 × pj_Z), pl_X12_ask_127 k78 a1 a2 a3 a4 a5 a6 a7 a8 b0 s l x y = some a → pm_Gd 11 12110 ie_X12_ask.1 pm_rI lf 127 [(0, .ref 124), (1, .int a1), (2, .int a2), (3, .int a3), (4, .int a4), (5, .int a5), (6, .int a6), (7, .int a7), (8, .int a8)] [.int b0] (s, l, x, y) a := by
  intro a1 a2 a3 a4 a5 a6 a7 a8 b0 s l x y a h
  exact pj_bl_ok (pz_X12_ask hT) (fun t lv st z hd h => pj_rn_ok (pz_X12_ask hT) (pm_bks_ok pb_X12_ask) (pj_as_all (p := pm_Ex 11 12110 ie_X12_ask.1 pm_rI lf a) (List.forall_mem_cons.mpr ⟨pu_X12_ask_78 _ (fun c0 c1 c2 c3 c4 c5 c6 c7 s l x y h => hk78 c0 c1 c2 c3 c4 c5 c6 c7 s l x y _ h), (fun _ h => by cases h)⟩)) 60 t lv st z hd h) [(127, .sipush 255, 3), (130, .iand, 1), (131, .istore 9, 2), (133, .iload 7, 2), (135, .iload 9, 2), (137, .iadd, 1), (138, .istore 7, 2), (140, .aload_n 0, 1), (141, .iload 9, 2), (143, .ldc2_w 687, 3), (146, .invokevirtual 954, 3), (149, .iinc 8 1, 3), (152, .goto (-74), 3)] 127 [(0, pj_O (124, 0)), (1, pj_I a1), (2, pj_I a2), (3, pj_I a3), (4, pj_I a4), (5, pj_I a5), (6, pj_I a6), (7, pj_I a7), (8, pj_I a8)] [pj_I b0] (s, l, x, y) (pm_bks_ok pb_X12_ask _ _ rfl) (pm_ndb_ok rfl) ((pq_X12_ask_127 k78 a1 a2 a3 a4 a5 a6 a7 a8 b0 s l x y).symm.trans h)
set_option maxRecDepth 100000 in
theorem pg_X12_ask_78 {lf : pj_Z → mj_M} (hT : pj_Lt pj_TR lf) : ∀ (n : Nat), ∀ (a1 : Int32) (a2 : Int32) (a3 : Int32) (a4 : Int32) (a5 : Int32) (a6 : Int32) (a7 : Int32) (a8 : Int32) (s : Nat → Int32) (l : Nat → Int64) (x : Nat → Int32) (y : Nat → Int64) (a : Int32 × pj_Z), pl_X12_ask_78 n a1 a2 a3 a4 a5 a6 a7 a8 s l x y = some a → pm_Gd 11 12110 ie_X12_ask.1 pm_rI lf 78 [(0, .ref 124), (1, .int a1), (2, .int a2), (3, .int a3), (4, .int a4), (5, .int a5), (6, .int a6), (7, .int a7), (8, .int a8)] [] (s, l, x, y) a := by
  intro n
  induction n with
  | zero => intro a1 a2 a3 a4 a5 a6 a7 a8 s l x y a h; cases (show (none : Option (Int32 × pj_Z)) = some a from h)
  | succ n ih =>
    intro a1 a2 a3 a4 a5 a6 a7 a8 s l x y a h
    exact pj_bl_ok (pz_X12_ask hT) (fun t lv st z hd h => pj_rn_ok (pz_X12_ask hT) (pm_bks_ok pb_X12_ask) (pj_as_all (p := pm_Ex 11 12110 ie_X12_ask.1 pm_rI lf a) (List.forall_mem_cons.mpr ⟨pu_X12_ask_78 _ (fun c0 c1 c2 c3 c4 c5 c6 c7 s l x y h => ih c0 c1 c2 c3 c4 c5 c6 c7 s l x y _ h), (List.forall_mem_cons.mpr ⟨pu_X12_ask_127 _ (fun c0 c1 c2 c3 c4 c5 c6 c7 c8 s l x y h => pg_X12_ask_127 hT (fun a1 a2 a3 a4 a5 a6 a7 a8 s l x y a h => ih a1 a2 a3 a4 a5 a6 a7 a8 s l x y a h) c0 c1 c2 c3 c4 c5 c6 c7 c8 s l x y _ h), (fun _ h => by cases h)⟩)⟩)) 60 t lv st z hd h) [(78, .iload 8, 2), (80, .iload_n 1, 1), (81, .if_icmp .ge 74, 3)] 78 [(0, pj_O (124, 0)), (1, pj_I a1), (2, pj_I a2), (3, pj_I a3), (4, pj_I a4), (5, pj_I a5), (6, pj_I a6), (7, pj_I a7), (8, pj_I a8)] [] (s, l, x, y) (pm_bks_ok pb_X12_ask _ _ rfl) (pm_ndb_ok rfl) ((pq_X12_ask_78 n a1 a2 a3 a4 a5 a6 a7 a8 s l x y).symm.trans h)
set_option maxRecDepth 100000 in
theorem pg_X12_ask_18 {lf : pj_Z → mj_M} (hT : pj_Lt pj_TR lf) : ∀ (a1 : Int32) (a2 : Int32) (a3 : Int32) (a4 : Int32) (a5 : Int32) (a6 : Int32) (b1 : Int32) (s : Nat → Int32) (l : Nat → Int64) (x : Nat → Int32) (y : Nat → Int64) (a : Int32 × pj_Z), pl_X12_ask_18 a1 a2 a3 a4 a5 a6 b1 s l x y = some a → pm_Gd 11 12110 ie_X12_ask.1 pm_rI lf 18 [(0, .ref 124), (1, .int a1), (2, .int a2), (3, .int a3), (4, .int a4), (5, .int a5), (6, .int a6)] [.int b1, .ref 124] (s, l, x, y) a := by
  intro a1 a2 a3 a4 a5 a6 b1 s l x y a h
  exact pj_bl_ok (pz_X12_ask hT) (fun t lv st z hd h => pj_rn_ok (pz_X12_ask hT) (pm_bks_ok pb_X12_ask) (pj_as_all (p := pm_Ex 11 12110 ie_X12_ask.1 pm_rI lf a) (List.forall_mem_cons.mpr ⟨pu_X12_ask_78 _ (fun c0 c1 c2 c3 c4 c5 c6 c7 s l x y h => pg_X12_ask_78 hT (pj_fu 0) c0 c1 c2 c3 c4 c5 c6 c7 s l x y _ h), (fun _ h => by cases h)⟩)) 60 t lv st z hd h) [(18, .putfield 259, 3), (21, .aload_n 0, 1), (22, .getfield 259, 3), (25, .ifCond .le 5, 3)] 18 [(0, pj_O (124, 0)), (1, pj_I a1), (2, pj_I a2), (3, pj_I a3), (4, pj_I a4), (5, pj_I a5), (6, pj_I a6)] [pj_I b1, pj_O (124, 0)] (s, l, x, y) (pm_bks_ok pb_X12_ask _ _ rfl) (pm_ndb_ok rfl) ((pq_X12_ask_18  a1 a2 a3 a4 a5 a6 b1 s l x y).symm.trans h)
set_option maxRecDepth 100000 in
theorem pm_X12_ask {lf : pj_Z → mj_M} (hT : pj_Lt pj_TR lf) (a1 : Int32) (a2 : Int32) (a3 : Int32) (a4 : Int32) (a5 : Int32) (a6 : Int32) (s : Nat → Int32) (l : Nat → Int64) (x : Nat → Int32) (y : Nat → Int64) (a : Int32 × pj_Z) (h : pf_X12_ask a1 a2 a3 a4 a5 a6 s l x y = some a) : mj_R ic_P 12 12110 [.ref 124, .int a1, .int a2, .int a3, .int a4, .int a5, .int a6] (lf (s, l, x, y)) (pm_rI a.1) (lf a.2) := by
  refine pm_main (Y := ie_X12_ask.1) rfl (Nat.le_of_ble_eq_true rfl) ?_
  exact pj_bl_ok (pz_X12_ask hT) (fun t lv st z hd h => pj_rn_ok (pz_X12_ask hT) (pm_bks_ok pb_X12_ask) (pj_as_all (p := pm_Ex 11 12110 ie_X12_ask.1 pm_rI lf a) (List.forall_mem_cons.mpr ⟨pu_X12_ask_18 _ (fun c0 c1 c2 c3 c4 c5 c6 s l x y h => pg_X12_ask_18 hT c0 c1 c2 c3 c4 c5 c6 s l x y _ h), (fun _ h => by cases h)⟩)) 60 t lv st z hd h) [(0, .aload_n 0, 1), (1, .iload_n 1, 1), (2, .i2l, 1), (3, .lconst 1, 1), (4, .ldc2_w 645, 3), (7, .invokestatic 568, 3), (10, .ifCond .ne 7, 3)] 0 [(0, pj_O (124, 0)), (1, pj_I a1), (2, pj_I a2), (3, pj_I a3), (4, pj_I a4), (5, pj_I a5), (6, pj_I a6)] [] (s, l, x, y) (pm_bks_ok pb_X12_ask _ _ rfl) (pm_ndb_ok rfl) ((pq_X12_ask_m a1 a2 a3 a4 a5 a6 s l x y).symm.trans h)
abbrev ph_X12_ask {A : Type} : List pj_V → pj_Z → (List pj_V → pj_Z → Option A) → Option A := fun st z K => pj_pi st fun a6 st => pj_pi st fun a5 st => pj_pi st fun a4 st => pj_pi st fun a3 st => pj_pi st fun a2 st => pj_pi st fun a1 st => pj_pr st 124 0 fun st => pj_ps st (pj_b (pf_X12_ask a1 a2 a3 a4 a5 a6 z.1 z.2.1 z.2.2.1 z.2.2.2) fun r s l x y => K (pj_I r :: st) (s, l, x, y))
set_option maxRecDepth 100000 in
theorem pc_X12_ask {A : Type} {OK : A → Option Value → mj_M → Prop} {d j pc ix : Nat} {Y : mj_Y} {lf : pj_Z → mj_M} (hT : pj_Lt pj_TR lf) (hd : 12 ≤ d) (hl : mj_lk Y.2.2.2.2 pc = some (.invokevirtual ix, 3)) (hg : mj_pG ic_P j ix = some (12110, 6, some 12)) {lv : List (Nat × Value)} {st : List pj_V} {z : pj_Z} {K : List pj_V → pj_Z → Option A} {a : A} (hK : ∀ st z, K st z = some a → pj_Gd ic_P (mj_R ic_P d) j Y OK lf (pc + 3) lv (pj_es st) z a) (h : ph_X12_ask st z K = some a) : pj_Gd ic_P (mj_R ic_P d) j Y OK lf pc lv (pj_es st) z a := by
  obtain ⟨a6, r6, e6, h⟩ := pj_pi_inv h
  obtain ⟨a5, r5, e5, h⟩ := pj_pi_inv h
  obtain ⟨a4, r4, e4, h⟩ := pj_pi_inv h
  obtain ⟨a3, r3, e3, h⟩ := pj_pi_inv h
  obtain ⟨a2, r2, e2, h⟩ := pj_pi_inv h
  obtain ⟨a1, r1, e1, h⟩ := pj_pi_inv h
  obtain ⟨r0, e0, h⟩ := pj_pr_inv h
  obtain ⟨hs, h⟩ := pj_ps_inv h
  obtain ⟨q, hq, h⟩ := pj_b_inv h
  exact pm_cv (o := 124) hl hg [.int a1, .int a2, .int a3, .int a4, .int a5, .int a6] rfl (by rw [e6, e5, e4, e3, e2, e1, e0]; rfl) hs (by decide) ((hT.2 124 _ rfl).1.2 z 0 (by decide)) (pm_rI q.1) hd (pm_X12_ask hT a1 a2 a3 a4 a5 a6 z.1 z.2.1 z.2.2.1 z.2.2.2 q hq) rfl (hK _ _ h)
abbrev pe_X12_byteOf_22 (f : Int32 → Int32 → pj_F (Int32 × pj_Z)) : pj_K (Int32 × pj_Z) := fun lv st z => pj_xr lv 0 124 0 <| pj_xi lv 1 fun a1 => pj_pi st fun b1 st => pj_pr st 124 0 fun st => pj_pe st (f a1 b1 z.1 z.2.1 z.2.2.1 z.2.2.2)
abbrev px_X12_byteOf : pj_C (Int32 × pj_Z) := (pj_TR, (pj_as [(56, 12, 16, 2, true), (259, 12, 0, 0, false), (820, 12, 17, 0, false)]), (fun _ => none), (fun _ => none), (fun _ => none), ic_X, 2, 1, pj_mI, (pj_as [(11, ph_X12_isIn)]), fun _ => false)
abbrev pk_X12_byteOf : List (Nat × List (Nat × Instr × Nat)) := [(0, [(0, .aload_n 0, 1), (1, .iload_n 1, 1), (2, .i2l, 1), (3, .lconst 0, 1), (4, .aload_n 0, 1), (5, .getfield 820, 3), (8, .iconst 1, 1), (9, .isub, 1), (10, .i2l, 1), (11, .invokestatic 568, 3), (14, .ifCond .ne 7, 3)]), (17, [(17, .iconst 1, 1), (18, .goto 4, 3)]), (21, [(21, .iconst 0, 1)]), (22, [(22, .putfield 259, 3), (25, .aload_n 0, 1), (26, .getfield 259, 3), (29, .ifCond .le 7, 3)]), (32, [(32, .iconst 0, 1), (33, .goto 9, 3)]), (36, [(36, .aload_n 0, 1), (37, .getfield 56, 3), (40, .iload_n 1, 1), (41, .iaload, 1)]), (42, [(42, .ireturn, 1)])]
set_option maxRecDepth 100000 in
theorem pq_X12_byteOf_22 (a1 : Int32) (b1 : Int32) (s : Nat → Int32) (l : Nat → Int64) (x : Nat → Int32) (y : Nat → Int64) : pl_X12_byteOf_22 a1 b1 s l x y = pj_bl px_X12_byteOf (pj_rn px_X12_byteOf (pj_as pk_X12_byteOf) (fun _ => none) 60) [(22, .putfield 259, 3), (25, .aload_n 0, 1), (26, .getfield 259, 3), (29, .ifCond .le 7, 3)] 22 [(0, pj_O (124, 0)), (1, pj_I a1)] [pj_I b1, pj_O (124, 0)] (s, l, x, y) := rfl
set_option maxRecDepth 100000 in
theorem pq_X12_byteOf_m (a1 : Int32) (s : Nat → Int32) (l : Nat → Int64) (x : Nat → Int32) (y : Nat → Int64) : pf_X12_byteOf a1 s l x y = pj_bl px_X12_byteOf (pj_rn px_X12_byteOf (pj_as pk_X12_byteOf) (pj_as [(22, pe_X12_byteOf_22 (pl_X12_byteOf_22))]) 60) [(0, .aload_n 0, 1), (1, .iload_n 1, 1), (2, .i2l, 1), (3, .lconst 0, 1), (4, .aload_n 0, 1), (5, .getfield 820, 3), (8, .iconst 1, 1), (9, .isub, 1), (10, .i2l, 1), (11, .invokestatic 568, 3), (14, .ifCond .ne 7, 3)] 0 [(0, pj_O (124, 0)), (1, pj_I a1)] [] (s, l, x, y) := rfl
theorem pu_X12_byteOf_22 {lf : pj_Z → mj_M} {a : Int32 × pj_Z} (f : Int32 → Int32 → pj_F (Int32 × pj_Z)) (hf : ∀ (a1 : Int32) (b1 : Int32) (s : Nat → Int32) (l : Nat → Int64) (x : Nat → Int32) (y : Nat → Int64), f a1 b1 s l x y = some a → pm_Gd 1 12111 ie_X12_byteOf.1 pm_rI lf 22 [(0, .ref 124), (1, .int a1)] [.int b1, .ref 124] (s, l, x, y) a) : pm_Ex 1 12111 ie_X12_byteOf.1 pm_rI lf a 22 (pe_X12_byteOf_22 f) := by
  intro lv st z hd h
  obtain ⟨g0, h⟩ := pj_xr_inv h
  obtain ⟨a1, g1, h⟩ := pj_xi_inv h
  obtain ⟨b1, r1, e1, h⟩ := pj_pi_inv h
  obtain ⟨r0, e0, h⟩ := pj_pr_inv h
  obtain ⟨e9, h⟩ := pj_pe_inv h
  rw [e1, e0, e9]
  exact mj_wp_sub (mj_sub_cons g0 (mj_sub_cons g1 (mj_sub_nil hd))) (hf _ _ _ _ _ _ h)
set_option maxRecDepth 100000 in
theorem pz_X12_byteOf {lf : pj_Z → mj_M} (hT : pj_Lt pj_TR lf) : pj_Cok ic_P (mj_R ic_P 1) 12111 ie_X12_byteOf.1 (pm_OK lf pm_rI) lf px_X12_byteOf := by
  exact pm_cok (c := px_X12_byteOf) hT (pm_in_ok (L := [(56, 12, 16, 2, true), (259, 12, 0, 0, false), (820, 12, 17, 0, false)]) (f := mj_pF ic_P 12111) (by decide +kernel)) (fun _ _ h => by cases h) (fun _ _ h => by cases h) (fun _ _ h => by cases h) rfl rfl ⟨by decide, rfl⟩ pm_mI (pj_as_all (p := pm_Cl 1 12111 ie_X12_byteOf.1 lf (pm_OK lf pm_rI)) (List.forall_mem_cons.mpr ⟨fun _ _ lv st z K a hK h => pc_X12_isIn hT (by decide) (ix := 568) rfl rfl hK h, (fun _ h => by cases h)⟩)) (fun _ h => by cases h)
set_option maxRecDepth 100000 in
theorem pb_X12_byteOf : pm_bks ie_X12_byteOf.1.2.2.2.2 pk_X12_byteOf = true := by decide +kernel
set_option maxRecDepth 100000 in
theorem pg_X12_byteOf_22 {lf : pj_Z → mj_M} (hT : pj_Lt pj_TR lf) : ∀ (a1 : Int32) (b1 : Int32) (s : Nat → Int32) (l : Nat → Int64) (x : Nat → Int32) (y : Nat → Int64) (a : Int32 × pj_Z), pl_X12_byteOf_22 a1 b1 s l x y = some a → pm_Gd 1 12111 ie_X12_byteOf.1 pm_rI lf 22 [(0, .ref 124), (1, .int a1)] [.int b1, .ref 124] (s, l, x, y) a := by
  intro a1 b1 s l x y a h
  exact pj_bl_ok (pz_X12_byteOf hT) (fun t lv st z hd h => pj_rn_ok (pz_X12_byteOf hT) (pm_bks_ok pb_X12_byteOf) (fun _ _ h => by cases h) 60 t lv st z hd h) [(22, .putfield 259, 3), (25, .aload_n 0, 1), (26, .getfield 259, 3), (29, .ifCond .le 7, 3)] 22 [(0, pj_O (124, 0)), (1, pj_I a1)] [pj_I b1, pj_O (124, 0)] (s, l, x, y) (pm_bks_ok pb_X12_byteOf _ _ rfl) (pm_ndb_ok rfl) ((pq_X12_byteOf_22  a1 b1 s l x y).symm.trans h)
set_option maxRecDepth 100000 in
theorem pm_X12_byteOf {lf : pj_Z → mj_M} (hT : pj_Lt pj_TR lf) (a1 : Int32) (s : Nat → Int32) (l : Nat → Int64) (x : Nat → Int32) (y : Nat → Int64) (a : Int32 × pj_Z) (h : pf_X12_byteOf a1 s l x y = some a) : mj_R ic_P 2 12111 [.ref 124, .int a1] (lf (s, l, x, y)) (pm_rI a.1) (lf a.2) := by
  refine pm_main (Y := ie_X12_byteOf.1) rfl (Nat.le_of_ble_eq_true rfl) ?_
  exact pj_bl_ok (pz_X12_byteOf hT) (fun t lv st z hd h => pj_rn_ok (pz_X12_byteOf hT) (pm_bks_ok pb_X12_byteOf) (pj_as_all (p := pm_Ex 1 12111 ie_X12_byteOf.1 pm_rI lf a) (List.forall_mem_cons.mpr ⟨pu_X12_byteOf_22 _ (fun c0 c1 s l x y h => pg_X12_byteOf_22 hT c0 c1 s l x y _ h), (fun _ h => by cases h)⟩)) 60 t lv st z hd h) [(0, .aload_n 0, 1), (1, .iload_n 1, 1), (2, .i2l, 1), (3, .lconst 0, 1), (4, .aload_n 0, 1), (5, .getfield 820, 3), (8, .iconst 1, 1), (9, .isub, 1), (10, .i2l, 1), (11, .invokestatic 568, 3), (14, .ifCond .ne 7, 3)] 0 [(0, pj_O (124, 0)), (1, pj_I a1)] [] (s, l, x, y) (pm_bks_ok pb_X12_byteOf _ _ rfl) (pm_ndb_ok rfl) ((pq_X12_byteOf_m a1 s l x y).symm.trans h)
abbrev ph_X12_byteOf {A : Type} : List pj_V → pj_Z → (List pj_V → pj_Z → Option A) → Option A := fun st z K => pj_pi st fun a1 st => pj_pr st 124 0 fun st => pj_ps st (pj_b (pf_X12_byteOf a1 z.1 z.2.1 z.2.2.1 z.2.2.2) fun r s l x y => K (pj_I r :: st) (s, l, x, y))
set_option maxRecDepth 100000 in
theorem pc_X12_byteOf {A : Type} {OK : A → Option Value → mj_M → Prop} {d j pc ix : Nat} {Y : mj_Y} {lf : pj_Z → mj_M} (hT : pj_Lt pj_TR lf) (hd : 2 ≤ d) (hl : mj_lk Y.2.2.2.2 pc = some (.invokevirtual ix, 3)) (hg : mj_pG ic_P j ix = some (12111, 1, some 12)) {lv : List (Nat × Value)} {st : List pj_V} {z : pj_Z} {K : List pj_V → pj_Z → Option A} {a : A} (hK : ∀ st z, K st z = some a → pj_Gd ic_P (mj_R ic_P d) j Y OK lf (pc + 3) lv (pj_es st) z a) (h : ph_X12_byteOf st z K = some a) : pj_Gd ic_P (mj_R ic_P d) j Y OK lf pc lv (pj_es st) z a := by
  obtain ⟨a1, r1, e1, h⟩ := pj_pi_inv h
  obtain ⟨r0, e0, h⟩ := pj_pr_inv h
  obtain ⟨hs, h⟩ := pj_ps_inv h
  obtain ⟨q, hq, h⟩ := pj_b_inv h
  exact pm_cv (o := 124) hl hg [.int a1] rfl (by rw [e1, e0]; rfl) hs (by decide) ((hT.2 124 _ rfl).1.2 z 0 (by decide)) (pm_rI q.1) hd (pm_X12_byteOf hT a1 z.1 z.2.1 z.2.2.1 z.2.2.2 q hq) rfl (hK _ _ h)
abbrev px_X12_drain : pj_C (Int32 × pj_Z) := (pj_TR, (pj_as [(259, 12, 0, 0, false), (820, 12, 17, 0, false)]), (fun _ => none), (fun _ => none), (fun _ => none), ic_X, 2, 1, pj_mI, (fun _ => none), fun _ => false)
abbrev pk_X12_drain : List (Nat × List (Nat × Instr × Nat)) := [(0, [(0, .aload_n 0, 1), (1, .iconst 0, 1), (2, .putfield 259, 3), (5, .aload_n 0, 1), (6, .getfield 820, 3), (9, .istore_n 1, 1), (10, .aload_n 0, 1), (11, .iconst 0, 1), (12, .putfield 820, 3), (15, .iload_n 1, 1), (16, .ireturn, 1)])]
set_option maxRecDepth 100000 in
theorem pq_X12_drain_m  (s : Nat → Int32) (l : Nat → Int64) (x : Nat → Int32) (y : Nat → Int64) : pf_X12_drain  s l x y = pj_bl px_X12_drain (pj_rn px_X12_drain (pj_as pk_X12_drain) (fun _ => none) 60) [(0, .aload_n 0, 1), (1, .iconst 0, 1), (2, .putfield 259, 3), (5, .aload_n 0, 1), (6, .getfield 820, 3), (9, .istore_n 1, 1), (10, .aload_n 0, 1), (11, .iconst 0, 1), (12, .putfield 820, 3), (15, .iload_n 1, 1), (16, .ireturn, 1)] 0 [(0, pj_O (124, 0))] [] (s, l, x, y) := rfl
set_option maxRecDepth 100000 in
theorem pz_X12_drain {lf : pj_Z → mj_M} (hT : pj_Lt pj_TR lf) : pj_Cok ic_P (mj_R ic_P 0) 12112 ie_X12_drain.1 (pm_OK lf pm_rI) lf px_X12_drain := by
  exact pm_cok (c := px_X12_drain) hT (pm_in_ok (L := [(259, 12, 0, 0, false), (820, 12, 17, 0, false)]) (f := mj_pF ic_P 12112) (by decide +kernel)) (fun _ _ h => by cases h) (fun _ _ h => by cases h) (fun _ _ h => by cases h) rfl rfl ⟨by decide, rfl⟩ pm_mI (fun _ _ h => by cases h) (fun _ h => by cases h)
set_option maxRecDepth 100000 in
theorem pb_X12_drain : pm_bks ie_X12_drain.1.2.2.2.2 pk_X12_drain = true := by decide +kernel
set_option maxRecDepth 100000 in
theorem pm_X12_drain {lf : pj_Z → mj_M} (hT : pj_Lt pj_TR lf)  (s : Nat → Int32) (l : Nat → Int64) (x : Nat → Int32) (y : Nat → Int64) (a : Int32 × pj_Z) (h : pf_X12_drain  s l x y = some a) : mj_R ic_P 1 12112 [.ref 124] (lf (s, l, x, y)) (pm_rI a.1) (lf a.2) := by
  refine pm_main (Y := ie_X12_drain.1) rfl (Nat.le_of_ble_eq_true rfl) ?_
  exact pj_bl_ok (pz_X12_drain hT) (fun t lv st z hd h => pj_rn_ok (pz_X12_drain hT) (pm_bks_ok pb_X12_drain) (fun _ _ h => by cases h) 60 t lv st z hd h) [(0, .aload_n 0, 1), (1, .iconst 0, 1), (2, .putfield 259, 3), (5, .aload_n 0, 1), (6, .getfield 820, 3), (9, .istore_n 1, 1), (10, .aload_n 0, 1), (11, .iconst 0, 1), (12, .putfield 820, 3), (15, .iload_n 1, 1), (16, .ireturn, 1)] 0 [(0, pj_O (124, 0))] [] (s, l, x, y) (pm_bks_ok pb_X12_drain _ _ rfl) (pm_ndb_ok rfl) ((pq_X12_drain_m  s l x y).symm.trans h)
abbrev ph_X12_drain {A : Type} : List pj_V → pj_Z → (List pj_V → pj_Z → Option A) → Option A := fun st z K => pj_pr st 124 0 fun st => pj_ps st (pj_b (pf_X12_drain  z.1 z.2.1 z.2.2.1 z.2.2.2) fun r s l x y => K (pj_I r :: st) (s, l, x, y))
set_option maxRecDepth 100000 in
theorem pc_X12_drain {A : Type} {OK : A → Option Value → mj_M → Prop} {d j pc ix : Nat} {Y : mj_Y} {lf : pj_Z → mj_M} (hT : pj_Lt pj_TR lf) (hd : 1 ≤ d) (hl : mj_lk Y.2.2.2.2 pc = some (.invokevirtual ix, 3)) (hg : mj_pG ic_P j ix = some (12112, 0, some 12)) {lv : List (Nat × Value)} {st : List pj_V} {z : pj_Z} {K : List pj_V → pj_Z → Option A} {a : A} (hK : ∀ st z, K st z = some a → pj_Gd ic_P (mj_R ic_P d) j Y OK lf (pc + 3) lv (pj_es st) z a) (h : ph_X12_drain st z K = some a) : pj_Gd ic_P (mj_R ic_P d) j Y OK lf pc lv (pj_es st) z a := by
  obtain ⟨r0, e0, h⟩ := pj_pr_inv h
  obtain ⟨hs, h⟩ := pj_ps_inv h
  obtain ⟨q, hq, h⟩ := pj_b_inv h
  exact pm_cv (o := 124) hl hg [] rfl (by rw [e0]; rfl) hs (by decide) ((hT.2 124 _ rfl).1.2 z 0 (by decide)) (pm_rI q.1) hd (pm_X12_drain hT  z.1 z.2.1 z.2.2.1 z.2.2.2 q hq) rfl (hK _ _ h)
abbrev pe_X12_about_18 (f : Int32 → Int32 → pj_F (Int64 × pj_Z)) : pj_K (Int64 × pj_Z) := fun lv st z => pj_xr lv 0 124 0 <| pj_xi lv 1 fun a1 => pj_pi st fun b1 st => pj_pr st 124 0 fun st => pj_pe st (f a1 b1 z.1 z.2.1 z.2.2.1 z.2.2.2)
abbrev px_X12_about : pj_C (Int64 × pj_Z) := (pj_TR, (pj_as [(259, 12, 0, 0, false)]), (fun _ => none), (pj_as [(958, 79)]), (fun _ => none), ic_X, 2, 3, pj_mL, (pj_as [(7, ph_X12_isIn), (34, ph_X12_aboutOf)]), fun _ => false)
abbrev pk_X12_about : List (Nat × List (Nat × Instr × Nat)) := [(0, [(0, .aload_n 0, 1), (1, .iload_n 1, 1), (2, .i2l, 1), (3, .lconst 0, 1), (4, .ldc2_w 958, 3), (7, .invokestatic 568, 3), (10, .ifCond .ne 7, 3)]), (13, [(13, .iconst 1, 1), (14, .goto 4, 3)]), (17, [(17, .iconst 0, 1)]), (18, [(18, .putfield 259, 3), (21, .aload_n 0, 1), (22, .getfield 259, 3), (25, .ifCond .le 7, 3)]), (28, [(28, .lconst 0, 1), (29, .goto 8, 3)]), (32, [(32, .aload_n 0, 1), (33, .iload_n 1, 1), (34, .invokevirtual 960, 3)]), (37, [(37, .lreturn, 1)])]
set_option maxRecDepth 100000 in
theorem pq_X12_about_18 (a1 : Int32) (b1 : Int32) (s : Nat → Int32) (l : Nat → Int64) (x : Nat → Int32) (y : Nat → Int64) : pl_X12_about_18 a1 b1 s l x y = pj_bl px_X12_about (pj_rn px_X12_about (pj_as pk_X12_about) (fun _ => none) 60) [(18, .putfield 259, 3), (21, .aload_n 0, 1), (22, .getfield 259, 3), (25, .ifCond .le 7, 3)] 18 [(0, pj_O (124, 0)), (1, pj_I a1)] [pj_I b1, pj_O (124, 0)] (s, l, x, y) := rfl
set_option maxRecDepth 100000 in
theorem pq_X12_about_m (a1 : Int32) (s : Nat → Int32) (l : Nat → Int64) (x : Nat → Int32) (y : Nat → Int64) : pf_X12_about a1 s l x y = pj_bl px_X12_about (pj_rn px_X12_about (pj_as pk_X12_about) (pj_as [(18, pe_X12_about_18 (pl_X12_about_18))]) 60) [(0, .aload_n 0, 1), (1, .iload_n 1, 1), (2, .i2l, 1), (3, .lconst 0, 1), (4, .ldc2_w 958, 3), (7, .invokestatic 568, 3), (10, .ifCond .ne 7, 3)] 0 [(0, pj_O (124, 0)), (1, pj_I a1)] [] (s, l, x, y) := rfl
theorem pu_X12_about_18 {lf : pj_Z → mj_M} {a : Int64 × pj_Z} (f : Int32 → Int32 → pj_F (Int64 × pj_Z)) (hf : ∀ (a1 : Int32) (b1 : Int32) (s : Nat → Int32) (l : Nat → Int64) (x : Nat → Int32) (y : Nat → Int64), f a1 b1 s l x y = some a → pm_Gd 6 12113 ie_X12_about.1 pm_rL lf 18 [(0, .ref 124), (1, .int a1)] [.int b1, .ref 124] (s, l, x, y) a) : pm_Ex 6 12113 ie_X12_about.1 pm_rL lf a 18 (pe_X12_about_18 f) := by
  intro lv st z hd h
  obtain ⟨g0, h⟩ := pj_xr_inv h
  obtain ⟨a1, g1, h⟩ := pj_xi_inv h
  obtain ⟨b1, r1, e1, h⟩ := pj_pi_inv h
  obtain ⟨r0, e0, h⟩ := pj_pr_inv h
  obtain ⟨e9, h⟩ := pj_pe_inv h
  rw [e1, e0, e9]
  exact mj_wp_sub (mj_sub_cons g0 (mj_sub_cons g1 (mj_sub_nil hd))) (hf _ _ _ _ _ _ h)
set_option maxRecDepth 100000 in
theorem pz_X12_about {lf : pj_Z → mj_M} (hT : pj_Lt pj_TR lf) : pj_Cok ic_P (mj_R ic_P 6) 12113 ie_X12_about.1 (pm_OK lf pm_rL) lf px_X12_about := by
  exact pm_cok (c := px_X12_about) hT (pm_in_ok (L := [(259, 12, 0, 0, false)]) (f := mj_pF ic_P 12113) (by decide +kernel)) (fun _ _ h => by cases h) (pm_inL_ok (L := [(958, 79)]) (f := mj_pL ic_P 12113) (by decide +kernel)) (fun _ _ h => by cases h) rfl rfl ⟨by decide, rfl⟩ pm_mL (pj_as_all (p := pm_Cl 6 12113 ie_X12_about.1 lf (pm_OK lf pm_rL)) (List.forall_mem_cons.mpr ⟨fun _ _ lv st z K a hK h => pc_X12_isIn hT (by decide) (ix := 568) rfl rfl hK h, (List.forall_mem_cons.mpr ⟨fun _ _ lv st z K a hK h => pc_X12_aboutOf hT (by decide) (ix := 960) rfl rfl hK h, (fun _ h => by cases h)⟩)⟩)) (fun _ h => by cases h)
set_option maxRecDepth 100000 in
theorem pb_X12_about : pm_bks ie_X12_about.1.2.2.2.2 pk_X12_about = true := by decide +kernel
set_option maxRecDepth 100000 in
theorem pg_X12_about_18 {lf : pj_Z → mj_M} (hT : pj_Lt pj_TR lf) : ∀ (a1 : Int32) (b1 : Int32) (s : Nat → Int32) (l : Nat → Int64) (x : Nat → Int32) (y : Nat → Int64) (a : Int64 × pj_Z), pl_X12_about_18 a1 b1 s l x y = some a → pm_Gd 6 12113 ie_X12_about.1 pm_rL lf 18 [(0, .ref 124), (1, .int a1)] [.int b1, .ref 124] (s, l, x, y) a := by
  intro a1 b1 s l x y a h
  exact pj_bl_ok (pz_X12_about hT) (fun t lv st z hd h => pj_rn_ok (pz_X12_about hT) (pm_bks_ok pb_X12_about) (fun _ _ h => by cases h) 60 t lv st z hd h) [(18, .putfield 259, 3), (21, .aload_n 0, 1), (22, .getfield 259, 3), (25, .ifCond .le 7, 3)] 18 [(0, pj_O (124, 0)), (1, pj_I a1)] [pj_I b1, pj_O (124, 0)] (s, l, x, y) (pm_bks_ok pb_X12_about _ _ rfl) (pm_ndb_ok rfl) ((pq_X12_about_18  a1 b1 s l x y).symm.trans h)
set_option maxRecDepth 100000 in
theorem pm_X12_about {lf : pj_Z → mj_M} (hT : pj_Lt pj_TR lf) (a1 : Int32) (s : Nat → Int32) (l : Nat → Int64) (x : Nat → Int32) (y : Nat → Int64) (a : Int64 × pj_Z) (h : pf_X12_about a1 s l x y = some a) : mj_R ic_P 7 12113 [.ref 124, .int a1] (lf (s, l, x, y)) (pm_rL a.1) (lf a.2) := by
  refine pm_main (Y := ie_X12_about.1) rfl (Nat.le_of_ble_eq_true rfl) ?_
  exact pj_bl_ok (pz_X12_about hT) (fun t lv st z hd h => pj_rn_ok (pz_X12_about hT) (pm_bks_ok pb_X12_about) (pj_as_all (p := pm_Ex 6 12113 ie_X12_about.1 pm_rL lf a) (List.forall_mem_cons.mpr ⟨pu_X12_about_18 _ (fun c0 c1 s l x y h => pg_X12_about_18 hT c0 c1 s l x y _ h), (fun _ h => by cases h)⟩)) 60 t lv st z hd h) [(0, .aload_n 0, 1), (1, .iload_n 1, 1), (2, .i2l, 1), (3, .lconst 0, 1), (4, .ldc2_w 958, 3), (7, .invokestatic 568, 3), (10, .ifCond .ne 7, 3)] 0 [(0, pj_O (124, 0)), (1, pj_I a1)] [] (s, l, x, y) (pm_bks_ok pb_X12_about _ _ rfl) (pm_ndb_ok rfl) ((pq_X12_about_m a1 s l x y).symm.trans h)
abbrev ph_X12_about {A : Type} : List pj_V → pj_Z → (List pj_V → pj_Z → Option A) → Option A := fun st z K => pj_pi st fun a1 st => pj_pr st 124 0 fun st => pj_ps st (pj_b (pf_X12_about a1 z.1 z.2.1 z.2.2.1 z.2.2.2) fun r s l x y => K (pj_L r :: st) (s, l, x, y))
set_option maxRecDepth 100000 in
theorem pc_X12_about {A : Type} {OK : A → Option Value → mj_M → Prop} {d j pc ix : Nat} {Y : mj_Y} {lf : pj_Z → mj_M} (hT : pj_Lt pj_TR lf) (hd : 7 ≤ d) (hl : mj_lk Y.2.2.2.2 pc = some (.invokevirtual ix, 3)) (hg : mj_pG ic_P j ix = some (12113, 1, some 12)) {lv : List (Nat × Value)} {st : List pj_V} {z : pj_Z} {K : List pj_V → pj_Z → Option A} {a : A} (hK : ∀ st z, K st z = some a → pj_Gd ic_P (mj_R ic_P d) j Y OK lf (pc + 3) lv (pj_es st) z a) (h : ph_X12_about st z K = some a) : pj_Gd ic_P (mj_R ic_P d) j Y OK lf pc lv (pj_es st) z a := by
  obtain ⟨a1, r1, e1, h⟩ := pj_pi_inv h
  obtain ⟨r0, e0, h⟩ := pj_pr_inv h
  obtain ⟨hs, h⟩ := pj_ps_inv h
  obtain ⟨q, hq, h⟩ := pj_b_inv h
  exact pm_cv (o := 124) hl hg [.int a1] rfl (by rw [e1, e0]; rfl) hs (by decide) ((hT.2 124 _ rfl).1.2 z 0 (by decide)) (pm_rL q.1) hd (pm_X12_about hT a1 z.1 z.2.1 z.2.2.1 z.2.2.2 q hq) rfl (hK _ _ h)
abbrev pe_X12_channel_25 (f : Int32 → Int32 → pj_F (Int32 × pj_Z)) : pj_K (Int32 × pj_Z) := fun lv st z => pj_xr lv 0 124 0 <| pj_xi lv 1 fun a1 => pj_xi lv 2 fun a2 => pj_pr st 124 0 fun st => pj_pe st (f a1 a2 z.1 z.2.1 z.2.2.1 z.2.2.2)
abbrev pe_X12_channel_30 (f : Int32 → Int32 → Int32 → pj_F (Int32 × pj_Z)) : pj_K (Int32 × pj_Z) := fun lv st z => pj_xr lv 0 124 0 <| pj_xi lv 1 fun a1 => pj_xi lv 2 fun a2 => pj_pi st fun b1 st => pj_pr st 124 0 fun st => pj_pe st (f a1 a2 b1 z.1 z.2.1 z.2.2.1 z.2.2.2)
abbrev px_X12_channel : pj_C (Int32 × pj_Z) := (pj_TR, (pj_as [(44, 12, 12, 2, true), (133, 12, 72, 2, true), (136, 12, 73, 2, true), (139, 12, 74, 2, true), (259, 12, 0, 0, false)]), (fun _ => none), (pj_as [(647, 3), (929, 9)]), (fun _ => none), ic_X, 3, 1, pj_mI, (pj_as [(7, ph_X12_isIn), (19, ph_X12_isIn)]), fun _ => false)
abbrev pk_X12_channel : List (Nat × List (Nat × Instr × Nat)) := [(0, [(0, .aload_n 0, 1), (1, .iload_n 1, 1), (2, .i2l, 1), (3, .lconst 0, 1), (4, .ldc2_w 929, 3), (7, .invokestatic 568, 3), (10, .ifCond .eq 15, 3)]), (13, [(13, .iload_n 2, 1), (14, .i2l, 1), (15, .lconst 0, 1), (16, .ldc2_w 647, 3), (19, .invokestatic 568, 3), (22, .ifCond .ne 7, 3)]), (25, [(25, .iconst 1, 1), (26, .goto 4, 3)]), (29, [(29, .iconst 0, 1)]), (30, [(30, .putfield 259, 3), (33, .aload_n 0, 1), (34, .getfield 259, 3), (37, .ifCond .le 5, 3)]), (40, [(40, .iconst 0, 1), (41, .ireturn, 1)]), (42, [(42, .iload_n 2, 1), (43, .ifCond .ne 12, 3)]), (46, [(46, .aload_n 0, 1), (47, .getfield 44, 3), (50, .iload_n 1, 1), (51, .iaload, 1), (52, .goto 45, 3)]), (55, [(55, .iload_n 2, 1), (56, .iconst 1, 1), (57, .if_icmp .ne 12, 3)]), (60, [(60, .aload_n 0, 1), (61, .getfield 133, 3), (64, .iload_n 1, 1), (65, .iaload, 1), (66, .goto 31, 3)]), (69, [(69, .iload_n 2, 1), (70, .iconst 2, 1), (71, .if_icmp .ne 12, 3)]), (74, [(74, .aload_n 0, 1), (75, .getfield 136, 3), (78, .iload_n 1, 1), (79, .iaload, 1), (80, .goto 17, 3)]), (83, [(83, .aload_n 0, 1), (84, .getfield 139, 3), (87, .iload_n 1, 1), (88, .baload, 1), (89, .ifCond .eq 7, 3)]), (92, [(92, .iconst 1, 1), (93, .goto 4, 3)]), (96, [(96, .iconst 0, 1)]), (97, [(97, .ireturn, 1)])]
set_option maxRecDepth 100000 in
theorem pq_X12_channel_30 (a1 : Int32) (a2 : Int32) (b1 : Int32) (s : Nat → Int32) (l : Nat → Int64) (x : Nat → Int32) (y : Nat → Int64) : pl_X12_channel_30 a1 a2 b1 s l x y = pj_bl px_X12_channel (pj_rn px_X12_channel (pj_as pk_X12_channel) (fun _ => none) 60) [(30, .putfield 259, 3), (33, .aload_n 0, 1), (34, .getfield 259, 3), (37, .ifCond .le 5, 3)] 30 [(0, pj_O (124, 0)), (1, pj_I a1), (2, pj_I a2)] [pj_I b1, pj_O (124, 0)] (s, l, x, y) := rfl
set_option maxRecDepth 100000 in
theorem pq_X12_channel_25 (a1 : Int32) (a2 : Int32) (s : Nat → Int32) (l : Nat → Int64) (x : Nat → Int32) (y : Nat → Int64) : pl_X12_channel_25 a1 a2 s l x y = pj_bl px_X12_channel (pj_rn px_X12_channel (pj_as pk_X12_channel) (pj_as [(30, pe_X12_channel_30 (pl_X12_channel_30))]) 60) [(25, .iconst 1, 1), (26, .goto 4, 3)] 25 [(0, pj_O (124, 0)), (1, pj_I a1), (2, pj_I a2)] [pj_O (124, 0)] (s, l, x, y) := rfl
set_option maxRecDepth 100000 in
theorem pq_X12_channel_m (a1 : Int32) (a2 : Int32) (s : Nat → Int32) (l : Nat → Int64) (x : Nat → Int32) (y : Nat → Int64) : pf_X12_channel a1 a2 s l x y = pj_bl px_X12_channel (pj_rn px_X12_channel (pj_as pk_X12_channel) (pj_as [(25, pe_X12_channel_25 (pl_X12_channel_25)), (30, pe_X12_channel_30 (pl_X12_channel_30))]) 60) [(0, .aload_n 0, 1), (1, .iload_n 1, 1), (2, .i2l, 1), (3, .lconst 0, 1), (4, .ldc2_w 929, 3), (7, .invokestatic 568, 3), (10, .ifCond .eq 15, 3)] 0 [(0, pj_O (124, 0)), (1, pj_I a1), (2, pj_I a2)] [] (s, l, x, y) := rfl
theorem pu_X12_channel_25 {lf : pj_Z → mj_M} {a : Int32 × pj_Z} (f : Int32 → Int32 → pj_F (Int32 × pj_Z)) (hf : ∀ (a1 : Int32) (a2 : Int32) (s : Nat → Int32) (l : Nat → Int64) (x : Nat → Int32) (y : Nat → Int64), f a1 a2 s l x y = some a → pm_Gd 1 12118 ie_X12_channel.1 pm_rI lf 25 [(0, .ref 124), (1, .int a1), (2, .int a2)] [.ref 124] (s, l, x, y) a) : pm_Ex 1 12118 ie_X12_channel.1 pm_rI lf a 25 (pe_X12_channel_25 f) := by
  intro lv st z hd h
  obtain ⟨g0, h⟩ := pj_xr_inv h
  obtain ⟨a1, g1, h⟩ := pj_xi_inv h
  obtain ⟨a2, g2, h⟩ := pj_xi_inv h
  obtain ⟨r0, e0, h⟩ := pj_pr_inv h
  obtain ⟨e9, h⟩ := pj_pe_inv h
  rw [e0, e9]
  exact mj_wp_sub (mj_sub_cons g0 (mj_sub_cons g1 (mj_sub_cons g2 (mj_sub_nil hd)))) (hf _ _ _ _ _ _ h)
theorem pu_X12_channel_30 {lf : pj_Z → mj_M} {a : Int32 × pj_Z} (f : Int32 → Int32 → Int32 → pj_F (Int32 × pj_Z)) (hf : ∀ (a1 : Int32) (a2 : Int32) (b1 : Int32) (s : Nat → Int32) (l : Nat → Int64) (x : Nat → Int32) (y : Nat → Int64), f a1 a2 b1 s l x y = some a → pm_Gd 1 12118 ie_X12_channel.1 pm_rI lf 30 [(0, .ref 124), (1, .int a1), (2, .int a2)] [.int b1, .ref 124] (s, l, x, y) a) : pm_Ex 1 12118 ie_X12_channel.1 pm_rI lf a 30 (pe_X12_channel_30 f) := by
  intro lv st z hd h
  obtain ⟨g0, h⟩ := pj_xr_inv h
  obtain ⟨a1, g1, h⟩ := pj_xi_inv h
  obtain ⟨a2, g2, h⟩ := pj_xi_inv h
  obtain ⟨b1, r1, e1, h⟩ := pj_pi_inv h
  obtain ⟨r0, e0, h⟩ := pj_pr_inv h
  obtain ⟨e9, h⟩ := pj_pe_inv h
  rw [e1, e0, e9]
  exact mj_wp_sub (mj_sub_cons g0 (mj_sub_cons g1 (mj_sub_cons g2 (mj_sub_nil hd)))) (hf _ _ _ _ _ _ _ h)
set_option maxRecDepth 100000 in
theorem pz_X12_channel {lf : pj_Z → mj_M} (hT : pj_Lt pj_TR lf) : pj_Cok ic_P (mj_R ic_P 1) 12118 ie_X12_channel.1 (pm_OK lf pm_rI) lf px_X12_channel := by
  exact pm_cok (c := px_X12_channel) hT (pm_in_ok (L := [(44, 12, 12, 2, true), (133, 12, 72, 2, true), (136, 12, 73, 2, true), (139, 12, 74, 2, true), (259, 12, 0, 0, false)]) (f := mj_pF ic_P 12118) (by decide +kernel)) (fun _ _ h => by cases h) (pm_inL_ok (L := [(647, 3), (929, 9)]) (f := mj_pL ic_P 12118) (by decide +kernel)) (fun _ _ h => by cases h) rfl rfl ⟨by decide, rfl⟩ pm_mI (pj_as_all (p := pm_Cl 1 12118 ie_X12_channel.1 lf (pm_OK lf pm_rI)) (List.forall_mem_cons.mpr ⟨fun _ _ lv st z K a hK h => pc_X12_isIn hT (by decide) (ix := 568) rfl rfl hK h, (List.forall_mem_cons.mpr ⟨fun _ _ lv st z K a hK h => pc_X12_isIn hT (by decide) (ix := 568) rfl rfl hK h, (fun _ h => by cases h)⟩)⟩)) (fun _ h => by cases h)
set_option maxRecDepth 100000 in
theorem pb_X12_channel : pm_bks ie_X12_channel.1.2.2.2.2 pk_X12_channel = true := by decide +kernel
set_option maxRecDepth 100000 in
theorem pg_X12_channel_30 {lf : pj_Z → mj_M} (hT : pj_Lt pj_TR lf) : ∀ (a1 : Int32) (a2 : Int32) (b1 : Int32) (s : Nat → Int32) (l : Nat → Int64) (x : Nat → Int32) (y : Nat → Int64) (a : Int32 × pj_Z), pl_X12_channel_30 a1 a2 b1 s l x y = some a → pm_Gd 1 12118 ie_X12_channel.1 pm_rI lf 30 [(0, .ref 124), (1, .int a1), (2, .int a2)] [.int b1, .ref 124] (s, l, x, y) a := by
  intro a1 a2 b1 s l x y a h
  exact pj_bl_ok (pz_X12_channel hT) (fun t lv st z hd h => pj_rn_ok (pz_X12_channel hT) (pm_bks_ok pb_X12_channel) (fun _ _ h => by cases h) 60 t lv st z hd h) [(30, .putfield 259, 3), (33, .aload_n 0, 1), (34, .getfield 259, 3), (37, .ifCond .le 5, 3)] 30 [(0, pj_O (124, 0)), (1, pj_I a1), (2, pj_I a2)] [pj_I b1, pj_O (124, 0)] (s, l, x, y) (pm_bks_ok pb_X12_channel _ _ rfl) (pm_ndb_ok rfl) ((pq_X12_channel_30  a1 a2 b1 s l x y).symm.trans h)
set_option maxRecDepth 100000 in
theorem pg_X12_channel_25 {lf : pj_Z → mj_M} (hT : pj_Lt pj_TR lf) : ∀ (a1 : Int32) (a2 : Int32) (s : Nat → Int32) (l : Nat → Int64) (x : Nat → Int32) (y : Nat → Int64) (a : Int32 × pj_Z), pl_X12_channel_25 a1 a2 s l x y = some a → pm_Gd 1 12118 ie_X12_channel.1 pm_rI lf 25 [(0, .ref 124), (1, .int a1), (2, .int a2)] [.ref 124] (s, l, x, y) a := by
  intro a1 a2 s l x y a h
  exact pj_bl_ok (pz_X12_channel hT) (fun t lv st z hd h => pj_rn_ok (pz_X12_channel hT) (pm_bks_ok pb_X12_channel) (pj_as_all (p := pm_Ex 1 12118 ie_X12_channel.1 pm_rI lf a) (List.forall_mem_cons.mpr ⟨pu_X12_channel_30 _ (fun c0 c1 c2 s l x y h => pg_X12_channel_30 hT c0 c1 c2 s l x y _ h), (fun _ h => by cases h)⟩)) 60 t lv st z hd h) [(25, .iconst 1, 1), (26, .goto 4, 3)] 25 [(0, pj_O (124, 0)), (1, pj_I a1), (2, pj_I a2)] [pj_O (124, 0)] (s, l, x, y) (pm_bks_ok pb_X12_channel _ _ rfl) (pm_ndb_ok rfl) ((pq_X12_channel_25  a1 a2 s l x y).symm.trans h)
set_option maxRecDepth 100000 in
theorem pm_X12_channel {lf : pj_Z → mj_M} (hT : pj_Lt pj_TR lf) (a1 : Int32) (a2 : Int32) (s : Nat → Int32) (l : Nat → Int64) (x : Nat → Int32) (y : Nat → Int64) (a : Int32 × pj_Z) (h : pf_X12_channel a1 a2 s l x y = some a) : mj_R ic_P 2 12118 [.ref 124, .int a1, .int a2] (lf (s, l, x, y)) (pm_rI a.1) (lf a.2) := by
  refine pm_main (Y := ie_X12_channel.1) rfl (Nat.le_of_ble_eq_true rfl) ?_
  exact pj_bl_ok (pz_X12_channel hT) (fun t lv st z hd h => pj_rn_ok (pz_X12_channel hT) (pm_bks_ok pb_X12_channel) (pj_as_all (p := pm_Ex 1 12118 ie_X12_channel.1 pm_rI lf a) (List.forall_mem_cons.mpr ⟨pu_X12_channel_25 _ (fun c0 c1 s l x y h => pg_X12_channel_25 hT c0 c1 s l x y _ h), (List.forall_mem_cons.mpr ⟨pu_X12_channel_30 _ (fun c0 c1 c2 s l x y h => pg_X12_channel_30 hT c0 c1 c2 s l x y _ h), (fun _ h => by cases h)⟩)⟩)) 60 t lv st z hd h) [(0, .aload_n 0, 1), (1, .iload_n 1, 1), (2, .i2l, 1), (3, .lconst 0, 1), (4, .ldc2_w 929, 3), (7, .invokestatic 568, 3), (10, .ifCond .eq 15, 3)] 0 [(0, pj_O (124, 0)), (1, pj_I a1), (2, pj_I a2)] [] (s, l, x, y) (pm_bks_ok pb_X12_channel _ _ rfl) (pm_ndb_ok rfl) ((pq_X12_channel_m a1 a2 s l x y).symm.trans h)
abbrev ph_X12_channel {A : Type} : List pj_V → pj_Z → (List pj_V → pj_Z → Option A) → Option A := fun st z K => pj_pi st fun a2 st => pj_pi st fun a1 st => pj_pr st 124 0 fun st => pj_ps st (pj_b (pf_X12_channel a1 a2 z.1 z.2.1 z.2.2.1 z.2.2.2) fun r s l x y => K (pj_I r :: st) (s, l, x, y))
set_option maxRecDepth 100000 in
theorem pc_X12_channel {A : Type} {OK : A → Option Value → mj_M → Prop} {d j pc ix : Nat} {Y : mj_Y} {lf : pj_Z → mj_M} (hT : pj_Lt pj_TR lf) (hd : 2 ≤ d) (hl : mj_lk Y.2.2.2.2 pc = some (.invokevirtual ix, 3)) (hg : mj_pG ic_P j ix = some (12118, 2, some 12)) {lv : List (Nat × Value)} {st : List pj_V} {z : pj_Z} {K : List pj_V → pj_Z → Option A} {a : A} (hK : ∀ st z, K st z = some a → pj_Gd ic_P (mj_R ic_P d) j Y OK lf (pc + 3) lv (pj_es st) z a) (h : ph_X12_channel st z K = some a) : pj_Gd ic_P (mj_R ic_P d) j Y OK lf pc lv (pj_es st) z a := by
  obtain ⟨a2, r2, e2, h⟩ := pj_pi_inv h
  obtain ⟨a1, r1, e1, h⟩ := pj_pi_inv h
  obtain ⟨r0, e0, h⟩ := pj_pr_inv h
  obtain ⟨hs, h⟩ := pj_ps_inv h
  obtain ⟨q, hq, h⟩ := pj_b_inv h
  exact pm_cv (o := 124) hl hg [.int a1, .int a2] rfl (by rw [e2, e1, e0]; rfl) hs (by decide) ((hT.2 124 _ rfl).1.2 z 0 (by decide)) (pm_rI q.1) hd (pm_X12_channel hT a1 a2 z.1 z.2.1 z.2.2.1 z.2.2.2 q hq) rfl (hK _ _ h)
abbrev pe_X12_cylinder_31 (f : Int32 → Int32 → pj_F (Int32 × pj_Z)) : pj_K (Int32 × pj_Z) := fun lv st z => pj_xr lv 0 124 0 <| pj_xi lv 1 fun a1 => pj_xi lv 2 fun a2 => pj_pr st 124 0 fun st => pj_pe st (f a1 a2 z.1 z.2.1 z.2.2.1 z.2.2.2)
abbrev pe_X12_cylinder_36 (f : Int32 → Int32 → Int32 → pj_F (Int32 × pj_Z)) : pj_K (Int32 × pj_Z) := fun lv st z => pj_xr lv 0 124 0 <| pj_xi lv 1 fun a1 => pj_xi lv 2 fun a2 => pj_pi st fun b1 st => pj_pr st 124 0 fun st => pj_pe st (f a1 a2 b1 z.1 z.2.1 z.2.2.1 z.2.2.2)
abbrev px_X12_cylinder : pj_C (Int32 × pj_Z) := (pj_TR, (pj_as [(19, 12, 3, 2, true), (85, 12, 52, 2, true), (88, 12, 53, 2, true), (91, 12, 54, 2, true), (94, 12, 55, 2, true), (97, 12, 56, 2, true), (109, 12, 60, 2, true), (112, 12, 61, 2, true), (259, 12, 0, 0, false)]), (fun _ => none), (pj_as [(862, 7)]), (fun _ => none), ic_X, 3, 1, pj_mI, (pj_as [(13, ph_X12_isIn), (25, ph_X12_isIn), (94, ph_X12_topOf)]), fun _ => false)
abbrev pk_X12_cylinder : List (Nat × List (Nat × Instr × Nat)) := [(0, [(0, .aload_n 0, 1), (1, .iload_n 1, 1), (2, .i2l, 1), (3, .lconst 0, 1), (4, .aload_n 0, 1), (5, .getfield 19, 3), (8, .iconst 0, 1), (9, .iaload, 1), (10, .iconst 1, 1), (11, .isub, 1), (12, .i2l, 1), (13, .invokestatic 568, 3), (16, .ifCond .eq 15, 3)]), (19, [(19, .iload_n 2, 1), (20, .i2l, 1), (21, .lconst 0, 1), (22, .ldc2_w 862, 3), (25, .invokestatic 568, 3), (28, .ifCond .ne 7, 3)]), (31, [(31, .iconst 1, 1), (32, .goto 4, 3)]), (35, [(35, .iconst 0, 1)]), (36, [(36, .putfield 259, 3), (39, .aload_n 0, 1), (40, .getfield 259, 3), (43, .ifCond .le 5, 3)]), (46, [(46, .iconst 0, 1), (47, .ireturn, 1)]), (48, [(48, .iload_n 2, 1), (49, .tableswitch 107 0 6 #[43, 49, 56, 63, 78, 93, 100], 43)]), (92, [(92, .aload_n 0, 1), (93, .iload_n 1, 1), (94, .invokevirtual 652, 3), (97, .ireturn, 1)]), (98, [(98, .aload_n 0, 1), (99, .getfield 88, 3), (102, .iload_n 1, 1), (103, .iaload, 1), (104, .ireturn, 1)]), (105, [(105, .aload_n 0, 1), (106, .getfield 85, 3), (109, .iload_n 1, 1), (110, .iaload, 1), (111, .ireturn, 1)]), (112, [(112, .aload_n 0, 1), (113, .getfield 109, 3), (116, .iload_n 1, 1), (117, .baload, 1), (118, .ifCond .eq 7, 3)]), (121, [(121, .iconst 1, 1), (122, .goto 4, 3)]), (125, [(125, .iconst 0, 1)]), (126, [(126, .ireturn, 1)]), (127, [(127, .aload_n 0, 1), (128, .getfield 112, 3), (131, .iload_n 1, 1), (132, .baload, 1), (133, .ifCond .eq 7, 3)]), (136, [(136, .iconst 1, 1), (137, .goto 4, 3)]), (140, [(140, .iconst 0, 1)]), (141, [(141, .ireturn, 1)]), (142, [(142, .aload_n 0, 1), (143, .getfield 91, 3), (146, .iload_n 1, 1), (147, .iaload, 1), (148, .ireturn, 1)]), (149, [(149, .aload_n 0, 1), (150, .getfield 94, 3), (153, .iload_n 1, 1), (154, .iaload, 1), (155, .ireturn, 1)]), (156, [(156, .aload_n 0, 1), (157, .getfield 97, 3), (160, .iload_n 1, 1), (161, .iaload, 1), (162, .ireturn, 1)])]
set_option maxRecDepth 100000 in
theorem pq_X12_cylinder_36 (a1 : Int32) (a2 : Int32) (b1 : Int32) (s : Nat → Int32) (l : Nat → Int64) (x : Nat → Int32) (y : Nat → Int64) : pl_X12_cylinder_36 a1 a2 b1 s l x y = pj_bl px_X12_cylinder (pj_rn px_X12_cylinder (pj_as pk_X12_cylinder) (fun _ => none) 60) [(36, .putfield 259, 3), (39, .aload_n 0, 1), (40, .getfield 259, 3), (43, .ifCond .le 5, 3)] 36 [(0, pj_O (124, 0)), (1, pj_I a1), (2, pj_I a2)] [pj_I b1, pj_O (124, 0)] (s, l, x, y) := rfl
set_option maxRecDepth 100000 in
theorem pq_X12_cylinder_31 (a1 : Int32) (a2 : Int32) (s : Nat → Int32) (l : Nat → Int64) (x : Nat → Int32) (y : Nat → Int64) : pl_X12_cylinder_31 a1 a2 s l x y = pj_bl px_X12_cylinder (pj_rn px_X12_cylinder (pj_as pk_X12_cylinder) (pj_as [(36, pe_X12_cylinder_36 (pl_X12_cylinder_36))]) 60) [(31, .iconst 1, 1), (32, .goto 4, 3)] 31 [(0, pj_O (124, 0)), (1, pj_I a1), (2, pj_I a2)] [pj_O (124, 0)] (s, l, x, y) := rfl
set_option maxRecDepth 100000 in
theorem pq_X12_cylinder_m (a1 : Int32) (a2 : Int32) (s : Nat → Int32) (l : Nat → Int64) (x : Nat → Int32) (y : Nat → Int64) : pf_X12_cylinder a1 a2 s l x y = pj_bl px_X12_cylinder (pj_rn px_X12_cylinder (pj_as pk_X12_cylinder) (pj_as [(31, pe_X12_cylinder_31 (pl_X12_cylinder_31)), (36, pe_X12_cylinder_36 (pl_X12_cylinder_36))]) 60) [(0, .aload_n 0, 1), (1, .iload_n 1, 1), (2, .i2l, 1), (3, .lconst 0, 1), (4, .aload_n 0, 1), (5, .getfield 19, 3), (8, .iconst 0, 1), (9, .iaload, 1), (10, .iconst 1, 1), (11, .isub, 1), (12, .i2l, 1), (13, .invokestatic 568, 3), (16, .ifCond .eq 15, 3)] 0 [(0, pj_O (124, 0)), (1, pj_I a1), (2, pj_I a2)] [] (s, l, x, y) := rfl
theorem pu_X12_cylinder_31 {lf : pj_Z → mj_M} {a : Int32 × pj_Z} (f : Int32 → Int32 → pj_F (Int32 × pj_Z)) (hf : ∀ (a1 : Int32) (a2 : Int32) (s : Nat → Int32) (l : Nat → Int64) (x : Nat → Int32) (y : Nat → Int64), f a1 a2 s l x y = some a → pm_Gd 2 12119 ie_X12_cylinder.1 pm_rI lf 31 [(0, .ref 124), (1, .int a1), (2, .int a2)] [.ref 124] (s, l, x, y) a) : pm_Ex 2 12119 ie_X12_cylinder.1 pm_rI lf a 31 (pe_X12_cylinder_31 f) := by
  intro lv st z hd h
  obtain ⟨g0, h⟩ := pj_xr_inv h
  obtain ⟨a1, g1, h⟩ := pj_xi_inv h
  obtain ⟨a2, g2, h⟩ := pj_xi_inv h
  obtain ⟨r0, e0, h⟩ := pj_pr_inv h
  obtain ⟨e9, h⟩ := pj_pe_inv h
  rw [e0, e9]
  exact mj_wp_sub (mj_sub_cons g0 (mj_sub_cons g1 (mj_sub_cons g2 (mj_sub_nil hd)))) (hf _ _ _ _ _ _ h)
theorem pu_X12_cylinder_36 {lf : pj_Z → mj_M} {a : Int32 × pj_Z} (f : Int32 → Int32 → Int32 → pj_F (Int32 × pj_Z)) (hf : ∀ (a1 : Int32) (a2 : Int32) (b1 : Int32) (s : Nat → Int32) (l : Nat → Int64) (x : Nat → Int32) (y : Nat → Int64), f a1 a2 b1 s l x y = some a → pm_Gd 2 12119 ie_X12_cylinder.1 pm_rI lf 36 [(0, .ref 124), (1, .int a1), (2, .int a2)] [.int b1, .ref 124] (s, l, x, y) a) : pm_Ex 2 12119 ie_X12_cylinder.1 pm_rI lf a 36 (pe_X12_cylinder_36 f) := by
  intro lv st z hd h
  obtain ⟨g0, h⟩ := pj_xr_inv h
  obtain ⟨a1, g1, h⟩ := pj_xi_inv h
  obtain ⟨a2, g2, h⟩ := pj_xi_inv h
  obtain ⟨b1, r1, e1, h⟩ := pj_pi_inv h
  obtain ⟨r0, e0, h⟩ := pj_pr_inv h
  obtain ⟨e9, h⟩ := pj_pe_inv h
  rw [e1, e0, e9]
  exact mj_wp_sub (mj_sub_cons g0 (mj_sub_cons g1 (mj_sub_cons g2 (mj_sub_nil hd)))) (hf _ _ _ _ _ _ _ h)
set_option maxRecDepth 100000 in
theorem pz_X12_cylinder {lf : pj_Z → mj_M} (hT : pj_Lt pj_TR lf) : pj_Cok ic_P (mj_R ic_P 2) 12119 ie_X12_cylinder.1 (pm_OK lf pm_rI) lf px_X12_cylinder := by
  exact pm_cok (c := px_X12_cylinder) hT (pm_in_ok (L := [(19, 12, 3, 2, true), (85, 12, 52, 2, true), (88, 12, 53, 2, true), (91, 12, 54, 2, true), (94, 12, 55, 2, true), (97, 12, 56, 2, true), (109, 12, 60, 2, true), (112, 12, 61, 2, true), (259, 12, 0, 0, false)]) (f := mj_pF ic_P 12119) (by decide +kernel)) (fun _ _ h => by cases h) (pm_inL_ok (L := [(862, 7)]) (f := mj_pL ic_P 12119) (by decide +kernel)) (fun _ _ h => by cases h) rfl rfl ⟨by decide, rfl⟩ pm_mI (pj_as_all (p := pm_Cl 2 12119 ie_X12_cylinder.1 lf (pm_OK lf pm_rI)) (List.forall_mem_cons.mpr ⟨fun _ _ lv st z K a hK h => pc_X12_isIn hT (by decide) (ix := 568) rfl rfl hK h, (List.forall_mem_cons.mpr ⟨fun _ _ lv st z K a hK h => pc_X12_isIn hT (by decide) (ix := 568) rfl rfl hK h, (List.forall_mem_cons.mpr ⟨fun _ _ lv st z K a hK h => pc_X12_topOf hT (by decide) (ix := 652) rfl rfl hK h, (fun _ h => by cases h)⟩)⟩)⟩)) (fun _ h => by cases h)
set_option maxRecDepth 100000 in
theorem pb_X12_cylinder : pm_bks ie_X12_cylinder.1.2.2.2.2 pk_X12_cylinder = true := by decide +kernel
set_option maxRecDepth 100000 in
theorem pg_X12_cylinder_36 {lf : pj_Z → mj_M} (hT : pj_Lt pj_TR lf) : ∀ (a1 : Int32) (a2 : Int32) (b1 : Int32) (s : Nat → Int32) (l : Nat → Int64) (x : Nat → Int32) (y : Nat → Int64) (a : Int32 × pj_Z), pl_X12_cylinder_36 a1 a2 b1 s l x y = some a → pm_Gd 2 12119 ie_X12_cylinder.1 pm_rI lf 36 [(0, .ref 124), (1, .int a1), (2, .int a2)] [.int b1, .ref 124] (s, l, x, y) a := by
  intro a1 a2 b1 s l x y a h
  exact pj_bl_ok (pz_X12_cylinder hT) (fun t lv st z hd h => pj_rn_ok (pz_X12_cylinder hT) (pm_bks_ok pb_X12_cylinder) (fun _ _ h => by cases h) 60 t lv st z hd h) [(36, .putfield 259, 3), (39, .aload_n 0, 1), (40, .getfield 259, 3), (43, .ifCond .le 5, 3)] 36 [(0, pj_O (124, 0)), (1, pj_I a1), (2, pj_I a2)] [pj_I b1, pj_O (124, 0)] (s, l, x, y) (pm_bks_ok pb_X12_cylinder _ _ rfl) (pm_ndb_ok rfl) ((pq_X12_cylinder_36  a1 a2 b1 s l x y).symm.trans h)
set_option maxRecDepth 100000 in
theorem pg_X12_cylinder_31 {lf : pj_Z → mj_M} (hT : pj_Lt pj_TR lf) : ∀ (a1 : Int32) (a2 : Int32) (s : Nat → Int32) (l : Nat → Int64) (x : Nat → Int32) (y : Nat → Int64) (a : Int32 × pj_Z), pl_X12_cylinder_31 a1 a2 s l x y = some a → pm_Gd 2 12119 ie_X12_cylinder.1 pm_rI lf 31 [(0, .ref 124), (1, .int a1), (2, .int a2)] [.ref 124] (s, l, x, y) a := by
  intro a1 a2 s l x y a h
  exact pj_bl_ok (pz_X12_cylinder hT) (fun t lv st z hd h => pj_rn_ok (pz_X12_cylinder hT) (pm_bks_ok pb_X12_cylinder) (pj_as_all (p := pm_Ex 2 12119 ie_X12_cylinder.1 pm_rI lf a) (List.forall_mem_cons.mpr ⟨pu_X12_cylinder_36 _ (fun c0 c1 c2 s l x y h => pg_X12_cylinder_36 hT c0 c1 c2 s l x y _ h), (fun _ h => by cases h)⟩)) 60 t lv st z hd h) [(31, .iconst 1, 1), (32, .goto 4, 3)] 31 [(0, pj_O (124, 0)), (1, pj_I a1), (2, pj_I a2)] [pj_O (124, 0)] (s, l, x, y) (pm_bks_ok pb_X12_cylinder _ _ rfl) (pm_ndb_ok rfl) ((pq_X12_cylinder_31  a1 a2 s l x y).symm.trans h)
set_option maxRecDepth 100000 in
theorem pm_X12_cylinder {lf : pj_Z → mj_M} (hT : pj_Lt pj_TR lf) (a1 : Int32) (a2 : Int32) (s : Nat → Int32) (l : Nat → Int64) (x : Nat → Int32) (y : Nat → Int64) (a : Int32 × pj_Z) (h : pf_X12_cylinder a1 a2 s l x y = some a) : mj_R ic_P 3 12119 [.ref 124, .int a1, .int a2] (lf (s, l, x, y)) (pm_rI a.1) (lf a.2) := by
  refine pm_main (Y := ie_X12_cylinder.1) rfl (Nat.le_of_ble_eq_true rfl) ?_
  exact pj_bl_ok (pz_X12_cylinder hT) (fun t lv st z hd h => pj_rn_ok (pz_X12_cylinder hT) (pm_bks_ok pb_X12_cylinder) (pj_as_all (p := pm_Ex 2 12119 ie_X12_cylinder.1 pm_rI lf a) (List.forall_mem_cons.mpr ⟨pu_X12_cylinder_31 _ (fun c0 c1 s l x y h => pg_X12_cylinder_31 hT c0 c1 s l x y _ h), (List.forall_mem_cons.mpr ⟨pu_X12_cylinder_36 _ (fun c0 c1 c2 s l x y h => pg_X12_cylinder_36 hT c0 c1 c2 s l x y _ h), (fun _ h => by cases h)⟩)⟩)) 60 t lv st z hd h) [(0, .aload_n 0, 1), (1, .iload_n 1, 1), (2, .i2l, 1), (3, .lconst 0, 1), (4, .aload_n 0, 1), (5, .getfield 19, 3), (8, .iconst 0, 1), (9, .iaload, 1), (10, .iconst 1, 1), (11, .isub, 1), (12, .i2l, 1), (13, .invokestatic 568, 3), (16, .ifCond .eq 15, 3)] 0 [(0, pj_O (124, 0)), (1, pj_I a1), (2, pj_I a2)] [] (s, l, x, y) (pm_bks_ok pb_X12_cylinder _ _ rfl) (pm_ndb_ok rfl) ((pq_X12_cylinder_m a1 a2 s l x y).symm.trans h)
abbrev ph_X12_cylinder {A : Type} : List pj_V → pj_Z → (List pj_V → pj_Z → Option A) → Option A := fun st z K => pj_pi st fun a2 st => pj_pi st fun a1 st => pj_pr st 124 0 fun st => pj_ps st (pj_b (pf_X12_cylinder a1 a2 z.1 z.2.1 z.2.2.1 z.2.2.2) fun r s l x y => K (pj_I r :: st) (s, l, x, y))
set_option maxRecDepth 100000 in
theorem pc_X12_cylinder {A : Type} {OK : A → Option Value → mj_M → Prop} {d j pc ix : Nat} {Y : mj_Y} {lf : pj_Z → mj_M} (hT : pj_Lt pj_TR lf) (hd : 3 ≤ d) (hl : mj_lk Y.2.2.2.2 pc = some (.invokevirtual ix, 3)) (hg : mj_pG ic_P j ix = some (12119, 2, some 12)) {lv : List (Nat × Value)} {st : List pj_V} {z : pj_Z} {K : List pj_V → pj_Z → Option A} {a : A} (hK : ∀ st z, K st z = some a → pj_Gd ic_P (mj_R ic_P d) j Y OK lf (pc + 3) lv (pj_es st) z a) (h : ph_X12_cylinder st z K = some a) : pj_Gd ic_P (mj_R ic_P d) j Y OK lf pc lv (pj_es st) z a := by
  obtain ⟨a2, r2, e2, h⟩ := pj_pi_inv h
  obtain ⟨a1, r1, e1, h⟩ := pj_pi_inv h
  obtain ⟨r0, e0, h⟩ := pj_pr_inv h
  obtain ⟨hs, h⟩ := pj_ps_inv h
  obtain ⟨q, hq, h⟩ := pj_b_inv h
  exact pm_cv (o := 124) hl hg [.int a1, .int a2] rfl (by rw [e2, e1, e0]; rfl) hs (by decide) ((hT.2 124 _ rfl).1.2 z 0 (by decide)) (pm_rI q.1) hd (pm_X12_cylinder hT a1 a2 z.1 z.2.1 z.2.2.1 z.2.2.2 q hq) rfl (hK _ _ h)
abbrev pe_X12_edge_21 (f : Int32 → Int32 → Int64 → pj_F (Int64 × pj_Z)) : pj_K (Int64 × pj_Z) := fun lv st z => pj_xr lv 0 124 0 <| pj_xi lv 1 fun a1 => pj_xi lv 2 fun a2 => pj_pl st fun b0 st => pj_pe st (f a1 a2 b0 z.1 z.2.1 z.2.2.1 z.2.2.2)
abbrev pe_X12_edge_47 (f : Int32 → Int32 → Int64 → pj_F (Int64 × pj_Z)) : pj_K (Int64 × pj_Z) := fun lv st z => pj_xr lv 0 124 0 <| pj_xi lv 1 fun a1 => pj_xi lv 2 fun a2 => pj_xl lv 3 fun a3 => pj_pr st 124 0 fun st => pj_pe st (f a1 a2 a3 z.1 z.2.1 z.2.2.1 z.2.2.2)
abbrev pe_X12_edge_52 (f : Int32 → Int32 → Int64 → Int32 → pj_F (Int64 × pj_Z)) : pj_K (Int64 × pj_Z) := fun lv st z => pj_xr lv 0 124 0 <| pj_xi lv 1 fun a1 => pj_xi lv 2 fun a2 => pj_xl lv 3 fun a3 => pj_pi st fun b1 st => pj_pr st 124 0 fun st => pj_pe st (f a1 a2 a3 b1 z.1 z.2.1 z.2.2.1 z.2.2.2)
abbrev px_X12_edge : pj_C (Int64 × pj_Z) := (pj_TR, (pj_as [(59, 12, 18, 2, true), (63, 12, 19, 2, true), (66, 12, 20, 2, true), (259, 12, 0, 0, false), (609, 12, 21, 1, false)]), (fun _ => none), (pj_as [(612, 200), (643, 2)]), (fun _ => none), ic_X, 6, 3, pj_mL, (pj_as [(29, ph_X12_isIn), (41, ph_X12_isIn)]), fun _ => false)
abbrev pk_X12_edge : List (Nat × List (Nat × Instr × Nat)) := [(0, [(0, .aload_n 0, 1), (1, .getfield 609, 3), (4, .ldc2_w 612, 3), (7, .lcmp, 1), (8, .ifCond .ge 10, 3)]), (11, [(11, .aload_n 0, 1), (12, .getfield 609, 3), (15, .goto 6, 3)]), (18, [(18, .ldc2_w 612, 3)]), (21, [(21, .lstore_n 3, 1), (22, .aload_n 0, 1), (23, .iload_n 1, 1), (24, .i2l, 1), (25, .lconst 0, 1), (26, .lload_n 3, 1), (27, .lconst 1, 1), (28, .lsub, 1), (29, .invokestatic 568, 3), (32, .ifCond .eq 15, 3)]), (35, [(35, .iload_n 2, 1), (36, .i2l, 1), (37, .lconst 0, 1), (38, .ldc2_w 643, 3), (41, .invokestatic 568, 3), (44, .ifCond .ne 7, 3)]), (47, [(47, .iconst 1, 1), (48, .goto 4, 3)]), (51, [(51, .iconst 0, 1)]), (52, [(52, .putfield 259, 3), (55, .aload_n 0, 1), (56, .getfield 259, 3), (59, .ifCond .le 5, 3)]), (62, [(62, .lconst 0, 1), (63, .lreturn, 1)]), (64, [(64, .aload_n 0, 1), (65, .getfield 609, 3), (68, .lload_n 3, 1), (69, .lsub, 1), (70, .iload_n 1, 1), (71, .i2l, 1), (72, .ladd, 1), (73, .ldc2_w 612, 3), (76, .lrem, 1), (77, .l2i, 1), (78, .istore 5, 2), (80, .iload_n 2, 1), (81, .ifCond .ne 13, 3)]), (84, [(84, .aload_n 0, 1), (85, .getfield 59, 3), (88, .iload 5, 2), (90, .laload, 1), (91, .goto 27, 3)]), (94, [(94, .iload_n 2, 1), (95, .iconst 1, 1), (96, .if_icmp .ne 14, 3)]), (99, [(99, .aload_n 0, 1), (100, .getfield 63, 3), (103, .iload 5, 2), (105, .iaload, 1), (106, .i2l, 1), (107, .goto 11, 3)]), (110, [(110, .aload_n 0, 1), (111, .getfield 66, 3), (114, .iload 5, 2), (116, .iaload, 1), (117, .i2l, 1)]), (118, [(118, .lreturn, 1)])]
set_option maxRecDepth 100000 in
theorem pq_X12_edge_52 (a1 : Int32) (a2 : Int32) (a3 : Int64) (b1 : Int32) (s : Nat → Int32) (l : Nat → Int64) (x : Nat → Int32) (y : Nat → Int64) : pl_X12_edge_52 a1 a2 a3 b1 s l x y = pj_bl px_X12_edge (pj_rn px_X12_edge (pj_as pk_X12_edge) (fun _ => none) 60) [(52, .putfield 259, 3), (55, .aload_n 0, 1), (56, .getfield 259, 3), (59, .ifCond .le 5, 3)] 52 [(0, pj_O (124, 0)), (1, pj_I a1), (2, pj_I a2), (3, pj_L a3)] [pj_I b1, pj_O (124, 0)] (s, l, x, y) := rfl
set_option maxRecDepth 100000 in
theorem pq_X12_edge_47 (a1 : Int32) (a2 : Int32) (a3 : Int64) (s : Nat → Int32) (l : Nat → Int64) (x : Nat → Int32) (y : Nat → Int64) : pl_X12_edge_47 a1 a2 a3 s l x y = pj_bl px_X12_edge (pj_rn px_X12_edge (pj_as pk_X12_edge) (pj_as [(52, pe_X12_edge_52 (pl_X12_edge_52))]) 60) [(47, .iconst 1, 1), (48, .goto 4, 3)] 47 [(0, pj_O (124, 0)), (1, pj_I a1), (2, pj_I a2), (3, pj_L a3)] [pj_O (124, 0)] (s, l, x, y) := rfl
set_option maxRecDepth 100000 in
theorem pq_X12_edge_21 (a1 : Int32) (a2 : Int32) (b0 : Int64) (s : Nat → Int32) (l : Nat → Int64) (x : Nat → Int32) (y : Nat → Int64) : pl_X12_edge_21 a1 a2 b0 s l x y = pj_bl px_X12_edge (pj_rn px_X12_edge (pj_as pk_X12_edge) (pj_as [(47, pe_X12_edge_47 (pl_X12_edge_47)), (52, pe_X12_edge_52 (pl_X12_edge_52))]) 60) [(21, .lstore_n 3, 1), (22, .aload_n 0, 1), (23, .iload_n 1, 1), (24, .i2l, 1), (25, .lconst 0, 1), (26, .lload_n 3, 1), (27, .lconst 1, 1), (28, .lsub, 1), (29, .invokestatic 568, 3), (32, .ifCond .eq 15, 3)] 21 [(0, pj_O (124, 0)), (1, pj_I a1), (2, pj_I a2)] [pj_L b0] (s, l, x, y) := rfl
set_option maxRecDepth 100000 in
theorem pq_X12_edge_m (a1 : Int32) (a2 : Int32) (s : Nat → Int32) (l : Nat → Int64) (x : Nat → Int32) (y : Nat → Int64) : pf_X12_edge a1 a2 s l x y = pj_bl px_X12_edge (pj_rn px_X12_edge (pj_as pk_X12_edge) (pj_as [(21, pe_X12_edge_21 (pl_X12_edge_21))]) 60) [(0, .aload_n 0, 1), (1, .getfield 609, 3), (4, .ldc2_w 612, 3), (7, .lcmp, 1), (8, .ifCond .ge 10, 3)] 0 [(0, pj_O (124, 0)), (1, pj_I a1), (2, pj_I a2)] [] (s, l, x, y) := rfl
theorem pu_X12_edge_21 {lf : pj_Z → mj_M} {a : Int64 × pj_Z} (f : Int32 → Int32 → Int64 → pj_F (Int64 × pj_Z)) (hf : ∀ (a1 : Int32) (a2 : Int32) (b0 : Int64) (s : Nat → Int32) (l : Nat → Int64) (x : Nat → Int32) (y : Nat → Int64), f a1 a2 b0 s l x y = some a → pm_Gd 1 12120 ie_X12_edge.1 pm_rL lf 21 [(0, .ref 124), (1, .int a1), (2, .int a2)] [.long b0] (s, l, x, y) a) : pm_Ex 1 12120 ie_X12_edge.1 pm_rL lf a 21 (pe_X12_edge_21 f) := by
  intro lv st z hd h
  obtain ⟨g0, h⟩ := pj_xr_inv h
  obtain ⟨a1, g1, h⟩ := pj_xi_inv h
  obtain ⟨a2, g2, h⟩ := pj_xi_inv h
  obtain ⟨b0, r0, e0, h⟩ := pj_pl_inv h
  obtain ⟨e9, h⟩ := pj_pe_inv h
  rw [e0, e9]
  exact mj_wp_sub (mj_sub_cons g0 (mj_sub_cons g1 (mj_sub_cons g2 (mj_sub_nil hd)))) (hf _ _ _ _ _ _ _ h)
theorem pu_X12_edge_47 {lf : pj_Z → mj_M} {a : Int64 × pj_Z} (f : Int32 → Int32 → Int64 → pj_F (Int64 × pj_Z)) (hf : ∀ (a1 : Int32) (a2 : Int32) (a3 : Int64) (s : Nat → Int32) (l : Nat → Int64) (x : Nat → Int32) (y : Nat → Int64), f a1 a2 a3 s l x y = some a → pm_Gd 1 12120 ie_X12_edge.1 pm_rL lf 47 [(0, .ref 124), (1, .int a1), (2, .int a2), (3, .long a3)] [.ref 124] (s, l, x, y) a) : pm_Ex 1 12120 ie_X12_edge.1 pm_rL lf a 47 (pe_X12_edge_47 f) := by
  intro lv st z hd h
  obtain ⟨g0, h⟩ := pj_xr_inv h
  obtain ⟨a1, g1, h⟩ := pj_xi_inv h
  obtain ⟨a2, g2, h⟩ := pj_xi_inv h
  obtain ⟨a3, g3, h⟩ := pj_xl_inv h
  obtain ⟨r0, e0, h⟩ := pj_pr_inv h
  obtain ⟨e9, h⟩ := pj_pe_inv h
  rw [e0, e9]
  exact mj_wp_sub (mj_sub_cons g0 (mj_sub_cons g1 (mj_sub_cons g2 (mj_sub_cons g3 (mj_sub_nil hd))))) (hf _ _ _ _ _ _ _ h)
theorem pu_X12_edge_52 {lf : pj_Z → mj_M} {a : Int64 × pj_Z} (f : Int32 → Int32 → Int64 → Int32 → pj_F (Int64 × pj_Z)) (hf : ∀ (a1 : Int32) (a2 : Int32) (a3 : Int64) (b1 : Int32) (s : Nat → Int32) (l : Nat → Int64) (x : Nat → Int32) (y : Nat → Int64), f a1 a2 a3 b1 s l x y = some a → pm_Gd 1 12120 ie_X12_edge.1 pm_rL lf 52 [(0, .ref 124), (1, .int a1), (2, .int a2), (3, .long a3)] [.int b1, .ref 124] (s, l, x, y) a) : pm_Ex 1 12120 ie_X12_edge.1 pm_rL lf a 52 (pe_X12_edge_52 f) := by
  intro lv st z hd h
  obtain ⟨g0, h⟩ := pj_xr_inv h
  obtain ⟨a1, g1, h⟩ := pj_xi_inv h
  obtain ⟨a2, g2, h⟩ := pj_xi_inv h
  obtain ⟨a3, g3, h⟩ := pj_xl_inv h
  obtain ⟨b1, r1, e1, h⟩ := pj_pi_inv h
  obtain ⟨r0, e0, h⟩ := pj_pr_inv h
  obtain ⟨e9, h⟩ := pj_pe_inv h
  rw [e1, e0, e9]
  exact mj_wp_sub (mj_sub_cons g0 (mj_sub_cons g1 (mj_sub_cons g2 (mj_sub_cons g3 (mj_sub_nil hd))))) (hf _ _ _ _ _ _ _ _ h)
set_option maxRecDepth 100000 in
theorem pz_X12_edge {lf : pj_Z → mj_M} (hT : pj_Lt pj_TR lf) : pj_Cok ic_P (mj_R ic_P 1) 12120 ie_X12_edge.1 (pm_OK lf pm_rL) lf px_X12_edge := by
  exact pm_cok (c := px_X12_edge) hT (pm_in_ok (L := [(59, 12, 18, 2, true), (63, 12, 19, 2, true), (66, 12, 20, 2, true), (259, 12, 0, 0, false), (609, 12, 21, 1, false)]) (f := mj_pF ic_P 12120) (by decide +kernel)) (fun _ _ h => by cases h) (pm_inL_ok (L := [(612, 200), (643, 2)]) (f := mj_pL ic_P 12120) (by decide +kernel)) (fun _ _ h => by cases h) rfl rfl ⟨by decide, rfl⟩ pm_mL (pj_as_all (p := pm_Cl 1 12120 ie_X12_edge.1 lf (pm_OK lf pm_rL)) (List.forall_mem_cons.mpr ⟨fun _ _ lv st z K a hK h => pc_X12_isIn hT (by decide) (ix := 568) rfl rfl hK h, (List.forall_mem_cons.mpr ⟨fun _ _ lv st z K a hK h => pc_X12_isIn hT (by decide) (ix := 568) rfl rfl hK h, (fun _ h => by cases h)⟩)⟩)) (fun _ h => by cases h)
set_option maxRecDepth 100000 in
theorem pb_X12_edge : pm_bks ie_X12_edge.1.2.2.2.2 pk_X12_edge = true := by decide +kernel
set_option maxRecDepth 100000 in
theorem pg_X12_edge_52 {lf : pj_Z → mj_M} (hT : pj_Lt pj_TR lf) : ∀ (a1 : Int32) (a2 : Int32) (a3 : Int64) (b1 : Int32) (s : Nat → Int32) (l : Nat → Int64) (x : Nat → Int32) (y : Nat → Int64) (a : Int64 × pj_Z), pl_X12_edge_52 a1 a2 a3 b1 s l x y = some a → pm_Gd 1 12120 ie_X12_edge.1 pm_rL lf 52 [(0, .ref 124), (1, .int a1), (2, .int a2), (3, .long a3)] [.int b1, .ref 124] (s, l, x, y) a := by
  intro a1 a2 a3 b1 s l x y a h
  exact pj_bl_ok (pz_X12_edge hT) (fun t lv st z hd h => pj_rn_ok (pz_X12_edge hT) (pm_bks_ok pb_X12_edge) (fun _ _ h => by cases h) 60 t lv st z hd h) [(52, .putfield 259, 3), (55, .aload_n 0, 1), (56, .getfield 259, 3), (59, .ifCond .le 5, 3)] 52 [(0, pj_O (124, 0)), (1, pj_I a1), (2, pj_I a2), (3, pj_L a3)] [pj_I b1, pj_O (124, 0)] (s, l, x, y) (pm_bks_ok pb_X12_edge _ _ rfl) (pm_ndb_ok rfl) ((pq_X12_edge_52  a1 a2 a3 b1 s l x y).symm.trans h)
set_option maxRecDepth 100000 in
theorem pg_X12_edge_47 {lf : pj_Z → mj_M} (hT : pj_Lt pj_TR lf) : ∀ (a1 : Int32) (a2 : Int32) (a3 : Int64) (s : Nat → Int32) (l : Nat → Int64) (x : Nat → Int32) (y : Nat → Int64) (a : Int64 × pj_Z), pl_X12_edge_47 a1 a2 a3 s l x y = some a → pm_Gd 1 12120 ie_X12_edge.1 pm_rL lf 47 [(0, .ref 124), (1, .int a1), (2, .int a2), (3, .long a3)] [.ref 124] (s, l, x, y) a := by
  intro a1 a2 a3 s l x y a h
  exact pj_bl_ok (pz_X12_edge hT) (fun t lv st z hd h => pj_rn_ok (pz_X12_edge hT) (pm_bks_ok pb_X12_edge) (pj_as_all (p := pm_Ex 1 12120 ie_X12_edge.1 pm_rL lf a) (List.forall_mem_cons.mpr ⟨pu_X12_edge_52 _ (fun c0 c1 c2 c3 s l x y h => pg_X12_edge_52 hT c0 c1 c2 c3 s l x y _ h), (fun _ h => by cases h)⟩)) 60 t lv st z hd h) [(47, .iconst 1, 1), (48, .goto 4, 3)] 47 [(0, pj_O (124, 0)), (1, pj_I a1), (2, pj_I a2), (3, pj_L a3)] [pj_O (124, 0)] (s, l, x, y) (pm_bks_ok pb_X12_edge _ _ rfl) (pm_ndb_ok rfl) ((pq_X12_edge_47  a1 a2 a3 s l x y).symm.trans h)
set_option maxRecDepth 100000 in
theorem pg_X12_edge_21 {lf : pj_Z → mj_M} (hT : pj_Lt pj_TR lf) : ∀ (a1 : Int32) (a2 : Int32) (b0 : Int64) (s : Nat → Int32) (l : Nat → Int64) (x : Nat → Int32) (y : Nat → Int64) (a : Int64 × pj_Z), pl_X12_edge_21 a1 a2 b0 s l x y = some a → pm_Gd 1 12120 ie_X12_edge.1 pm_rL lf 21 [(0, .ref 124), (1, .int a1), (2, .int a2)] [.long b0] (s, l, x, y) a := by
  intro a1 a2 b0 s l x y a h
  exact pj_bl_ok (pz_X12_edge hT) (fun t lv st z hd h => pj_rn_ok (pz_X12_edge hT) (pm_bks_ok pb_X12_edge) (pj_as_all (p := pm_Ex 1 12120 ie_X12_edge.1 pm_rL lf a) (List.forall_mem_cons.mpr ⟨pu_X12_edge_47 _ (fun c0 c1 c2 s l x y h => pg_X12_edge_47 hT c0 c1 c2 s l x y _ h), (List.forall_mem_cons.mpr ⟨pu_X12_edge_52 _ (fun c0 c1 c2 c3 s l x y h => pg_X12_edge_52 hT c0 c1 c2 c3 s l x y _ h), (fun _ h => by cases h)⟩)⟩)) 60 t lv st z hd h) [(21, .lstore_n 3, 1), (22, .aload_n 0, 1), (23, .iload_n 1, 1), (24, .i2l, 1), (25, .lconst 0, 1), (26, .lload_n 3, 1), (27, .lconst 1, 1), (28, .lsub, 1), (29, .invokestatic 568, 3), (32, .ifCond .eq 15, 3)] 21 [(0, pj_O (124, 0)), (1, pj_I a1), (2, pj_I a2)] [pj_L b0] (s, l, x, y) (pm_bks_ok pb_X12_edge _ _ rfl) (pm_ndb_ok rfl) ((pq_X12_edge_21  a1 a2 b0 s l x y).symm.trans h)
set_option maxRecDepth 100000 in
theorem pm_X12_edge {lf : pj_Z → mj_M} (hT : pj_Lt pj_TR lf) (a1 : Int32) (a2 : Int32) (s : Nat → Int32) (l : Nat → Int64) (x : Nat → Int32) (y : Nat → Int64) (a : Int64 × pj_Z) (h : pf_X12_edge a1 a2 s l x y = some a) : mj_R ic_P 2 12120 [.ref 124, .int a1, .int a2] (lf (s, l, x, y)) (pm_rL a.1) (lf a.2) := by
  refine pm_main (Y := ie_X12_edge.1) rfl (Nat.le_of_ble_eq_true rfl) ?_
  exact pj_bl_ok (pz_X12_edge hT) (fun t lv st z hd h => pj_rn_ok (pz_X12_edge hT) (pm_bks_ok pb_X12_edge) (pj_as_all (p := pm_Ex 1 12120 ie_X12_edge.1 pm_rL lf a) (List.forall_mem_cons.mpr ⟨pu_X12_edge_21 _ (fun c0 c1 c2 s l x y h => pg_X12_edge_21 hT c0 c1 c2 s l x y _ h), (fun _ h => by cases h)⟩)) 60 t lv st z hd h) [(0, .aload_n 0, 1), (1, .getfield 609, 3), (4, .ldc2_w 612, 3), (7, .lcmp, 1), (8, .ifCond .ge 10, 3)] 0 [(0, pj_O (124, 0)), (1, pj_I a1), (2, pj_I a2)] [] (s, l, x, y) (pm_bks_ok pb_X12_edge _ _ rfl) (pm_ndb_ok rfl) ((pq_X12_edge_m a1 a2 s l x y).symm.trans h)
abbrev ph_X12_edge {A : Type} : List pj_V → pj_Z → (List pj_V → pj_Z → Option A) → Option A := fun st z K => pj_pi st fun a2 st => pj_pi st fun a1 st => pj_pr st 124 0 fun st => pj_ps st (pj_b (pf_X12_edge a1 a2 z.1 z.2.1 z.2.2.1 z.2.2.2) fun r s l x y => K (pj_L r :: st) (s, l, x, y))
set_option maxRecDepth 100000 in
theorem pc_X12_edge {A : Type} {OK : A → Option Value → mj_M → Prop} {d j pc ix : Nat} {Y : mj_Y} {lf : pj_Z → mj_M} (hT : pj_Lt pj_TR lf) (hd : 2 ≤ d) (hl : mj_lk Y.2.2.2.2 pc = some (.invokevirtual ix, 3)) (hg : mj_pG ic_P j ix = some (12120, 2, some 12)) {lv : List (Nat × Value)} {st : List pj_V} {z : pj_Z} {K : List pj_V → pj_Z → Option A} {a : A} (hK : ∀ st z, K st z = some a → pj_Gd ic_P (mj_R ic_P d) j Y OK lf (pc + 3) lv (pj_es st) z a) (h : ph_X12_edge st z K = some a) : pj_Gd ic_P (mj_R ic_P d) j Y OK lf pc lv (pj_es st) z a := by
  obtain ⟨a2, r2, e2, h⟩ := pj_pi_inv h
  obtain ⟨a1, r1, e1, h⟩ := pj_pi_inv h
  obtain ⟨r0, e0, h⟩ := pj_pr_inv h
  obtain ⟨hs, h⟩ := pj_ps_inv h
  obtain ⟨q, hq, h⟩ := pj_b_inv h
  exact pm_cv (o := 124) hl hg [.int a1, .int a2] rfl (by rw [e2, e1, e0]; rfl) hs (by decide) ((hT.2 124 _ rfl).1.2 z 0 (by decide)) (pm_rL q.1) hd (pm_X12_edge hT a1 a2 z.1 z.2.1 z.2.2.1 z.2.2.2 q hq) rfl (hK _ _ h)
abbrev pe_X12_trouble_25 (f : Int32 → Int32 → pj_F (Int32 × pj_Z)) : pj_K (Int32 × pj_Z) := fun lv st z => pj_xr lv 0 124 0 <| pj_xi lv 1 fun a1 => pj_xi lv 2 fun a2 => pj_pr st 124 0 fun st => pj_pe st (f a1 a2 z.1 z.2.1 z.2.2.1 z.2.2.2)
abbrev pe_X12_trouble_30 (f : Int32 → Int32 → Int32 → pj_F (Int32 × pj_Z)) : pj_K (Int32 × pj_Z) := fun lv st z => pj_xr lv 0 124 0 <| pj_xi lv 1 fun a1 => pj_xi lv 2 fun a2 => pj_pi st fun b1 st => pj_pr st 124 0 fun st => pj_pe st (f a1 a2 b1 z.1 z.2.1 z.2.2.1 z.2.2.2)
abbrev px_X12_trouble : pj_C (Int32 × pj_Z) := (pj_TR, (pj_as [(149, 12, 112, 2, true), (152, 12, 113, 2, true), (155, 12, 114, 2, true), (158, 12, 115, 2, true), (164, 12, 117, 2, true), (167, 12, 118, 2, true), (170, 12, 119, 2, true), (259, 12, 0, 0, false)]), (fun _ => none), (pj_as [(978, 27), (980, 6)]), (fun _ => none), ic_X, 3, 1, pj_mI, (pj_as [(7, ph_X12_isIn), (19, ph_X12_isIn)]), fun _ => false)
abbrev pk_X12_trouble : List (Nat × List (Nat × Instr × Nat)) := [(0, [(0, .aload_n 0, 1), (1, .iload_n 1, 1), (2, .i2l, 1), (3, .lconst 0, 1), (4, .ldc2_w 978, 3), (7, .invokestatic 568, 3), (10, .ifCond .eq 15, 3)]), (13, [(13, .iload_n 2, 1), (14, .i2l, 1), (15, .lconst 0, 1), (16, .ldc2_w 980, 3), (19, .invokestatic 568, 3), (22, .ifCond .ne 7, 3)]), (25, [(25, .iconst 1, 1), (26, .goto 4, 3)]), (29, [(29, .iconst 0, 1)]), (30, [(30, .putfield 259, 3), (33, .aload_n 0, 1), (34, .getfield 259, 3), (37, .ifCond .le 5, 3)]), (40, [(40, .iconst 0, 1), (41, .ireturn, 1)]), (42, [(42, .iload_n 2, 1), (43, .tableswitch 111 0 5 #[37, 44, 59, 74, 89, 96], 37)]), (80, [(80, .aload_n 0, 1), (81, .getfield 149, 3), (84, .iload_n 1, 1), (85, .iaload, 1), (86, .ireturn, 1)]), (87, [(87, .aload_n 0, 1), (88, .getfield 152, 3), (91, .iload_n 1, 1), (92, .baload, 1), (93, .ifCond .eq 7, 3)]), (96, [(96, .iconst 1, 1), (97, .goto 4, 3)]), (100, [(100, .iconst 0, 1)]), (101, [(101, .ireturn, 1)]), (102, [(102, .aload_n 0, 1), (103, .getfield 164, 3), (106, .iload_n 1, 1), (107, .baload, 1), (108, .ifCond .eq 7, 3)]), (111, [(111, .iconst 1, 1), (112, .goto 4, 3)]), (115, [(115, .iconst 0, 1)]), (116, [(116, .ireturn, 1)]), (117, [(117, .aload_n 0, 1), (118, .getfield 167, 3), (121, .iload_n 1, 1), (122, .baload, 1), (123, .ifCond .eq 7, 3)]), (126, [(126, .iconst 1, 1), (127, .goto 4, 3)]), (130, [(130, .iconst 0, 1)]), (131, [(131, .ireturn, 1)]), (132, [(132, .aload_n 0, 1), (133, .getfield 170, 3), (136, .iload_n 1, 1), (137, .iaload, 1), (138, .ireturn, 1)]), (139, [(139, .aload_n 0, 1), (140, .getfield 155, 3), (143, .iload_n 1, 1), (144, .baload, 1), (145, .ifCond .eq 7, 3)]), (148, [(148, .iconst 1, 1), (149, .goto 4, 3)]), (152, [(152, .iconst 0, 1)]), (153, [(153, .ireturn, 1)]), (154, [(154, .aload_n 0, 1), (155, .getfield 158, 3), (158, .iload_n 1, 1), (159, .baload, 1), (160, .ifCond .eq 7, 3)]), (163, [(163, .iconst 1, 1), (164, .goto 4, 3)]), (167, [(167, .iconst 0, 1)]), (168, [(168, .ireturn, 1)])]
set_option maxRecDepth 100000 in
theorem pq_X12_trouble_30 (a1 : Int32) (a2 : Int32) (b1 : Int32) (s : Nat → Int32) (l : Nat → Int64) (x : Nat → Int32) (y : Nat → Int64) : pl_X12_trouble_30 a1 a2 b1 s l x y = pj_bl px_X12_trouble (pj_rn px_X12_trouble (pj_as pk_X12_trouble) (fun _ => none) 60) [(30, .putfield 259, 3), (33, .aload_n 0, 1), (34, .getfield 259, 3), (37, .ifCond .le 5, 3)] 30 [(0, pj_O (124, 0)), (1, pj_I a1), (2, pj_I a2)] [pj_I b1, pj_O (124, 0)] (s, l, x, y) := rfl
set_option maxRecDepth 100000 in
theorem pq_X12_trouble_25 (a1 : Int32) (a2 : Int32) (s : Nat → Int32) (l : Nat → Int64) (x : Nat → Int32) (y : Nat → Int64) : pl_X12_trouble_25 a1 a2 s l x y = pj_bl px_X12_trouble (pj_rn px_X12_trouble (pj_as pk_X12_trouble) (pj_as [(30, pe_X12_trouble_30 (pl_X12_trouble_30))]) 60) [(25, .iconst 1, 1), (26, .goto 4, 3)] 25 [(0, pj_O (124, 0)), (1, pj_I a1), (2, pj_I a2)] [pj_O (124, 0)] (s, l, x, y) := rfl
set_option maxRecDepth 100000 in
theorem pq_X12_trouble_m (a1 : Int32) (a2 : Int32) (s : Nat → Int32) (l : Nat → Int64) (x : Nat → Int32) (y : Nat → Int64) : pf_X12_trouble a1 a2 s l x y = pj_bl px_X12_trouble (pj_rn px_X12_trouble (pj_as pk_X12_trouble) (pj_as [(25, pe_X12_trouble_25 (pl_X12_trouble_25)), (30, pe_X12_trouble_30 (pl_X12_trouble_30))]) 60) [(0, .aload_n 0, 1), (1, .iload_n 1, 1), (2, .i2l, 1), (3, .lconst 0, 1), (4, .ldc2_w 978, 3), (7, .invokestatic 568, 3), (10, .ifCond .eq 15, 3)] 0 [(0, pj_O (124, 0)), (1, pj_I a1), (2, pj_I a2)] [] (s, l, x, y) := rfl
theorem pu_X12_trouble_25 {lf : pj_Z → mj_M} {a : Int32 × pj_Z} (f : Int32 → Int32 → pj_F (Int32 × pj_Z)) (hf : ∀ (a1 : Int32) (a2 : Int32) (s : Nat → Int32) (l : Nat → Int64) (x : Nat → Int32) (y : Nat → Int64), f a1 a2 s l x y = some a → pm_Gd 1 12121 ie_X12_trouble.1 pm_rI lf 25 [(0, .ref 124), (1, .int a1), (2, .int a2)] [.ref 124] (s, l, x, y) a) : pm_Ex 1 12121 ie_X12_trouble.1 pm_rI lf a 25 (pe_X12_trouble_25 f) := by
  intro lv st z hd h
  obtain ⟨g0, h⟩ := pj_xr_inv h
  obtain ⟨a1, g1, h⟩ := pj_xi_inv h
  obtain ⟨a2, g2, h⟩ := pj_xi_inv h
  obtain ⟨r0, e0, h⟩ := pj_pr_inv h
  obtain ⟨e9, h⟩ := pj_pe_inv h
  rw [e0, e9]
  exact mj_wp_sub (mj_sub_cons g0 (mj_sub_cons g1 (mj_sub_cons g2 (mj_sub_nil hd)))) (hf _ _ _ _ _ _ h)
theorem pu_X12_trouble_30 {lf : pj_Z → mj_M} {a : Int32 × pj_Z} (f : Int32 → Int32 → Int32 → pj_F (Int32 × pj_Z)) (hf : ∀ (a1 : Int32) (a2 : Int32) (b1 : Int32) (s : Nat → Int32) (l : Nat → Int64) (x : Nat → Int32) (y : Nat → Int64), f a1 a2 b1 s l x y = some a → pm_Gd 1 12121 ie_X12_trouble.1 pm_rI lf 30 [(0, .ref 124), (1, .int a1), (2, .int a2)] [.int b1, .ref 124] (s, l, x, y) a) : pm_Ex 1 12121 ie_X12_trouble.1 pm_rI lf a 30 (pe_X12_trouble_30 f) := by
  intro lv st z hd h
  obtain ⟨g0, h⟩ := pj_xr_inv h
  obtain ⟨a1, g1, h⟩ := pj_xi_inv h
  obtain ⟨a2, g2, h⟩ := pj_xi_inv h
  obtain ⟨b1, r1, e1, h⟩ := pj_pi_inv h
  obtain ⟨r0, e0, h⟩ := pj_pr_inv h
  obtain ⟨e9, h⟩ := pj_pe_inv h
  rw [e1, e0, e9]
  exact mj_wp_sub (mj_sub_cons g0 (mj_sub_cons g1 (mj_sub_cons g2 (mj_sub_nil hd)))) (hf _ _ _ _ _ _ _ h)
set_option maxRecDepth 100000 in
theorem pz_X12_trouble {lf : pj_Z → mj_M} (hT : pj_Lt pj_TR lf) : pj_Cok ic_P (mj_R ic_P 1) 12121 ie_X12_trouble.1 (pm_OK lf pm_rI) lf px_X12_trouble := by
  exact pm_cok (c := px_X12_trouble) hT (pm_in_ok (L := [(149, 12, 112, 2, true), (152, 12, 113, 2, true), (155, 12, 114, 2, true), (158, 12, 115, 2, true), (164, 12, 117, 2, true), (167, 12, 118, 2, true), (170, 12, 119, 2, true), (259, 12, 0, 0, false)]) (f := mj_pF ic_P 12121) (by decide +kernel)) (fun _ _ h => by cases h) (pm_inL_ok (L := [(978, 27), (980, 6)]) (f := mj_pL ic_P 12121) (by decide +kernel)) (fun _ _ h => by cases h) rfl rfl ⟨by decide, rfl⟩ pm_mI (pj_as_all (p := pm_Cl 1 12121 ie_X12_trouble.1 lf (pm_OK lf pm_rI)) (List.forall_mem_cons.mpr ⟨fun _ _ lv st z K a hK h => pc_X12_isIn hT (by decide) (ix := 568) rfl rfl hK h, (List.forall_mem_cons.mpr ⟨fun _ _ lv st z K a hK h => pc_X12_isIn hT (by decide) (ix := 568) rfl rfl hK h, (fun _ h => by cases h)⟩)⟩)) (fun _ h => by cases h)
set_option maxRecDepth 100000 in
theorem pb_X12_trouble : pm_bks ie_X12_trouble.1.2.2.2.2 pk_X12_trouble = true := by decide +kernel
set_option maxRecDepth 100000 in
theorem pg_X12_trouble_30 {lf : pj_Z → mj_M} (hT : pj_Lt pj_TR lf) : ∀ (a1 : Int32) (a2 : Int32) (b1 : Int32) (s : Nat → Int32) (l : Nat → Int64) (x : Nat → Int32) (y : Nat → Int64) (a : Int32 × pj_Z), pl_X12_trouble_30 a1 a2 b1 s l x y = some a → pm_Gd 1 12121 ie_X12_trouble.1 pm_rI lf 30 [(0, .ref 124), (1, .int a1), (2, .int a2)] [.int b1, .ref 124] (s, l, x, y) a := by
  intro a1 a2 b1 s l x y a h
  exact pj_bl_ok (pz_X12_trouble hT) (fun t lv st z hd h => pj_rn_ok (pz_X12_trouble hT) (pm_bks_ok pb_X12_trouble) (fun _ _ h => by cases h) 60 t lv st z hd h) [(30, .putfield 259, 3), (33, .aload_n 0, 1), (34, .getfield 259, 3), (37, .ifCond .le 5, 3)] 30 [(0, pj_O (124, 0)), (1, pj_I a1), (2, pj_I a2)] [pj_I b1, pj_O (124, 0)] (s, l, x, y) (pm_bks_ok pb_X12_trouble _ _ rfl) (pm_ndb_ok rfl) ((pq_X12_trouble_30  a1 a2 b1 s l x y).symm.trans h)
set_option maxRecDepth 100000 in
theorem pg_X12_trouble_25 {lf : pj_Z → mj_M} (hT : pj_Lt pj_TR lf) : ∀ (a1 : Int32) (a2 : Int32) (s : Nat → Int32) (l : Nat → Int64) (x : Nat → Int32) (y : Nat → Int64) (a : Int32 × pj_Z), pl_X12_trouble_25 a1 a2 s l x y = some a → pm_Gd 1 12121 ie_X12_trouble.1 pm_rI lf 25 [(0, .ref 124), (1, .int a1), (2, .int a2)] [.ref 124] (s, l, x, y) a := by
  intro a1 a2 s l x y a h
  exact pj_bl_ok (pz_X12_trouble hT) (fun t lv st z hd h => pj_rn_ok (pz_X12_trouble hT) (pm_bks_ok pb_X12_trouble) (pj_as_all (p := pm_Ex 1 12121 ie_X12_trouble.1 pm_rI lf a) (List.forall_mem_cons.mpr ⟨pu_X12_trouble_30 _ (fun c0 c1 c2 s l x y h => pg_X12_trouble_30 hT c0 c1 c2 s l x y _ h), (fun _ h => by cases h)⟩)) 60 t lv st z hd h) [(25, .iconst 1, 1), (26, .goto 4, 3)] 25 [(0, pj_O (124, 0)), (1, pj_I a1), (2, pj_I a2)] [pj_O (124, 0)] (s, l, x, y) (pm_bks_ok pb_X12_trouble _ _ rfl) (pm_ndb_ok rfl) ((pq_X12_trouble_25  a1 a2 s l x y).symm.trans h)
set_option maxRecDepth 100000 in
theorem pm_X12_trouble {lf : pj_Z → mj_M} (hT : pj_Lt pj_TR lf) (a1 : Int32) (a2 : Int32) (s : Nat → Int32) (l : Nat → Int64) (x : Nat → Int32) (y : Nat → Int64) (a : Int32 × pj_Z) (h : pf_X12_trouble a1 a2 s l x y = some a) : mj_R ic_P 2 12121 [.ref 124, .int a1, .int a2] (lf (s, l, x, y)) (pm_rI a.1) (lf a.2) := by
  refine pm_main (Y := ie_X12_trouble.1) rfl (Nat.le_of_ble_eq_true rfl) ?_
  exact pj_bl_ok (pz_X12_trouble hT) (fun t lv st z hd h => pj_rn_ok (pz_X12_trouble hT) (pm_bks_ok pb_X12_trouble) (pj_as_all (p := pm_Ex 1 12121 ie_X12_trouble.1 pm_rI lf a) (List.forall_mem_cons.mpr ⟨pu_X12_trouble_25 _ (fun c0 c1 s l x y h => pg_X12_trouble_25 hT c0 c1 s l x y _ h), (List.forall_mem_cons.mpr ⟨pu_X12_trouble_30 _ (fun c0 c1 c2 s l x y h => pg_X12_trouble_30 hT c0 c1 c2 s l x y _ h), (fun _ h => by cases h)⟩)⟩)) 60 t lv st z hd h) [(0, .aload_n 0, 1), (1, .iload_n 1, 1), (2, .i2l, 1), (3, .lconst 0, 1), (4, .ldc2_w 978, 3), (7, .invokestatic 568, 3), (10, .ifCond .eq 15, 3)] 0 [(0, pj_O (124, 0)), (1, pj_I a1), (2, pj_I a2)] [] (s, l, x, y) (pm_bks_ok pb_X12_trouble _ _ rfl) (pm_ndb_ok rfl) ((pq_X12_trouble_m a1 a2 s l x y).symm.trans h)
abbrev ph_X12_trouble {A : Type} : List pj_V → pj_Z → (List pj_V → pj_Z → Option A) → Option A := fun st z K => pj_pi st fun a2 st => pj_pi st fun a1 st => pj_pr st 124 0 fun st => pj_ps st (pj_b (pf_X12_trouble a1 a2 z.1 z.2.1 z.2.2.1 z.2.2.2) fun r s l x y => K (pj_I r :: st) (s, l, x, y))
set_option maxRecDepth 100000 in
theorem pc_X12_trouble {A : Type} {OK : A → Option Value → mj_M → Prop} {d j pc ix : Nat} {Y : mj_Y} {lf : pj_Z → mj_M} (hT : pj_Lt pj_TR lf) (hd : 2 ≤ d) (hl : mj_lk Y.2.2.2.2 pc = some (.invokevirtual ix, 3)) (hg : mj_pG ic_P j ix = some (12121, 2, some 12)) {lv : List (Nat × Value)} {st : List pj_V} {z : pj_Z} {K : List pj_V → pj_Z → Option A} {a : A} (hK : ∀ st z, K st z = some a → pj_Gd ic_P (mj_R ic_P d) j Y OK lf (pc + 3) lv (pj_es st) z a) (h : ph_X12_trouble st z K = some a) : pj_Gd ic_P (mj_R ic_P d) j Y OK lf pc lv (pj_es st) z a := by
  obtain ⟨a2, r2, e2, h⟩ := pj_pi_inv h
  obtain ⟨a1, r1, e1, h⟩ := pj_pi_inv h
  obtain ⟨r0, e0, h⟩ := pj_pr_inv h
  obtain ⟨hs, h⟩ := pj_ps_inv h
  obtain ⟨q, hq, h⟩ := pj_b_inv h
  exact pm_cv (o := 124) hl hg [.int a1, .int a2] rfl (by rw [e2, e1, e0]; rfl) hs (by decide) ((hT.2 124 _ rfl).1.2 z 0 (by decide)) (pm_rI q.1) hd (pm_X12_trouble hT a1 a2 z.1 z.2.1 z.2.2.1 z.2.2.2 q hq) rfl (hK _ _ h)
abbrev pe_X12_frame_18 (f : Int32 → Int32 → pj_F (Int32 × pj_Z)) : pj_K (Int32 × pj_Z) := fun lv st z => pj_xr lv 0 124 0 <| pj_xi lv 1 fun a1 => pj_pi st fun b1 st => pj_pr st 124 0 fun st => pj_pe st (f a1 b1 z.1 z.2.1 z.2.2.1 z.2.2.2)
abbrev px_X12_frame : pj_C (Int32 × pj_Z) := (pj_TR, (pj_as [(173, 12, 121, 2, true), (259, 12, 0, 0, false), (513, 12, 120, 3, false)]), (fun _ => none), (pj_as [(862, 7)]), (fun _ => none), ic_X, 2, 1, pj_mI, (pj_as [(7, ph_X12_isIn)]), fun _ => false)
abbrev pk_X12_frame : List (Nat × List (Nat × Instr × Nat)) := [(0, [(0, .aload_n 0, 1), (1, .iload_n 1, 1), (2, .i2l, 1), (3, .lconst 0, 1), (4, .ldc2_w 862, 3), (7, .invokestatic 568, 3), (10, .ifCond .ne 7, 3)]), (13, [(13, .iconst 1, 1), (14, .goto 4, 3)]), (17, [(17, .iconst 0, 1)]), (18, [(18, .putfield 259, 3), (21, .aload_n 0, 1), (22, .getfield 259, 3), (25, .ifCond .le 7, 3)]), (28, [(28, .iconst 0, 1), (29, .goto 20, 3)]), (32, [(32, .aload_n 0, 1), (33, .getfield 513, 3), (36, .ifCond .eq 12, 3)]), (39, [(39, .aload_n 0, 1), (40, .getfield 173, 3), (43, .iload_n 1, 1), (44, .iaload, 1), (45, .goto 4, 3)]), (48, [(48, .iconst (-1), 1)]), (49, [(49, .ireturn, 1)])]
set_option maxRecDepth 100000 in
theorem pq_X12_frame_18 (a1 : Int32) (b1 : Int32) (s : Nat → Int32) (l : Nat → Int64) (x : Nat → Int32) (y : Nat → Int64) : pl_X12_frame_18 a1 b1 s l x y = pj_bl px_X12_frame (pj_rn px_X12_frame (pj_as pk_X12_frame) (fun _ => none) 60) [(18, .putfield 259, 3), (21, .aload_n 0, 1), (22, .getfield 259, 3), (25, .ifCond .le 7, 3)] 18 [(0, pj_O (124, 0)), (1, pj_I a1)] [pj_I b1, pj_O (124, 0)] (s, l, x, y) := rfl
set_option maxRecDepth 100000 in
theorem pq_X12_frame_m (a1 : Int32) (s : Nat → Int32) (l : Nat → Int64) (x : Nat → Int32) (y : Nat → Int64) : pf_X12_frame a1 s l x y = pj_bl px_X12_frame (pj_rn px_X12_frame (pj_as pk_X12_frame) (pj_as [(18, pe_X12_frame_18 (pl_X12_frame_18))]) 60) [(0, .aload_n 0, 1), (1, .iload_n 1, 1), (2, .i2l, 1), (3, .lconst 0, 1), (4, .ldc2_w 862, 3), (7, .invokestatic 568, 3), (10, .ifCond .ne 7, 3)] 0 [(0, pj_O (124, 0)), (1, pj_I a1)] [] (s, l, x, y) := rfl
theorem pu_X12_frame_18 {lf : pj_Z → mj_M} {a : Int32 × pj_Z} (f : Int32 → Int32 → pj_F (Int32 × pj_Z)) (hf : ∀ (a1 : Int32) (b1 : Int32) (s : Nat → Int32) (l : Nat → Int64) (x : Nat → Int32) (y : Nat → Int64), f a1 b1 s l x y = some a → pm_Gd 1 12122 ie_X12_frame.1 pm_rI lf 18 [(0, .ref 124), (1, .int a1)] [.int b1, .ref 124] (s, l, x, y) a) : pm_Ex 1 12122 ie_X12_frame.1 pm_rI lf a 18 (pe_X12_frame_18 f) := by
  intro lv st z hd h
  obtain ⟨g0, h⟩ := pj_xr_inv h
  obtain ⟨a1, g1, h⟩ := pj_xi_inv h
  obtain ⟨b1, r1, e1, h⟩ := pj_pi_inv h
  obtain ⟨r0, e0, h⟩ := pj_pr_inv h
  obtain ⟨e9, h⟩ := pj_pe_inv h
  rw [e1, e0, e9]
  exact mj_wp_sub (mj_sub_cons g0 (mj_sub_cons g1 (mj_sub_nil hd))) (hf _ _ _ _ _ _ h)
set_option maxRecDepth 100000 in
theorem pz_X12_frame {lf : pj_Z → mj_M} (hT : pj_Lt pj_TR lf) : pj_Cok ic_P (mj_R ic_P 1) 12122 ie_X12_frame.1 (pm_OK lf pm_rI) lf px_X12_frame := by
  exact pm_cok (c := px_X12_frame) hT (pm_in_ok (L := [(173, 12, 121, 2, true), (259, 12, 0, 0, false), (513, 12, 120, 3, false)]) (f := mj_pF ic_P 12122) (by decide +kernel)) (fun _ _ h => by cases h) (pm_inL_ok (L := [(862, 7)]) (f := mj_pL ic_P 12122) (by decide +kernel)) (fun _ _ h => by cases h) rfl rfl ⟨by decide, rfl⟩ pm_mI (pj_as_all (p := pm_Cl 1 12122 ie_X12_frame.1 lf (pm_OK lf pm_rI)) (List.forall_mem_cons.mpr ⟨fun _ _ lv st z K a hK h => pc_X12_isIn hT (by decide) (ix := 568) rfl rfl hK h, (fun _ h => by cases h)⟩)) (fun _ h => by cases h)
set_option maxRecDepth 100000 in
theorem pb_X12_frame : pm_bks ie_X12_frame.1.2.2.2.2 pk_X12_frame = true := by decide +kernel
set_option maxRecDepth 100000 in
theorem pg_X12_frame_18 {lf : pj_Z → mj_M} (hT : pj_Lt pj_TR lf) : ∀ (a1 : Int32) (b1 : Int32) (s : Nat → Int32) (l : Nat → Int64) (x : Nat → Int32) (y : Nat → Int64) (a : Int32 × pj_Z), pl_X12_frame_18 a1 b1 s l x y = some a → pm_Gd 1 12122 ie_X12_frame.1 pm_rI lf 18 [(0, .ref 124), (1, .int a1)] [.int b1, .ref 124] (s, l, x, y) a := by
  intro a1 b1 s l x y a h
  exact pj_bl_ok (pz_X12_frame hT) (fun t lv st z hd h => pj_rn_ok (pz_X12_frame hT) (pm_bks_ok pb_X12_frame) (fun _ _ h => by cases h) 60 t lv st z hd h) [(18, .putfield 259, 3), (21, .aload_n 0, 1), (22, .getfield 259, 3), (25, .ifCond .le 7, 3)] 18 [(0, pj_O (124, 0)), (1, pj_I a1)] [pj_I b1, pj_O (124, 0)] (s, l, x, y) (pm_bks_ok pb_X12_frame _ _ rfl) (pm_ndb_ok rfl) ((pq_X12_frame_18  a1 b1 s l x y).symm.trans h)
set_option maxRecDepth 100000 in
theorem pm_X12_frame {lf : pj_Z → mj_M} (hT : pj_Lt pj_TR lf) (a1 : Int32) (s : Nat → Int32) (l : Nat → Int64) (x : Nat → Int32) (y : Nat → Int64) (a : Int32 × pj_Z) (h : pf_X12_frame a1 s l x y = some a) : mj_R ic_P 2 12122 [.ref 124, .int a1] (lf (s, l, x, y)) (pm_rI a.1) (lf a.2) := by
  refine pm_main (Y := ie_X12_frame.1) rfl (Nat.le_of_ble_eq_true rfl) ?_
  exact pj_bl_ok (pz_X12_frame hT) (fun t lv st z hd h => pj_rn_ok (pz_X12_frame hT) (pm_bks_ok pb_X12_frame) (pj_as_all (p := pm_Ex 1 12122 ie_X12_frame.1 pm_rI lf a) (List.forall_mem_cons.mpr ⟨pu_X12_frame_18 _ (fun c0 c1 s l x y h => pg_X12_frame_18 hT c0 c1 s l x y _ h), (fun _ h => by cases h)⟩)) 60 t lv st z hd h) [(0, .aload_n 0, 1), (1, .iload_n 1, 1), (2, .i2l, 1), (3, .lconst 0, 1), (4, .ldc2_w 862, 3), (7, .invokestatic 568, 3), (10, .ifCond .ne 7, 3)] 0 [(0, pj_O (124, 0)), (1, pj_I a1)] [] (s, l, x, y) (pm_bks_ok pb_X12_frame _ _ rfl) (pm_ndb_ok rfl) ((pq_X12_frame_m a1 s l x y).symm.trans h)
abbrev ph_X12_frame {A : Type} : List pj_V → pj_Z → (List pj_V → pj_Z → Option A) → Option A := fun st z K => pj_pi st fun a1 st => pj_pr st 124 0 fun st => pj_ps st (pj_b (pf_X12_frame a1 z.1 z.2.1 z.2.2.1 z.2.2.2) fun r s l x y => K (pj_I r :: st) (s, l, x, y))
set_option maxRecDepth 100000 in
theorem pc_X12_frame {A : Type} {OK : A → Option Value → mj_M → Prop} {d j pc ix : Nat} {Y : mj_Y} {lf : pj_Z → mj_M} (hT : pj_Lt pj_TR lf) (hd : 2 ≤ d) (hl : mj_lk Y.2.2.2.2 pc = some (.invokevirtual ix, 3)) (hg : mj_pG ic_P j ix = some (12122, 1, some 12)) {lv : List (Nat × Value)} {st : List pj_V} {z : pj_Z} {K : List pj_V → pj_Z → Option A} {a : A} (hK : ∀ st z, K st z = some a → pj_Gd ic_P (mj_R ic_P d) j Y OK lf (pc + 3) lv (pj_es st) z a) (h : ph_X12_frame st z K = some a) : pj_Gd ic_P (mj_R ic_P d) j Y OK lf pc lv (pj_es st) z a := by
  obtain ⟨a1, r1, e1, h⟩ := pj_pi_inv h
  obtain ⟨r0, e0, h⟩ := pj_pr_inv h
  obtain ⟨hs, h⟩ := pj_ps_inv h
  obtain ⟨q, hq, h⟩ := pj_b_inv h
  exact pm_cv (o := 124) hl hg [.int a1] rfl (by rw [e1, e0]; rfl) hs (by decide) ((hT.2 124 _ rfl).1.2 z 0 (by decide)) (pm_rI q.1) hd (pm_X12_frame hT a1 z.1 z.2.1 z.2.2.1 z.2.2.2 q hq) rfl (hK _ _ h)
abbrev pe_X12_comes_30 (f : Int32 → Int32 → pj_F (Int64 × pj_Z)) : pj_K (Int64 × pj_Z) := fun lv st z => pj_xr lv 0 124 0 <| pj_xi lv 1 fun a1 => pj_pi st fun b1 st => pj_pr st 124 0 fun st => pj_pe st (f a1 b1 z.1 z.2.1 z.2.2.1 z.2.2.2)
abbrev px_X12_comes : pj_C (Int64 × pj_Z) := (pj_TR, (pj_as [(259, 12, 0, 0, false), (262, 12, 34, 0, false)]), (fun _ => none), (pj_as [(982, 7199)]), (fun _ => none), ic_X, 2, 3, pj_mL, (pj_as [(7, ph_X12_isIn), (46, ph_X12_comesAt)]), fun _ => false)
abbrev pk_X12_comes : List (Nat × List (Nat × Instr × Nat)) := [(0, [(0, .aload_n 0, 1), (1, .iload_n 1, 1), (2, .i2l, 1), (3, .lconst 0, 1), (4, .ldc2_w 982, 3), (7, .invokestatic 568, 3), (10, .ifCond .ne 7, 3)]), (13, [(13, .iconst 1, 1), (14, .goto 16, 3)]), (17, [(17, .aload_n 0, 1), (18, .getfield 262, 3), (21, .iconst 3, 1), (22, .if_icmp .eq 7, 3)]), (25, [(25, .iconst 2, 1), (26, .goto 4, 3)]), (29, [(29, .iconst 0, 1)]), (30, [(30, .putfield 259, 3), (33, .aload_n 0, 1), (34, .getfield 259, 3), (37, .ifCond .le 7, 3)]), (40, [(40, .lconst 0, 1), (41, .goto 8, 3)]), (44, [(44, .aload_n 0, 1), (45, .iload_n 1, 1), (46, .invokevirtual 661, 3)]), (49, [(49, .lreturn, 1)])]
set_option maxRecDepth 100000 in
theorem pq_X12_comes_30 (a1 : Int32) (b1 : Int32) (s : Nat → Int32) (l : Nat → Int64) (x : Nat → Int32) (y : Nat → Int64) : pl_X12_comes_30 a1 b1 s l x y = pj_bl px_X12_comes (pj_rn px_X12_comes (pj_as pk_X12_comes) (fun _ => none) 60) [(30, .putfield 259, 3), (33, .aload_n 0, 1), (34, .getfield 259, 3), (37, .ifCond .le 7, 3)] 30 [(0, pj_O (124, 0)), (1, pj_I a1)] [pj_I b1, pj_O (124, 0)] (s, l, x, y) := rfl
set_option maxRecDepth 100000 in
theorem pq_X12_comes_m (a1 : Int32) (s : Nat → Int32) (l : Nat → Int64) (x : Nat → Int32) (y : Nat → Int64) : pf_X12_comes a1 s l x y = pj_bl px_X12_comes (pj_rn px_X12_comes (pj_as pk_X12_comes) (pj_as [(30, pe_X12_comes_30 (pl_X12_comes_30))]) 60) [(0, .aload_n 0, 1), (1, .iload_n 1, 1), (2, .i2l, 1), (3, .lconst 0, 1), (4, .ldc2_w 982, 3), (7, .invokestatic 568, 3), (10, .ifCond .ne 7, 3)] 0 [(0, pj_O (124, 0)), (1, pj_I a1)] [] (s, l, x, y) := rfl
theorem pu_X12_comes_30 {lf : pj_Z → mj_M} {a : Int64 × pj_Z} (f : Int32 → Int32 → pj_F (Int64 × pj_Z)) (hf : ∀ (a1 : Int32) (b1 : Int32) (s : Nat → Int32) (l : Nat → Int64) (x : Nat → Int32) (y : Nat → Int64), f a1 b1 s l x y = some a → pm_Gd 2 12123 ie_X12_comes.1 pm_rL lf 30 [(0, .ref 124), (1, .int a1)] [.int b1, .ref 124] (s, l, x, y) a) : pm_Ex 2 12123 ie_X12_comes.1 pm_rL lf a 30 (pe_X12_comes_30 f) := by
  intro lv st z hd h
  obtain ⟨g0, h⟩ := pj_xr_inv h
  obtain ⟨a1, g1, h⟩ := pj_xi_inv h
  obtain ⟨b1, r1, e1, h⟩ := pj_pi_inv h
  obtain ⟨r0, e0, h⟩ := pj_pr_inv h
  obtain ⟨e9, h⟩ := pj_pe_inv h
  rw [e1, e0, e9]
  exact mj_wp_sub (mj_sub_cons g0 (mj_sub_cons g1 (mj_sub_nil hd))) (hf _ _ _ _ _ _ h)
set_option maxRecDepth 100000 in
theorem pz_X12_comes {lf : pj_Z → mj_M} (hT : pj_Lt pj_TR lf) : pj_Cok ic_P (mj_R ic_P 2) 12123 ie_X12_comes.1 (pm_OK lf pm_rL) lf px_X12_comes := by
  exact pm_cok (c := px_X12_comes) hT (pm_in_ok (L := [(259, 12, 0, 0, false), (262, 12, 34, 0, false)]) (f := mj_pF ic_P 12123) (by decide +kernel)) (fun _ _ h => by cases h) (pm_inL_ok (L := [(982, 7199)]) (f := mj_pL ic_P 12123) (by decide +kernel)) (fun _ _ h => by cases h) rfl rfl ⟨by decide, rfl⟩ pm_mL (pj_as_all (p := pm_Cl 2 12123 ie_X12_comes.1 lf (pm_OK lf pm_rL)) (List.forall_mem_cons.mpr ⟨fun _ _ lv st z K a hK h => pc_X12_isIn hT (by decide) (ix := 568) rfl rfl hK h, (List.forall_mem_cons.mpr ⟨fun _ _ lv st z K a hK h => pc_X12_comesAt hT (by decide) (ix := 661) rfl rfl hK h, (fun _ h => by cases h)⟩)⟩)) (fun _ h => by cases h)
set_option maxRecDepth 100000 in
theorem pb_X12_comes : pm_bks ie_X12_comes.1.2.2.2.2 pk_X12_comes = true := by decide +kernel
set_option maxRecDepth 100000 in
theorem pg_X12_comes_30 {lf : pj_Z → mj_M} (hT : pj_Lt pj_TR lf) : ∀ (a1 : Int32) (b1 : Int32) (s : Nat → Int32) (l : Nat → Int64) (x : Nat → Int32) (y : Nat → Int64) (a : Int64 × pj_Z), pl_X12_comes_30 a1 b1 s l x y = some a → pm_Gd 2 12123 ie_X12_comes.1 pm_rL lf 30 [(0, .ref 124), (1, .int a1)] [.int b1, .ref 124] (s, l, x, y) a := by
  intro a1 b1 s l x y a h
  exact pj_bl_ok (pz_X12_comes hT) (fun t lv st z hd h => pj_rn_ok (pz_X12_comes hT) (pm_bks_ok pb_X12_comes) (fun _ _ h => by cases h) 60 t lv st z hd h) [(30, .putfield 259, 3), (33, .aload_n 0, 1), (34, .getfield 259, 3), (37, .ifCond .le 7, 3)] 30 [(0, pj_O (124, 0)), (1, pj_I a1)] [pj_I b1, pj_O (124, 0)] (s, l, x, y) (pm_bks_ok pb_X12_comes _ _ rfl) (pm_ndb_ok rfl) ((pq_X12_comes_30  a1 b1 s l x y).symm.trans h)
set_option maxRecDepth 100000 in
theorem pm_X12_comes {lf : pj_Z → mj_M} (hT : pj_Lt pj_TR lf) (a1 : Int32) (s : Nat → Int32) (l : Nat → Int64) (x : Nat → Int32) (y : Nat → Int64) (a : Int64 × pj_Z) (h : pf_X12_comes a1 s l x y = some a) : mj_R ic_P 3 12123 [.ref 124, .int a1] (lf (s, l, x, y)) (pm_rL a.1) (lf a.2) := by
  refine pm_main (Y := ie_X12_comes.1) rfl (Nat.le_of_ble_eq_true rfl) ?_
  exact pj_bl_ok (pz_X12_comes hT) (fun t lv st z hd h => pj_rn_ok (pz_X12_comes hT) (pm_bks_ok pb_X12_comes) (pj_as_all (p := pm_Ex 2 12123 ie_X12_comes.1 pm_rL lf a) (List.forall_mem_cons.mpr ⟨pu_X12_comes_30 _ (fun c0 c1 s l x y h => pg_X12_comes_30 hT c0 c1 s l x y _ h), (fun _ h => by cases h)⟩)) 60 t lv st z hd h) [(0, .aload_n 0, 1), (1, .iload_n 1, 1), (2, .i2l, 1), (3, .lconst 0, 1), (4, .ldc2_w 982, 3), (7, .invokestatic 568, 3), (10, .ifCond .ne 7, 3)] 0 [(0, pj_O (124, 0)), (1, pj_I a1)] [] (s, l, x, y) (pm_bks_ok pb_X12_comes _ _ rfl) (pm_ndb_ok rfl) ((pq_X12_comes_m a1 s l x y).symm.trans h)
abbrev ph_X12_comes {A : Type} : List pj_V → pj_Z → (List pj_V → pj_Z → Option A) → Option A := fun st z K => pj_pi st fun a1 st => pj_pr st 124 0 fun st => pj_ps st (pj_b (pf_X12_comes a1 z.1 z.2.1 z.2.2.1 z.2.2.2) fun r s l x y => K (pj_L r :: st) (s, l, x, y))
set_option maxRecDepth 100000 in
theorem pc_X12_comes {A : Type} {OK : A → Option Value → mj_M → Prop} {d j pc ix : Nat} {Y : mj_Y} {lf : pj_Z → mj_M} (hT : pj_Lt pj_TR lf) (hd : 3 ≤ d) (hl : mj_lk Y.2.2.2.2 pc = some (.invokevirtual ix, 3)) (hg : mj_pG ic_P j ix = some (12123, 1, some 12)) {lv : List (Nat × Value)} {st : List pj_V} {z : pj_Z} {K : List pj_V → pj_Z → Option A} {a : A} (hK : ∀ st z, K st z = some a → pj_Gd ic_P (mj_R ic_P d) j Y OK lf (pc + 3) lv (pj_es st) z a) (h : ph_X12_comes st z K = some a) : pj_Gd ic_P (mj_R ic_P d) j Y OK lf pc lv (pj_es st) z a := by
  obtain ⟨a1, r1, e1, h⟩ := pj_pi_inv h
  obtain ⟨r0, e0, h⟩ := pj_pr_inv h
  obtain ⟨hs, h⟩ := pj_ps_inv h
  obtain ⟨q, hq, h⟩ := pj_b_inv h
  exact pm_cv (o := 124) hl hg [.int a1] rfl (by rw [e1, e0]; rfl) hs (by decide) ((hT.2 124 _ rfl).1.2 z 0 (by decide)) (pm_rL q.1) hd (pm_X12_comes hT a1 z.1 z.2.1 z.2.2.1 z.2.2.2 q hq) rfl (hK _ _ h)
abbrev px_X12_mayHold : pj_C (Int32 × pj_Z) := (pj_TR, (pj_as [(456, 12, 89, 3, false), (477, 12, 96, 3, false), (984, 12, 136, 0, false), (990, 12, 135, 0, false)]), (fun _ => none), (fun _ => none), (fun _ => none), ic_X, 1, 2, pj_mI, (pj_as [(19, ph_X12_braking)]), fun _ => false)
abbrev pk_X12_mayHold : List (Nat × List (Nat × Instr × Nat)) := [(0, [(0, .aload_n 0, 1), (1, .getfield 990, 3), (4, .sipush 3000, 3), (7, .if_icmp .lt 36, 3)]), (10, [(10, .aload_n 0, 1), (11, .getfield 984, 3), (14, .iconst 3, 1), (15, .if_icmp .lt 28, 3)]), (18, [(18, .aload_n 0, 1), (19, .invokevirtual 1000, 3), (22, .ifCond .ne 21, 3)]), (25, [(25, .aload_n 0, 1), (26, .getfield 456, 3), (29, .ifCond .ne 14, 3)]), (32, [(32, .aload_n 0, 1), (33, .getfield 477, 3), (36, .ifCond .ne 7, 3)]), (39, [(39, .iconst 1, 1), (40, .goto 4, 3)]), (43, [(43, .iconst 0, 1)]), (44, [(44, .ireturn, 1)])]
set_option maxRecDepth 100000 in
theorem pq_X12_mayHold_m  (s : Nat → Int32) (l : Nat → Int64) (x : Nat → Int32) (y : Nat → Int64) : pf_X12_mayHold  s l x y = pj_bl px_X12_mayHold (pj_rn px_X12_mayHold (pj_as pk_X12_mayHold) (fun _ => none) 60) [(0, .aload_n 0, 1), (1, .getfield 990, 3), (4, .sipush 3000, 3), (7, .if_icmp .lt 36, 3)] 0 [(0, pj_O (124, 0))] [] (s, l, x, y) := rfl
set_option maxRecDepth 100000 in
theorem pz_X12_mayHold {lf : pj_Z → mj_M} (hT : pj_Lt pj_TR lf) : pj_Cok ic_P (mj_R ic_P 1) 12127 ie_X12_mayHold.1 (pm_OK lf pm_rI) lf px_X12_mayHold := by
  exact pm_cok (c := px_X12_mayHold) hT (pm_in_ok (L := [(456, 12, 89, 3, false), (477, 12, 96, 3, false), (984, 12, 136, 0, false), (990, 12, 135, 0, false)]) (f := mj_pF ic_P 12127) (by decide +kernel)) (fun _ _ h => by cases h) (fun _ _ h => by cases h) (fun _ _ h => by cases h) rfl rfl ⟨by decide, rfl⟩ pm_mI (pj_as_all (p := pm_Cl 1 12127 ie_X12_mayHold.1 lf (pm_OK lf pm_rI)) (List.forall_mem_cons.mpr ⟨fun _ _ lv st z K a hK h => pc_X12_braking hT (by decide) (ix := 1000) rfl rfl hK h, (fun _ h => by cases h)⟩)) (fun _ h => by cases h)
set_option maxRecDepth 100000 in
theorem pb_X12_mayHold : pm_bks ie_X12_mayHold.1.2.2.2.2 pk_X12_mayHold = true := by decide +kernel
set_option maxRecDepth 100000 in
theorem pm_X12_mayHold {lf : pj_Z → mj_M} (hT : pj_Lt pj_TR lf)  (s : Nat → Int32) (l : Nat → Int64) (x : Nat → Int32) (y : Nat → Int64) (a : Int32 × pj_Z) (h : pf_X12_mayHold  s l x y = some a) : mj_R ic_P 2 12127 [.ref 124] (lf (s, l, x, y)) (pm_rI a.1) (lf a.2) := by
  refine pm_main (Y := ie_X12_mayHold.1) rfl (Nat.le_of_ble_eq_true rfl) ?_
  exact pj_bl_ok (pz_X12_mayHold hT) (fun t lv st z hd h => pj_rn_ok (pz_X12_mayHold hT) (pm_bks_ok pb_X12_mayHold) (fun _ _ h => by cases h) 60 t lv st z hd h) [(0, .aload_n 0, 1), (1, .getfield 990, 3), (4, .sipush 3000, 3), (7, .if_icmp .lt 36, 3)] 0 [(0, pj_O (124, 0))] [] (s, l, x, y) (pm_bks_ok pb_X12_mayHold _ _ rfl) (pm_ndb_ok rfl) ((pq_X12_mayHold_m  s l x y).symm.trans h)
abbrev ph_X12_mayHold {A : Type} : List pj_V → pj_Z → (List pj_V → pj_Z → Option A) → Option A := fun st z K => pj_pr st 124 0 fun st => pj_ps st (pj_b (pf_X12_mayHold  z.1 z.2.1 z.2.2.1 z.2.2.2) fun r s l x y => K (pj_I r :: st) (s, l, x, y))
set_option maxRecDepth 100000 in
theorem pc_X12_mayHold {A : Type} {OK : A → Option Value → mj_M → Prop} {d j pc ix : Nat} {Y : mj_Y} {lf : pj_Z → mj_M} (hT : pj_Lt pj_TR lf) (hd : 2 ≤ d) (hl : mj_lk Y.2.2.2.2 pc = some (.invokevirtual ix, 3)) (hg : mj_pG ic_P j ix = some (12127, 0, some 12)) {lv : List (Nat × Value)} {st : List pj_V} {z : pj_Z} {K : List pj_V → pj_Z → Option A} {a : A} (hK : ∀ st z, K st z = some a → pj_Gd ic_P (mj_R ic_P d) j Y OK lf (pc + 3) lv (pj_es st) z a) (h : ph_X12_mayHold st z K = some a) : pj_Gd ic_P (mj_R ic_P d) j Y OK lf pc lv (pj_es st) z a := by
  obtain ⟨r0, e0, h⟩ := pj_pr_inv h
  obtain ⟨hs, h⟩ := pj_ps_inv h
  obtain ⟨q, hq, h⟩ := pj_b_inv h
  exact pm_cv (o := 124) hl hg [] rfl (by rw [e0]; rfl) hs (by decide) ((hT.2 124 _ rfl).1.2 z 0 (by decide)) (pm_rI q.1) hd (pm_X12_mayHold hT  z.1 z.2.1 z.2.2.1 z.2.2.2 q hq) rfl (hK _ _ h)

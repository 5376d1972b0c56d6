/-! METHODS 0, printed by gen_meth.py -/
abbrev pe_J7_fill_53178_5 (f : Int32 → Int32 → Int32 → pj_F (Unit × pj_Z)) : pj_K (Unit × pj_Z) := fun lv st z => pj_xr lv 0 60 0 <| pj_xi lv 1 fun a1 => pj_xi lv 2 fun a2 => pj_xi lv 3 fun a3 => pj_pe st (f a1 a2 a3 z.1 z.2.1 z.2.2.1 z.2.2.2)
abbrev px_J7_fill_53178 : pj_C (Unit × pj_Z) := ((pj_as [(60, 100, 8, 3, 1, false, 4000, [])]), (fun _ => none), (fun _ => none), (fun _ => none), (fun _ => none), ic_X, 4, 0, pj_mU, (fun _ => none), fun _ => false)
abbrev pk_J7_fill_53178 : List (Nat × List (Nat × Instr × Nat)) := [(0, [(0, .iconst 0, 1), (1, .istore_n 2, 1), (2, .aload_n 0, 1), (3, .arraylength, 1), (4, .istore_n 3, 1)]), (5, [(5, .iload_n 2, 1), (6, .iload_n 3, 1), (7, .if_icmp .ge 13, 3)]), (10, [(10, .aload_n 0, 1), (11, .iload_n 2, 1), (12, .iload_n 1, 1), (13, .iastore, 1), (14, .iinc 2 1, 3), (17, .goto (-12), 3)]), (20, [(20, .return_, 1)])]
set_option maxRecDepth 100000 in
theorem pq_J7_fill_53178_5 (fu : Nat)  (n : Nat) (a1 : Int32) (a2 : Int32) (a3 : Int32) (s : Nat → Int32) (l : Nat → Int64) (x : Nat → Int32) (y : Nat → Int64) : pl_J7_fill_53178_5 fu (n + 1) a1 a2 a3 s l x y = pj_bl px_J7_fill_53178 (pj_rn px_J7_fill_53178 (pj_as pk_J7_fill_53178) (pj_as [(5, pe_J7_fill_53178_5 (pl_J7_fill_53178_5 fu n))]) 60) [(5, .iload_n 2, 1), (6, .iload_n 3, 1), (7, .if_icmp .ge 13, 3)] 5 [(0, pj_O (60, 0)), (1, pj_I a1), (2, pj_I a2), (3, pj_I a3)] [] (s, l, x, y) := rfl
set_option maxRecDepth 100000 in
theorem pq_J7_fill_53178_m (fu : Nat)  (a1 : Int32) (s : Nat → Int32) (l : Nat → Int64) (x : Nat → Int32) (y : Nat → Int64) : po_J7_fill_53178 fu a1 s l x y = pj_bl px_J7_fill_53178 (pj_rn px_J7_fill_53178 (pj_as pk_J7_fill_53178) (pj_as [(5, pe_J7_fill_53178_5 (pl_J7_fill_53178_5 fu fu))]) 60) [(0, .iconst 0, 1), (1, .istore_n 2, 1), (2, .aload_n 0, 1), (3, .arraylength, 1), (4, .istore_n 3, 1)] 0 [(0, pj_O (60, 0)), (1, pj_I a1)] [] (s, l, x, y) := rfl
theorem pu_J7_fill_53178_5 {lf : pj_Z → mj_M} {a : Unit × pj_Z} (f : Int32 → Int32 → Int32 → pj_F (Unit × pj_Z)) (hf : ∀ (a1 : Int32) (a2 : Int32) (a3 : Int32) (s : Nat → Int32) (l : Nat → Int64) (x : Nat → Int32) (y : Nat → Int64), f a1 a2 a3 s l x y = some a → pm_Gd 0 27000 ie_J7_fill_53178.1 pm_rU lf 5 [(0, .ref 60), (1, .int a1), (2, .int a2), (3, .int a3)] [] (s, l, x, y) a) : pm_Ex 0 27000 ie_J7_fill_53178.1 pm_rU lf a 5 (pe_J7_fill_53178_5 f) := by
  intro lv st z hd h
  obtain ⟨g0, h⟩ := pj_xr_inv h
  obtain ⟨a1, g1, h⟩ := pj_xi_inv h
  obtain ⟨a2, g2, h⟩ := pj_xi_inv h
  obtain ⟨a3, g3, h⟩ := pj_xi_inv h
  obtain ⟨e9, h⟩ := pj_pe_inv h
  rw [e9]
  exact mj_wp_sub (mj_sub_cons g0 (mj_sub_cons g1 (mj_sub_cons g2 (mj_sub_cons g3 (mj_sub_nil hd))))) (hf _ _ _ _ _ _ _ h)
set_option maxRecDepth 100000 in
theorem pz_J7_fill_53178 {lf : pj_Z → mj_M} (hT : pj_Lt pj_TC lf) : pj_Cok ic_P (mj_R ic_P 0) 27000 ie_J7_fill_53178.1 (pm_OK lf pm_rU) lf px_J7_fill_53178 := by
  exact pm_cok (c := px_J7_fill_53178) (pm_part hT (pj_as_all (p := fun b e => pj_TC b = some e) (List.forall_mem_cons.mpr ⟨rfl, (fun _ h => by cases h)⟩))) (fun _ _ h => by cases h) (fun _ _ h => by cases h) (fun _ _ h => by cases h) (fun _ _ h => by cases h) rfl rfl ⟨by decide, rfl⟩ pm_mU (fun _ _ h => by cases h) (fun _ h => by cases h)
set_option maxRecDepth 100000 in
theorem pb_J7_fill_53178 : pm_bks ie_J7_fill_53178.1.2.2.2.2 pk_J7_fill_53178 = true := by decide +kernel
set_option maxRecDepth 100000 in
theorem pg_J7_fill_53178_5 {fu : Nat} {lf : pj_Z → mj_M} (hT : pj_Lt pj_TC lf) : ∀ (n : Nat), ∀ (a1 : Int32) (a2 : Int32) (a3 : Int32) (s : Nat → Int32) (l : Nat → Int64) (x : Nat → Int32) (y : Nat → Int64) (a : Unit × pj_Z), pl_J7_fill_53178_5 fu n a1 a2 a3 s l x y = some a → pm_Gd 0 27000 ie_J7_fill_53178.1 pm_rU lf 5 [(0, .ref 60), (1, .int a1), (2, .int a2), (3, .int a3)] [] (s, l, x, y) a := by
  intro n
  induction n with
  | zero => intro a1 a2 a3 s l x y a h; cases (show (none : Option (Unit × pj_Z)) = some a from h)
  | succ n ih =>
    intro a1 a2 a3 s l x y a h
    exact pm_run ((pq_J7_fill_53178_5 fu n a1 a2 a3 s l x y).symm.trans h) (pz_J7_fill_53178 hT) (pm_bks_ok pb_J7_fill_53178) (pm_bks_ok pb_J7_fill_53178 _ _ rfl) (pm_ndb_ok rfl) (pj_as_all (p := pm_Ex 0 27000 ie_J7_fill_53178.1 pm_rU lf a) (List.forall_mem_cons.mpr ⟨pu_J7_fill_53178_5 _ (fun c0 c1 c2 s l x y h => ih c0 c1 c2 s l x y _ h), (fun _ h => by cases h)⟩))
set_option maxRecDepth 100000 in
theorem pm_J7_fill_53178 {lf : pj_Z → mj_M} (hT : pj_Lt pj_TC lf) (a1 : Int32) (s : Nat → Int32) (l : Nat → Int64) (x : Nat → Int32) (y : Nat → Int64) (a : Unit × pj_Z) (h : pf_J7_fill_53178 a1 s l x y = some a) : mj_R ic_P 1 27000 [.ref 60, .int a1] (lf (s, l, x, y)) (pm_rU a.1) (lf a.2) := by
  refine pm_main (Y := ie_J7_fill_53178.1) rfl (Nat.le_of_ble_eq_true rfl) ?_
  exact pm_run ((pq_J7_fill_53178_m 1000 a1 s l x y).symm.trans h) (pz_J7_fill_53178 hT) (pm_bks_ok pb_J7_fill_53178) (pm_bks_ok pb_J7_fill_53178 _ _ rfl) (pm_ndb_ok rfl) (pj_as_all (p := pm_Ex 0 27000 ie_J7_fill_53178.1 pm_rU lf a) (List.forall_mem_cons.mpr ⟨pu_J7_fill_53178_5 _ (fun c0 c1 c2 s l x y h => pg_J7_fill_53178_5 hT _ c0 c1 c2 s l x y _ h), (fun _ h => by cases h)⟩))
abbrev ph_J7_fill_53178 {A : Type} : List pj_V → pj_Z → (List pj_V → pj_Z → Option A) → Option A := fun st z K => pj_pi st fun a1 st => pj_pr st 60 0 fun st => pj_ps st (pj_b (pf_J7_fill_53178 a1 z.1 z.2.1 z.2.2.1 z.2.2.2) fun r s l x y => K st (s, l, x, y))
set_option maxRecDepth 100000 in
theorem pc_J7_fill_53178 {A : Type} {OK : A → Option Value → mj_M → Prop} {d j pc ix : Nat} {Y : mj_Y} {lf : pj_Z → mj_M} (hT : pj_Lt pj_TC lf) (hd : 1 ≤ d) (hl : mj_lk Y.2.2.2.2 pc = some (.invokestatic ix, 3)) (hg : mj_pG ic_P j ix = some (27000, 2, none)) {lv : List (Nat × Value)} {st : List pj_V} {z : pj_Z} {K : List pj_V → pj_Z → Option A} {a : A} (hK : ∀ st z, K st z = some a → pj_Gd ic_P (mj_R ic_P d) j Y OK lf (pc + 3) lv (pj_es st) z a) (h : ph_J7_fill_53178 st z K = some a) : pj_Gd ic_P (mj_R ic_P d) j Y OK lf pc lv (pj_es st) z a := by
  obtain ⟨a1, r1, e1, h⟩ := pj_pi_inv h
  obtain ⟨r0, e0, h⟩ := pj_pr_inv h
  obtain ⟨hs, h⟩ := pj_ps_inv h
  obtain ⟨q, hq, h⟩ := pj_b_inv h
  exact pm_cs hl hg [.ref 60, .int a1] rfl (by rw [e1, e0]; rfl) hs (pm_rU q.1) hd (pm_J7_fill_53178 hT a1 z.1 z.2.1 z.2.2.1 z.2.2.2 q hq) rfl (hK _ _ h)
abbrev pe_J7_fill_53178_v1_5 (f : Nat → Int32 → Int32 → Int32 → pj_F (Unit × pj_Z)) : pj_K (Unit × pj_Z) := fun lv st z => pj_xw lv 0 60 fun a0 => pj_xi lv 1 fun a1 => pj_xi lv 2 fun a2 => pj_xi lv 3 fun a3 => pj_pe st (f a0 a1 a2 a3 z.1 z.2.1 z.2.2.1 z.2.2.2)
abbrev px_J7_fill_53178_v1 : pj_C (Unit × pj_Z) := ((pj_as [(60, 100, 8, 3, 1, false, 4000, [])]), (fun _ => none), (fun _ => none), (fun _ => none), (fun _ => none), ic_X, 4, 0, pj_mU, (fun _ => none), fun _ => false)
abbrev pk_J7_fill_53178_v1 : List (Nat × List (Nat × Instr × Nat)) := [(0, [(0, .iconst 0, 1), (1, .istore_n 2, 1), (2, .aload_n 0, 1), (3, .arraylength, 1), (4, .istore_n 3, 1)]), (5, [(5, .iload_n 2, 1), (6, .iload_n 3, 1), (7, .if_icmp .ge 13, 3)]), (10, [(10, .aload_n 0, 1), (11, .iload_n 2, 1), (12, .iload_n 1, 1), (13, .iastore, 1), (14, .iinc 2 1, 3), (17, .goto (-12), 3)]), (20, [(20, .return_, 1)])]
set_option maxRecDepth 100000 in
theorem pq_J7_fill_53178_v1_5 (fu : Nat)  (n : Nat) (a0 : Nat) (a1 : Int32) (a2 : Int32) (a3 : Int32) (s : Nat → Int32) (l : Nat → Int64) (x : Nat → Int32) (y : Nat → Int64) : pl_J7_fill_53178_v1_5 fu (n + 1) a0 a1 a2 a3 s l x y = pj_bl px_J7_fill_53178_v1 (pj_rn px_J7_fill_53178_v1 (pj_as pk_J7_fill_53178_v1) (pj_as [(5, pe_J7_fill_53178_v1_5 (pl_J7_fill_53178_v1_5 fu n))]) 60) [(5, .iload_n 2, 1), (6, .iload_n 3, 1), (7, .if_icmp .ge 13, 3)] 5 [(0, pj_W (60, a0)), (1, pj_I a1), (2, pj_I a2), (3, pj_I a3)] [] (s, l, x, y) := rfl
set_option maxRecDepth 100000 in
theorem pq_J7_fill_53178_v1_m (fu : Nat)  (a0 : Nat) (a1 : Int32) (s : Nat → Int32) (l : Nat → Int64) (x : Nat → Int32) (y : Nat → Int64) : po_J7_fill_53178_v1 fu a0 a1 s l x y = pj_bl px_J7_fill_53178_v1 (pj_rn px_J7_fill_53178_v1 (pj_as pk_J7_fill_53178_v1) (pj_as [(5, pe_J7_fill_53178_v1_5 (pl_J7_fill_53178_v1_5 fu fu))]) 60) [(0, .iconst 0, 1), (1, .istore_n 2, 1), (2, .aload_n 0, 1), (3, .arraylength, 1), (4, .istore_n 3, 1)] 0 [(0, pj_W (60, a0)), (1, pj_I a1)] [] (s, l, x, y) := rfl
theorem pu_J7_fill_53178_v1_5 {lf : pj_Z → mj_M} {a : Unit × pj_Z} (f : Nat → Int32 → Int32 → Int32 → pj_F (Unit × pj_Z)) (hf : ∀ (a0 : Nat) (a1 : Int32) (a2 : Int32) (a3 : Int32) (s : Nat → Int32) (l : Nat → Int64) (x : Nat → Int32) (y : Nat → Int64), f a0 a1 a2 a3 s l x y = some a → pm_Gd 0 27000 ie_J7_fill_53178.1 pm_rU lf 5 [(0, .ref (60 + a0)), (1, .int a1), (2, .int a2), (3, .int a3)] [] (s, l, x, y) a) : pm_Ex 0 27000 ie_J7_fill_53178.1 pm_rU lf a 5 (pe_J7_fill_53178_v1_5 f) := by
  intro lv st z hd h
  obtain ⟨a0, g0, h⟩ := pj_xw_inv h
  obtain ⟨a1, g1, h⟩ := pj_xi_inv h
  obtain ⟨a2, g2, h⟩ := pj_xi_inv h
  obtain ⟨a3, g3, h⟩ := pj_xi_inv h
  obtain ⟨e9, h⟩ := pj_pe_inv h
  rw [e9]
  exact mj_wp_sub (mj_sub_cons g0 (mj_sub_cons g1 (mj_sub_cons g2 (mj_sub_cons g3 (mj_sub_nil hd))))) (hf _ _ _ _ _ _ _ _ h)
set_option maxRecDepth 100000 in
theorem pz_J7_fill_53178_v1 {lf : pj_Z → mj_M} (hT : pj_Lt pj_TC lf) : pj_Cok ic_P (mj_R ic_P 0) 27000 ie_J7_fill_53178.1 (pm_OK lf pm_rU) lf px_J7_fill_53178_v1 := by
  exact pm_cok (c := px_J7_fill_53178_v1) (pm_part hT (pj_as_all (p := fun b e => pj_TC b = some e) (List.forall_mem_cons.mpr ⟨rfl, (fun _ h => by cases h)⟩))) (fun _ _ h => by cases h) (fun _ _ h => by cases h) (fun _ _ h => by cases h) (fun _ _ h => by cases h) rfl rfl ⟨by decide, rfl⟩ pm_mU (fun _ _ h => by cases h) (fun _ h => by cases h)
set_option maxRecDepth 100000 in
theorem pb_J7_fill_53178_v1 : pm_bks ie_J7_fill_53178.1.2.2.2.2 pk_J7_fill_53178_v1 = true := by decide +kernel
set_option maxRecDepth 100000 in
theorem pg_J7_fill_53178_v1_5 {fu : Nat} {lf : pj_Z → mj_M} (hT : pj_Lt pj_TC lf) : ∀ (n : Nat), ∀ (a0 : Nat) (a1 : Int32) (a2 : Int32) (a3 : Int32) (s : Nat → Int32) (l : Nat → Int64) (x : Nat → Int32) (y : Nat → Int64) (a : Unit × pj_Z), pl_J7_fill_53178_v1_5 fu n a0 a1 a2 a3 s l x y = some a → pm_Gd 0 27000 ie_J7_fill_53178.1 pm_rU lf 5 [(0, .ref (60 + a0)), (1, .int a1), (2, .int a2), (3, .int a3)] [] (s, l, x, y) a := by
  intro n
  induction n with
  | zero => intro a0 a1 a2 a3 s l x y a h; cases (show (none : Option (Unit × pj_Z)) = some a from h)
  | succ n ih =>
    intro a0 a1 a2 a3 s l x y a h
    exact pm_run ((pq_J7_fill_53178_v1_5 fu n a0 a1 a2 a3 s l x y).symm.trans h) (pz_J7_fill_53178_v1 hT) (pm_bks_ok pb_J7_fill_53178_v1) (pm_bks_ok pb_J7_fill_53178_v1 _ _ rfl) (pm_ndb_ok rfl) (pj_as_all (p := pm_Ex 0 27000 ie_J7_fill_53178.1 pm_rU lf a) (List.forall_mem_cons.mpr ⟨pu_J7_fill_53178_v1_5 _ (fun c0 c1 c2 c3 s l x y h => ih c0 c1 c2 c3 s l x y _ h), (fun _ h => by cases h)⟩))
set_option maxRecDepth 100000 in
theorem pm_J7_fill_53178_v1 {lf : pj_Z → mj_M} (hT : pj_Lt pj_TC lf) (a0 : Nat) (a1 : Int32) (s : Nat → Int32) (l : Nat → Int64) (x : Nat → Int32) (y : Nat → Int64) (a : Unit × pj_Z) (h : pf_J7_fill_53178_v1 a0 a1 s l x y = some a) : mj_R ic_P 1 27000 [.ref (60 + a0), .int a1] (lf (s, l, x, y)) (pm_rU a.1) (lf a.2) := by
  refine pm_main (Y := ie_J7_fill_53178.1) rfl (Nat.le_of_ble_eq_true rfl) ?_
  exact pm_run ((pq_J7_fill_53178_v1_m 1000 a0 a1 s l x y).symm.trans h) (pz_J7_fill_53178_v1 hT) (pm_bks_ok pb_J7_fill_53178_v1) (pm_bks_ok pb_J7_fill_53178_v1 _ _ rfl) (pm_ndb_ok rfl) (pj_as_all (p := pm_Ex 0 27000 ie_J7_fill_53178.1 pm_rU lf a) (List.forall_mem_cons.mpr ⟨pu_J7_fill_53178_v1_5 _ (fun c0 c1 c2 c3 s l x y h => pg_J7_fill_53178_v1_5 hT _ c0 c1 c2 c3 s l x y _ h), (fun _ h => by cases h)⟩))
abbrev ph_J7_fill_53178_v1 {A : Type} : List pj_V → pj_Z → (List pj_V → pj_Z → Option A) → Option A := fun st z K => pj_pi st fun a1 st => pj_pw st 60 fun a0 st => pj_ps st (pj_b (pf_J7_fill_53178_v1 a0 a1 z.1 z.2.1 z.2.2.1 z.2.2.2) fun r s l x y => K st (s, l, x, y))
set_option maxRecDepth 100000 in
theorem pc_J7_fill_53178_v1 {A : Type} {OK : A → Option Value → mj_M → Prop} {d j pc ix : Nat} {Y : mj_Y} {lf : pj_Z → mj_M} (hT : pj_Lt pj_TC lf) (hd : 1 ≤ d) (hl : mj_lk Y.2.2.2.2 pc = some (.invokestatic ix, 3)) (hg : mj_pG ic_P j ix = some (27000, 2, none)) {lv : List (Nat × Value)} {st : List pj_V} {z : pj_Z} {K : List pj_V → pj_Z → Option A} {a : A} (hK : ∀ st z, K st z = some a → pj_Gd ic_P (mj_R ic_P d) j Y OK lf (pc + 3) lv (pj_es st) z a) (h : ph_J7_fill_53178_v1 st z K = some a) : pj_Gd ic_P (mj_R ic_P d) j Y OK lf pc lv (pj_es st) z a := by
  obtain ⟨a1, r1, e1, h⟩ := pj_pi_inv h
  obtain ⟨a0, r0, e0, h⟩ := pj_pw_inv h
  obtain ⟨hs, h⟩ := pj_ps_inv h
  obtain ⟨q, hq, h⟩ := pj_b_inv h
  exact pm_cs hl hg [.ref (60 + a0), .int a1] rfl (by rw [e1, e0]; rfl) hs (pm_rU q.1) hd (pm_J7_fill_53178_v1 hT a0 a1 z.1 z.2.1 z.2.2.1 z.2.2.2 q hq) rfl (hK _ _ h)
abbrev pe_X2_forgetPlans_2 (f : Int32 → pj_F (Unit × pj_Z)) : pj_K (Unit × pj_Z) := fun lv st z => pj_xr lv 0 58 0 <| pj_xi lv 1 fun a1 => pj_pe st (f a1 z.1 z.2.1 z.2.2.1 z.2.2.2)
abbrev px_X2_forgetPlans : pj_C (Unit × pj_Z) := ((pj_as [(58, 2, 19, 1, 0, true, 0, [(0, 19), (0, 20), (1, 4), (1, 5), (1, 6), (1, 7), (0, 21), (0, 22), (0, 23), (0, 24), (0, 25), (2, 59), (2, 63), (0, 26), (1, 8), (1, 9), (1, 10), (0, 27), (0, 28)]), (59, 103, 3, 1, 0, true, 60, [])]), (pj_as [(11, 2, 11, 2, true), (81, 2, 14, 1, false), (84, 2, 15, 1, false)]), (fun _ => none), (pj_as [(79, (-1))]), (fun _ => none), ic_X, 2, 0, pj_mU, (pj_as [(14, ph_J7_fill_53178_v1)]), fun _ => false)
abbrev pk_X2_forgetPlans : List (Nat × List (Nat × Instr × Nat)) := [(0, [(0, .iconst 0, 1), (1, .istore_n 1, 1)]), (2, [(2, .iload_n 1, 1), (3, .iconst 2, 1), (4, .if_icmp .gt 19, 3)]), (7, [(7, .aload_n 0, 1), (8, .getfield 11, 3), (11, .iload_n 1, 1), (12, .aaload, 1), (13, .iconst (-1), 1), (14, .invokestatic 58, 3), (17, .iinc 1 1, 3), (20, .goto (-18), 3)]), (23, [(23, .aload_n 0, 1), (24, .ldc2_w 79, 3), (27, .putfield 81, 3), (30, .aload_n 0, 1), (31, .ldc2_w 79, 3), (34, .putfield 84, 3), (37, .return_, 1)])]
set_option maxRecDepth 100000 in
theorem pq_X2_forgetPlans_2 (fu : Nat)  (n : Nat) (a1 : Int32) (s : Nat → Int32) (l : Nat → Int64) (x : Nat → Int32) (y : Nat → Int64) : pl_X2_forgetPlans_2 fu (n + 1) a1 s l x y = pj_bl px_X2_forgetPlans (pj_rn px_X2_forgetPlans (pj_as pk_X2_forgetPlans) (pj_as [(2, pe_X2_forgetPlans_2 (pl_X2_forgetPlans_2 fu n))]) 60) [(2, .iload_n 1, 1), (3, .iconst 2, 1), (4, .if_icmp .gt 19, 3)] 2 [(0, pj_O (58, 0)), (1, pj_I a1)] [] (s, l, x, y) := rfl
set_option maxRecDepth 100000 in
theorem pq_X2_forgetPlans_m (fu : Nat)   (s : Nat → Int32) (l : Nat → Int64) (x : Nat → Int32) (y : Nat → Int64) : po_X2_forgetPlans fu  s l x y = pj_bl px_X2_forgetPlans (pj_rn px_X2_forgetPlans (pj_as pk_X2_forgetPlans) (pj_as [(2, pe_X2_forgetPlans_2 (pl_X2_forgetPlans_2 fu fu))]) 60) [(0, .iconst 0, 1), (1, .istore_n 1, 1)] 0 [(0, pj_O (58, 0))] [] (s, l, x, y) := rfl
theorem pu_X2_forgetPlans_2 {lf : pj_Z → mj_M} {a : Unit × pj_Z} (f : Int32 → pj_F (Unit × pj_Z)) (hf : ∀ (a1 : Int32) (s : Nat → Int32) (l : Nat → Int64) (x : Nat → Int32) (y : Nat → Int64), f a1 s l x y = some a → pm_Gd 1 2002 ie_X2_forgetPlans.1 pm_rU lf 2 [(0, .ref 58), (1, .int a1)] [] (s, l, x, y) a) : pm_Ex 1 2002 ie_X2_forgetPlans.1 pm_rU lf a 2 (pe_X2_forgetPlans_2 f) := by
  intro lv st z hd h
  obtain ⟨g0, h⟩ := pj_xr_inv h
  obtain ⟨a1, g1, h⟩ := pj_xi_inv h
  obtain ⟨e9, h⟩ := pj_pe_inv h
  rw [e9]
  exact mj_wp_sub (mj_sub_cons g0 (mj_sub_cons g1 (mj_sub_nil hd))) (hf _ _ _ _ _ h)
set_option maxRecDepth 100000 in
theorem pz_X2_forgetPlans {lf : pj_Z → mj_M} (hT : pj_Lt pj_TC lf) : pj_Cok ic_P (mj_R ic_P 1) 2002 ie_X2_forgetPlans.1 (pm_OK lf pm_rU) lf px_X2_forgetPlans := by
  exact pm_cok (c := px_X2_forgetPlans) (pm_part hT (pj_as_all (p := fun b e => pj_TC b = some e) (List.forall_mem_cons.mpr ⟨rfl, (List.forall_mem_cons.mpr ⟨rfl, (fun _ h => by cases h)⟩)⟩))) (pm_in_ok (L := [(11, 2, 11, 2, true), (81, 2, 14, 1, false), (84, 2, 15, 1, false)]) (f := mj_pF ic_P 2002) (by decide +kernel)) (fun _ _ h => by cases h) (pm_inL_ok (L := [(79, (-1))]) (f := mj_pL ic_P 2002) (by decide +kernel)) (fun _ _ h => by cases h) rfl rfl ⟨by decide, rfl⟩ pm_mU (pj_as_all (p := pm_Cl 1 2002 ie_X2_forgetPlans.1 lf (pm_OK lf pm_rU)) (List.forall_mem_cons.mpr ⟨fun _ _ lv st z K a hK h => pc_J7_fill_53178_v1 hT (by decide) (ix := 58) rfl rfl hK h, (fun _ h => by cases h)⟩)) (fun _ h => by cases h)
set_option maxRecDepth 100000 in
theorem pb_X2_forgetPlans : pm_bks ie_X2_forgetPlans.1.2.2.2.2 pk_X2_forgetPlans = true := by decide +kernel
set_option maxRecDepth 100000 in
theorem pg_X2_forgetPlans_2 {fu : Nat} {lf : pj_Z → mj_M} (hT : pj_Lt pj_TC lf) : ∀ (n : Nat), ∀ (a1 : Int32) (s : Nat → Int32) (l : Nat → Int64) (x : Nat → Int32) (y : Nat → Int64) (a : Unit × pj_Z), pl_X2_forgetPlans_2 fu n a1 s l x y = some a → pm_Gd 1 2002 ie_X2_forgetPlans.1 pm_rU lf 2 [(0, .ref 58), (1, .int a1)] [] (s, l, x, y) a := by
  intro n
  induction n with
  | zero => intro a1 s l x y a h; cases (show (none : Option (Unit × pj_Z)) = some a from h)
  | succ n ih =>
    intro a1 s l x y a h
    exact pm_run ((pq_X2_forgetPlans_2 fu n a1 s l x y).symm.trans h) (pz_X2_forgetPlans hT) (pm_bks_ok pb_X2_forgetPlans) (pm_bks_ok pb_X2_forgetPlans _ _ rfl) (pm_ndb_ok rfl) (pj_as_all (p := pm_Ex 1 2002 ie_X2_forgetPlans.1 pm_rU lf a) (List.forall_mem_cons.mpr ⟨pu_X2_forgetPlans_2 _ (fun c0 s l x y h => ih c0 s l x y _ h), (fun _ h => by cases h)⟩))
set_option maxRecDepth 100000 in
theorem pm_X2_forgetPlans {lf : pj_Z → mj_M} (hT : pj_Lt pj_TC lf)  (s : Nat → Int32) (l : Nat → Int64) (x : Nat → Int32) (y : Nat → Int64) (a : Unit × pj_Z) (h : pf_X2_forgetPlans  s l x y = some a) : mj_R ic_P 2 2002 [.ref 58] (lf (s, l, x, y)) (pm_rU a.1) (lf a.2) := by
  refine pm_main (Y := ie_X2_forgetPlans.1) rfl (Nat.le_of_ble_eq_true rfl) ?_
  exact pm_run ((pq_X2_forgetPlans_m 1000  s l x y).symm.trans h) (pz_X2_forgetPlans hT) (pm_bks_ok pb_X2_forgetPlans) (pm_bks_ok pb_X2_forgetPlans _ _ rfl) (pm_ndb_ok rfl) (pj_as_all (p := pm_Ex 1 2002 ie_X2_forgetPlans.1 pm_rU lf a) (List.forall_mem_cons.mpr ⟨pu_X2_forgetPlans_2 _ (fun c0 s l x y h => pg_X2_forgetPlans_2 hT _ c0 s l x y _ h), (fun _ h => by cases h)⟩))
abbrev ph_X2_forgetPlans {A : Type} : List pj_V → pj_Z → (List pj_V → pj_Z → Option A) → Option A := fun st z K => pj_pr st 58 0 fun st => pj_ps st (pj_b (pf_X2_forgetPlans  z.1 z.2.1 z.2.2.1 z.2.2.2) fun r s l x y => K st (s, l, x, y))
set_option maxRecDepth 100000 in
theorem pc_X2_forgetPlans {A : Type} {OK : A → Option Value → mj_M → Prop} {d j pc ix : Nat} {Y : mj_Y} {lf : pj_Z → mj_M} (hT : pj_Lt pj_TC lf) (hd : 2 ≤ d) (hl : mj_lk Y.2.2.2.2 pc = some (.invokevirtual ix, 3)) (hg : mj_pG ic_P j ix = some (2002, 0, some 2)) {lv : List (Nat × Value)} {st : List pj_V} {z : pj_Z} {K : List pj_V → pj_Z → Option A} {a : A} (hK : ∀ st z, K st z = some a → pj_Gd ic_P (mj_R ic_P d) j Y OK lf (pc + 3) lv (pj_es st) z a) (h : ph_X2_forgetPlans st z K = some a) : pj_Gd ic_P (mj_R ic_P d) j Y OK lf pc lv (pj_es st) z a := by
  obtain ⟨r0, e0, h⟩ := pj_pr_inv h
  obtain ⟨hs, h⟩ := pj_ps_inv h
  obtain ⟨q, hq, h⟩ := pj_b_inv h
  exact pm_cv (o := 58) hl hg [] rfl (by rw [e0]; rfl) hs (by decide) ((hT.2 58 _ rfl).1.2 z 0 (by decide)) (pm_rU q.1) hd (pm_X2_forgetPlans hT  z.1 z.2.1 z.2.2.1 z.2.2.2 q hq) rfl (hK _ _ h)
abbrev px_X6_keepEdge : pj_C (Unit × pj_Z) := ((pj_as [(68, 6, 19, 1, 0, true, 0, [(2, 69), (2, 70), (2, 71), (2, 72), (0, 57), (0, 58), (2, 73), (2, 74), (2, 75), (2, 76), (2, 77), (2, 78), (1, 11), (0, 59), (0, 60), (0, 61), (2, 79), (2, 80), (2, 81)]), (76, 101, 200, 1, 0, true, 20000, []), (77, 100, 200, 1, 0, true, 21000, []), (78, 100, 200, 1, 0, true, 22000, [])]), (pj_as [(35, 6, 9, 2, true), (38, 6, 10, 2, true), (41, 6, 11, 2, true), (93, 6, 12, 0, false)]), (fun _ => none), (fun _ => none), (fun _ => none), ic_X, 6, 0, pj_mU, (fun _ => none), fun _ => false)
abbrev pk_X6_keepEdge : List (Nat × List (Nat × Instr × Nat)) := [(0, [(0, .aload_n 0, 1), (1, .getfield 93, 3), (4, .sipush 200, 3), (7, .irem, 1), (8, .istore 5, 2), (10, .aload_n 0, 1), (11, .getfield 35, 3), (14, .iload 5, 2), (16, .lload_n 1, 1), (17, .lastore, 1), (18, .aload_n 0, 1), (19, .getfield 38, 3), (22, .iload 5, 2), (24, .iload_n 3, 1), (25, .iastore, 1), (26, .aload_n 0, 1), (27, .getfield 41, 3), (30, .iload 5, 2), (32, .iload 4, 2), (34, .iastore, 1), (35, .aload_n 0, 1), (36, .dup, 1), (37, .getfield 93, 3), (40, .iconst 1, 1), (41, .iadd, 1), (42, .putfield 93, 3), (45, .return_, 1)])]
set_option maxRecDepth 100000 in
theorem pq_X6_keepEdge_m  (a1 : Int64) (a3 : Int32) (a4 : Int32) (s : Nat → Int32) (l : Nat → Int64) (x : Nat → Int32) (y : Nat → Int64) : pf_X6_keepEdge a1 a3 a4 s l x y = pj_bl px_X6_keepEdge (pj_rn px_X6_keepEdge (pj_as pk_X6_keepEdge) (fun _ => none) 60) [(0, .aload_n 0, 1), (1, .getfield 93, 3), (4, .sipush 200, 3), (7, .irem, 1), (8, .istore 5, 2), (10, .aload_n 0, 1), (11, .getfield 35, 3), (14, .iload 5, 2), (16, .lload_n 1, 1), (17, .lastore, 1), (18, .aload_n 0, 1), (19, .getfield 38, 3), (22, .iload 5, 2), (24, .iload_n 3, 1), (25, .iastore, 1), (26, .aload_n 0, 1), (27, .getfield 41, 3), (30, .iload 5, 2), (32, .iload 4, 2), (34, .iastore, 1), (35, .aload_n 0, 1), (36, .dup, 1), (37, .getfield 93, 3), (40, .iconst 1, 1), (41, .iadd, 1), (42, .putfield 93, 3), (45, .return_, 1)] 0 [(0, pj_O (68, 0)), (1, pj_L a1), (3, pj_I a3), (4, pj_I a4)] [] (s, l, x, y) := rfl
set_option maxRecDepth 100000 in
theorem pz_X6_keepEdge {lf : pj_Z → mj_M} (hT : pj_Lt pj_TC lf) : pj_Cok ic_P (mj_R ic_P 0) 6008 ie_X6_keepEdge.1 (pm_OK lf pm_rU) lf px_X6_keepEdge := by
  exact pm_cok (c := px_X6_keepEdge) (pm_part hT (pj_as_all (p := fun b e => pj_TC b = some e) (List.forall_mem_cons.mpr ⟨rfl, (List.forall_mem_cons.mpr ⟨rfl, (List.forall_mem_cons.mpr ⟨rfl, (List.forall_mem_cons.mpr ⟨rfl, (fun _ h => by cases h)⟩)⟩)⟩)⟩))) (pm_in_ok (L := [(35, 6, 9, 2, true), (38, 6, 10, 2, true), (41, 6, 11, 2, true), (93, 6, 12, 0, false)]) (f := mj_pF ic_P 6008) (by decide +kernel)) (fun _ _ h => by cases h) (fun _ _ h => by cases h) (fun _ _ h => by cases h) rfl rfl ⟨by decide, rfl⟩ pm_mU (fun _ _ h => by cases h) (fun _ h => by cases h)
set_option maxRecDepth 100000 in
theorem pb_X6_keepEdge : pm_bks ie_X6_keepEdge.1.2.2.2.2 pk_X6_keepEdge = true := by decide +kernel
set_option maxRecDepth 100000 in
theorem pm_X6_keepEdge {lf : pj_Z → mj_M} (hT : pj_Lt pj_TC lf) (a1 : Int64) (a3 : Int32) (a4 : Int32) (s : Nat → Int32) (l : Nat → Int64) (x : Nat → Int32) (y : Nat → Int64) (a : Unit × pj_Z) (h : pf_X6_keepEdge a1 a3 a4 s l x y = some a) : mj_R ic_P 1 6008 [.ref 68, .long a1, .int a3, .int a4] (lf (s, l, x, y)) (pm_rU a.1) (lf a.2) := by
  refine pm_main (Y := ie_X6_keepEdge.1) rfl (Nat.le_of_ble_eq_true rfl) ?_
  exact pm_run ((pq_X6_keepEdge_m a1 a3 a4 s l x y).symm.trans h) (pz_X6_keepEdge hT) (pm_bks_ok pb_X6_keepEdge) (pm_bks_ok pb_X6_keepEdge _ _ rfl) (pm_ndb_ok rfl) (fun _ _ h => by cases h)
abbrev ph_X6_keepEdge {A : Type} : List pj_V → pj_Z → (List pj_V → pj_Z → Option A) → Option A := fun st z K => pj_pi st fun a4 st => pj_pi st fun a3 st => pj_pl st fun a1 st => pj_pr st 68 0 fun st => pj_ps st (pj_b (pf_X6_keepEdge a1 a3 a4 z.1 z.2.1 z.2.2.1 z.2.2.2) fun r s l x y => K st (s, l, x, y))
set_option maxRecDepth 100000 in
theorem pc_X6_keepEdge {A : Type} {OK : A → Option Value → mj_M → Prop} {d j pc ix : Nat} {Y : mj_Y} {lf : pj_Z → mj_M} (hT : pj_Lt pj_TC lf) (hd : 1 ≤ d) (hl : mj_lk Y.2.2.2.2 pc = some (.invokevirtual ix, 3)) (hg : mj_pG ic_P j ix = some (6008, 3, some 6)) {lv : List (Nat × Value)} {st : List pj_V} {z : pj_Z} {K : List pj_V → pj_Z → Option A} {a : A} (hK : ∀ st z, K st z = some a → pj_Gd ic_P (mj_R ic_P d) j Y OK lf (pc + 3) lv (pj_es st) z a) (h : ph_X6_keepEdge st z K = some a) : pj_Gd ic_P (mj_R ic_P d) j Y OK lf pc lv (pj_es st) z a := by
  obtain ⟨a4, r4, e4, h⟩ := pj_pi_inv h
  obtain ⟨a3, r3, e3, h⟩ := pj_pi_inv h
  obtain ⟨a1, r1, e1, h⟩ := pj_pl_inv h
  obtain ⟨r0, e0, h⟩ := pj_pr_inv h
  obtain ⟨hs, h⟩ := pj_ps_inv h
  obtain ⟨q, hq, h⟩ := pj_b_inv h
  exact pm_cv (o := 68) hl hg [.long a1, .int a3, .int a4] rfl (by rw [e4, e3, e1, e0]; rfl) hs (by decide) ((hT.2 68 _ rfl).1.2 z 0 (by decide)) (pm_rU q.1) hd (pm_X6_keepEdge hT a1 a3 a4 z.1 z.2.1 z.2.2.1 z.2.2.2 q hq) rfl (hK _ _ h)
abbrev pe_X6_stopAll_7 (f : Int64 → Int32 → pj_F (Unit × pj_Z)) : pj_K (Unit × pj_Z) := fun lv st z => pj_xr lv 0 68 0 <| pj_xl lv 1 fun a1 => pj_xi lv 3 fun a3 => pj_pe st (f a1 a3 z.1 z.2.1 z.2.2.1 z.2.2.2)
abbrev pe_X6_stopAll_36 (f : Int64 → Int32 → pj_F (Unit × pj_Z)) : pj_K (Unit × pj_Z) := fun lv st z => pj_xr lv 0 68 0 <| pj_xl lv 1 fun a1 => pj_xi lv 3 fun a3 => pj_pe st (f a1 a3 z.1 z.2.1 z.2.2.1 z.2.2.2)
abbrev pe_X6_stopAll_44 (f : Int64 → Int32 → pj_F (Unit × pj_Z)) : pj_K (Unit × pj_Z) := fun lv st z => pj_xr lv 0 68 0 <| pj_xl lv 1 fun a1 => pj_xi lv 3 fun a3 => pj_pe st (f a1 a3 z.1 z.2.1 z.2.2.1 z.2.2.2)
abbrev pe_X6_stopAll_73 (f : Int64 → Int32 → pj_F (Unit × pj_Z)) : pj_K (Unit × pj_Z) := fun lv st z => pj_xr lv 0 68 0 <| pj_xl lv 1 fun a1 => pj_xi lv 3 fun a3 => pj_pe st (f a1 a3 z.1 z.2.1 z.2.2.1 z.2.2.2)
abbrev px_X6_stopAll : pj_C (Unit × pj_Z) := ((pj_as [(68, 6, 19, 1, 0, true, 0, [(2, 69), (2, 70), (2, 71), (2, 72), (0, 57), (0, 58), (2, 73), (2, 74), (2, 75), (2, 76), (2, 77), (2, 78), (1, 11), (0, 59), (0, 60), (0, 61), (2, 79), (2, 80), (2, 81)]), (73, 102, 8, 1, 0, true, 18000, []), (74, 102, 8, 1, 0, true, 19000, [])]), (pj_as [(25, 6, 6, 2, true), (29, 6, 7, 2, true), (53, 6, 4, 0, false)]), (fun _ => none), (fun _ => none), (fun _ => none), ic_X, 4, 0, pj_mU, (pj_as [(33, ph_X6_keepEdge), (70, ph_X6_keepEdge)]), fun _ => false)
abbrev pk_X6_stopAll : List (Nat × List (Nat × Instr × Nat)) := [(0, [(0, .aload_n 0, 1), (1, .iconst 0, 1), (2, .putfield 53, 3), (5, .iconst 0, 1), (6, .istore_n 3, 1)]), (7, [(7, .iload_n 3, 1), (8, .bipush 8, 2), (10, .if_icmp .ge 32, 3)]), (13, [(13, .aload_n 0, 1), (14, .getfield 25, 3), (17, .iload_n 3, 1), (18, .baload, 1), (19, .ifCond .eq 17, 3)]), (22, [(22, .aload_n 0, 1), (23, .getfield 25, 3), (26, .iload_n 3, 1), (27, .iconst 0, 1), (28, .bastore, 1), (29, .aload_n 0, 1), (30, .lload_n 1, 1), (31, .iconst 1, 1), (32, .iload_n 3, 1), (33, .invokevirtual 80, 3)]), (36, [(36, .iinc 3 1, 3), (39, .goto (-32), 3)]), (42, [(42, .iconst 0, 1), (43, .istore_n 3, 1)]), (44, [(44, .iload_n 3, 1), (45, .bipush 8, 2), (47, .if_icmp .ge 32, 3)]), (50, [(50, .aload_n 0, 1), (51, .getfield 29, 3), (54, .iload_n 3, 1), (55, .baload, 1), (56, .ifCond .eq 17, 3)]), (59, [(59, .aload_n 0, 1), (60, .getfield 29, 3), (63, .iload_n 3, 1), (64, .iconst 0, 1), (65, .bastore, 1), (66, .aload_n 0, 1), (67, .lload_n 1, 1), (68, .iconst 4, 1), (69, .iload_n 3, 1), (70, .invokevirtual 80, 3)]), (73, [(73, .iinc 3 1, 3), (76, .goto (-32), 3)]), (79, [(79, .return_, 1)])]
set_option maxRecDepth 100000 in
theorem pq_X6_stopAll_36 (fu : Nat)  (k7 : Int64 → Int32 → pj_F (Unit × pj_Z)) (a1 : Int64) (a3 : Int32) (s : Nat → Int32) (l : Nat → Int64) (x : Nat → Int32) (y : Nat → Int64) : pl_X6_stopAll_36 fu k7 a1 a3 s l x y = pj_bl px_X6_stopAll (pj_rn px_X6_stopAll (pj_as pk_X6_stopAll) (pj_as [(7, pe_X6_stopAll_7 k7)]) 60) [(36, .iinc 3 1, 3), (39, .goto (-32), 3)] 36 [(0, pj_O (68, 0)), (1, pj_L a1), (3, pj_I a3)] [] (s, l, x, y) := rfl
set_option maxRecDepth 100000 in
theorem pq_X6_stopAll_73 (fu : Nat)  (k44 : Int64 → Int32 → pj_F (Unit × pj_Z)) (a1 : Int64) (a3 : Int32) (s : Nat → Int32) (l : Nat → Int64) (x : Nat → Int32) (y : Nat → Int64) : pl_X6_stopAll_73 fu k44 a1 a3 s l x y = pj_bl px_X6_stopAll (pj_rn px_X6_stopAll (pj_as pk_X6_stopAll) (pj_as [(44, pe_X6_stopAll_44 k44)]) 60) [(73, .iinc 3 1, 3), (76, .goto (-32), 3)] 73 [(0, pj_O (68, 0)), (1, pj_L a1), (3, pj_I a3)] [] (s, l, x, y) := rfl
set_option maxRecDepth 100000 in
theorem pq_X6_stopAll_44 (fu : Nat)  (n : Nat) (a1 : Int64) (a3 : Int32) (s : Nat → Int32) (l : Nat → Int64) (x : Nat → Int32) (y : Nat → Int64) : pl_X6_stopAll_44 fu (n + 1) a1 a3 s l x y = pj_bl px_X6_stopAll (pj_rn px_X6_stopAll (pj_as pk_X6_stopAll) (pj_as [(44, pe_X6_stopAll_44 (pl_X6_stopAll_44 fu n)), (73, pe_X6_stopAll_73 (pl_X6_stopAll_73 fu (pl_X6_stopAll_44 fu n)))]) 60) [(44, .iload_n 3, 1), (45, .bipush 8, 2), (47, .if_icmp .ge 32, 3)] 44 [(0, pj_O (68, 0)), (1, pj_L a1), (3, pj_I a3)] [] (s, l, x, y) := rfl
set_option maxRecDepth 100000 in
theorem pq_X6_stopAll_7 (fu : Nat)  (n : Nat) (a1 : Int64) (a3 : Int32) (s : Nat → Int32) (l : Nat → Int64) (x : Nat → Int32) (y : Nat → Int64) : pl_X6_stopAll_7 fu (n + 1) a1 a3 s l x y = pj_bl px_X6_stopAll (pj_rn px_X6_stopAll (pj_as pk_X6_stopAll) (pj_as [(7, pe_X6_stopAll_7 (pl_X6_stopAll_7 fu n)), (36, pe_X6_stopAll_36 (pl_X6_stopAll_36 fu (pl_X6_stopAll_7 fu n))), (44, pe_X6_stopAll_44 (pl_X6_stopAll_44 fu fu))]) 60) [(7, .iload_n 3, 1), (8, .bipush 8, 2), (10, .if_icmp .ge 32, 3)] 7 [(0, pj_O (68, 0)), (1, pj_L a1), (3, pj_I a3)] [] (s, l, x, y) := rfl
set_option maxRecDepth 100000 in
theorem pq_X6_stopAll_m (fu : Nat)  (a1 : Int64) (s : Nat → Int32) (l : Nat → Int64) (x : Nat → Int32) (y : Nat → Int64) : po_X6_stopAll fu a1 s l x y = pj_bl px_X6_stopAll (pj_rn px_X6_stopAll (pj_as pk_X6_stopAll) (pj_as [(7, pe_X6_stopAll_7 (pl_X6_stopAll_7 fu fu))]) 60) [(0, .aload_n 0, 1), (1, .iconst 0, 1), (2, .putfield 53, 3), (5, .iconst 0, 1), (6, .istore_n 3, 1)] 0 [(0, pj_O (68, 0)), (1, pj_L a1)] [] (s, l, x, y) := rfl
theorem pu_X6_stopAll_7 {lf : pj_Z → mj_M} {a : Unit × pj_Z} (f : Int64 → Int32 → pj_F (Unit × pj_Z)) (hf : ∀ (a1 : Int64) (a3 : Int32) (s : Nat → Int32) (l : Nat → Int64) (x : Nat → Int32) (y : Nat → Int64), f a1 a3 s l x y = some a → pm_Gd 1 6007 ie_X6_stopAll.1 pm_rU lf 7 [(0, .ref 68), (1, .long a1), (3, .int a3)] [] (s, l, x, y) a) : pm_Ex 1 6007 ie_X6_stopAll.1 pm_rU lf a 7 (pe_X6_stopAll_7 f) := by
  intro lv st z hd h
  obtain ⟨g0, h⟩ := pj_xr_inv h
  obtain ⟨a1, g1, h⟩ := pj_xl_inv h
  obtain ⟨a3, g3, h⟩ := pj_xi_inv h
  obtain ⟨e9, h⟩ := pj_pe_inv h
  rw [e9]
  exact mj_wp_sub (mj_sub_cons g0 (mj_sub_cons g1 (mj_sub_cons g3 (mj_sub_nil hd)))) (hf _ _ _ _ _ _ h)
theorem pu_X6_stopAll_36 {lf : pj_Z → mj_M} {a : Unit × pj_Z} (f : Int64 → Int32 → pj_F (Unit × pj_Z)) (hf : ∀ (a1 : Int64) (a3 : Int32) (s : Nat → Int32) (l : Nat → Int64) (x : Nat → Int32) (y : Nat → Int64), f a1 a3 s l x y = some a → pm_Gd 1 6007 ie_X6_stopAll.1 pm_rU lf 36 [(0, .ref 68), (1, .long a1), (3, .int a3)] [] (s, l, x, y) a) : pm_Ex 1 6007 ie_X6_stopAll.1 pm_rU lf a 36 (pe_X6_stopAll_36 f) := by
  intro lv st z hd h
  obtain ⟨g0, h⟩ := pj_xr_inv h
  obtain ⟨a1, g1, h⟩ := pj_xl_inv h
  obtain ⟨a3, g3, h⟩ := pj_xi_inv h
  obtain ⟨e9, h⟩ := pj_pe_inv h
  rw [e9]
  exact mj_wp_sub (mj_sub_cons g0 (mj_sub_cons g1 (mj_sub_cons g3 (mj_sub_nil hd)))) (hf _ _ _ _ _ _ h)
theorem pu_X6_stopAll_44 {lf : pj_Z → mj_M} {a : Unit × pj_Z} (f : Int64 → Int32 → pj_F (Unit × pj_Z)) (hf : ∀ (a1 : Int64) (a3 : Int32) (s : Nat → Int32) (l : Nat → Int64) (x : Nat → Int32) (y : Nat → Int64), f a1 a3 s l x y = some a → pm_Gd 1 6007 ie_X6_stopAll.1 pm_rU lf 44 [(0, .ref 68), (1, .long a1), (3, .int a3)] [] (s, l, x, y) a) : pm_Ex 1 6007 ie_X6_stopAll.1 pm_rU lf a 44 (pe_X6_stopAll_44 f) := by
  intro lv st z hd h
  obtain ⟨g0, h⟩ := pj_xr_inv h
  obtain ⟨a1, g1, h⟩ := pj_xl_inv h
  obtain ⟨a3, g3, h⟩ := pj_xi_inv h
  obtain ⟨e9, h⟩ := pj_pe_inv h
  rw [e9]
  exact mj_wp_sub (mj_sub_cons g0 (mj_sub_cons g1 (mj_sub_cons g3 (mj_sub_nil hd)))) (hf _ _ _ _ _ _ h)
theorem pu_X6_stopAll_73 {lf : pj_Z → mj_M} {a : Unit × pj_Z} (f : Int64 → Int32 → pj_F (Unit × pj_Z)) (hf : ∀ (a1 : Int64) (a3 : Int32) (s : Nat → Int32) (l : Nat → Int64) (x : Nat → Int32) (y : Nat → Int64), f a1 a3 s l x y = some a → pm_Gd 1 6007 ie_X6_stopAll.1 pm_rU lf 73 [(0, .ref 68), (1, .long a1), (3, .int a3)] [] (s, l, x, y) a) : pm_Ex 1 6007 ie_X6_stopAll.1 pm_rU lf a 73 (pe_X6_stopAll_73 f) := by
  intro lv st z hd h
  obtain ⟨g0, h⟩ := pj_xr_inv h
  obtain ⟨a1, g1, h⟩ := pj_xl_inv h
  obtain ⟨a3, g3, h⟩ := pj_xi_inv h
  obtain ⟨e9, h⟩ := pj_pe_inv h
  rw [e9]
  exact mj_wp_sub (mj_sub_cons g0 (mj_sub_cons g1 (mj_sub_cons g3 (mj_sub_nil hd)))) (hf _ _ _ _ _ _ h)
set_option maxRecDepth 100000 in
theorem pz_X6_stopAll {lf : pj_Z → mj_M} (hT : pj_Lt pj_TC lf) : pj_Cok ic_P (mj_R ic_P 1) 6007 ie_X6_stopAll.1 (pm_OK lf pm_rU) lf px_X6_stopAll := by
  exact pm_cok (c := px_X6_stopAll) (pm_part hT (pj_as_all (p := fun b e => pj_TC b = some e) (List.forall_mem_cons.mpr ⟨rfl, (List.forall_mem_cons.mpr ⟨rfl, (List.forall_mem_cons.mpr ⟨rfl, (fun _ h => by cases h)⟩)⟩)⟩))) (pm_in_ok (L := [(25, 6, 6, 2, true), (29, 6, 7, 2, true), (53, 6, 4, 0, false)]) (f := mj_pF ic_P 6007) (by decide +kernel)) (fun _ _ h => by cases h) (fun _ _ h => by cases h) (fun _ _ h => by cases h) rfl rfl ⟨by decide, rfl⟩ pm_mU (pj_as_all (p := pm_Cl 1 6007 ie_X6_stopAll.1 lf (pm_OK lf pm_rU)) (List.forall_mem_cons.mpr ⟨fun _ _ lv st z K a hK h => pc_X6_keepEdge hT (by decide) (ix := 80) rfl rfl hK h, (List.forall_mem_cons.mpr ⟨fun _ _ lv st z K a hK h => pc_X6_keepEdge hT (by decide) (ix := 80) rfl rfl hK h, (fun _ h => by cases h)⟩)⟩)) (fun _ h => by cases h)
set_option maxRecDepth 100000 in
theorem pb_X6_stopAll : pm_bks ie_X6_stopAll.1.2.2.2.2 pk_X6_stopAll = true := by decide +kernel
set_option maxRecDepth 100000 in
theorem pg_X6_stopAll_36 {fu : Nat} {lf : pj_Z → mj_M} (hT : pj_Lt pj_TC lf) {k7 : Int64 → Int32 → pj_F (Unit × pj_Z)} (hk7 : ∀ (a1 : Int64) (a3 : Int32) (s : Nat → Int32) (l : Nat → Int64) (x : Nat → Int32) (y : Nat → Int64) (a : Unit × pj_Z), k7 a1 a3 s l x y = some a → pm_Gd 1 6007 ie_X6_stopAll.1 pm_rU lf 7 [(0, .ref 68), (1, .long a1), (3, .int a3)] [] (s, l, x, y) a) : ∀ (a1 : Int64) (a3 : Int32) (s : Nat → Int32) (l : Nat → Int64) (x : Nat → Int32) (y : Nat → Int64) (a : Unit × pj_Z), pl_X6_stopAll_36 fu k7 a1 a3 s l x y = some a → pm_Gd 1 6007 ie_X6_stopAll.1 pm_rU lf 36 [(0, .ref 68), (1, .long a1), (3, .int a3)] [] (s, l, x, y) a := by
  intro a1 a3 s l x y a h
  exact pm_run ((pq_X6_stopAll_36 fu k7 a1 a3 s l x y).symm.trans h) (pz_X6_stopAll hT) (pm_bks_ok pb_X6_stopAll) (pm_bks_ok pb_X6_stopAll _ _ rfl) (pm_ndb_ok rfl) (pj_as_all (p := pm_Ex 1 6007 ie_X6_stopAll.1 pm_rU lf a) (List.forall_mem_cons.mpr ⟨pu_X6_stopAll_7 _ (fun c0 c1 s l x y h => hk7 c0 c1 s l x y _ h), (fun _ h => by cases h)⟩))
set_option maxRecDepth 100000 in
theorem pg_X6_stopAll_73 {fu : Nat} {lf : pj_Z → mj_M} (hT : pj_Lt pj_TC lf) {k44 : Int64 → Int32 → pj_F (Unit × pj_Z)} (hk44 : ∀ (a1 : Int64) (a3 : Int32) (s : Nat → Int32) (l : Nat → Int64) (x : Nat → Int32) (y : Nat → Int64) (a : Unit × pj_Z), k44 a1 a3 s l x y = some a → pm_Gd 1 6007 ie_X6_stopAll.1 pm_rU lf 44 [(0, .ref 68), (1, .long a1), (3, .int a3)] [] (s, l, x, y) a) : ∀ (a1 : Int64) (a3 : Int32) (s : Nat → Int32) (l : Nat → Int64) (x : Nat → Int32) (y : Nat → Int64) (a : Unit × pj_Z), pl_X6_stopAll_73 fu k44 a1 a3 s l x y = some a → pm_Gd 1 6007 ie_X6_stopAll.1 pm_rU lf 73 [(0, .ref 68), (1, .long a1), (3, .int a3)] [] (s, l, x, y) a := by
  intro a1 a3 s l x y a h
  exact pm_run ((pq_X6_stopAll_73 fu k44 a1 a3 s l x y).symm.trans h) (pz_X6_stopAll hT) (pm_bks_ok pb_X6_stopAll) (pm_bks_ok pb_X6_stopAll _ _ rfl) (pm_ndb_ok rfl) (pj_as_all (p := pm_Ex 1 6007 ie_X6_stopAll.1 pm_rU lf a) (List.forall_mem_cons.mpr ⟨pu_X6_stopAll_44 _ (fun c0 c1 s l x y h => hk44 c0 c1 s l x y _ h), (fun _ h => by cases h)⟩))
set_option maxRecDepth 100000 in
theorem pg_X6_stopAll_44 {fu : Nat} {lf : pj_Z → mj_M} (hT : pj_Lt pj_TC lf) : ∀ (n : Nat), ∀ (a1 : Int64) (a3 : Int32) (s : Nat → Int32) (l : Nat → Int64) (x : Nat → Int32) (y : Nat → Int64) (a : Unit × pj_Z), pl_X6_stopAll_44 fu n a1 a3 s l x y = some a → pm_Gd 1 6007 ie_X6_stopAll.1 pm_rU lf 44 [(0, .ref 68), (1, .long a1), (3, .int a3)] [] (s, l, x, y) a := by
  intro n
  induction n with
  | zero => intro a1 a3 s l x y a h; cases (show (none : Option (Unit × pj_Z)) = some a from h)
  | succ n ih =>
    intro a1 a3 s l x y a h
    exact pm_run ((pq_X6_stopAll_44 fu n a1 a3 s l x y).symm.trans h) (pz_X6_stopAll hT) (pm_bks_ok pb_X6_stopAll) (pm_bks_ok pb_X6_stopAll _ _ rfl) (pm_ndb_ok rfl) (pj_as_all (p := pm_Ex 1 6007 ie_X6_stopAll.1 pm_rU lf a) (List.forall_mem_cons.mpr ⟨pu_X6_stopAll_44 _ (fun c0 c1 s l x y h => ih c0 c1 s l x y _ h), (List.forall_mem_cons.mpr ⟨pu_X6_stopAll_73 _ (fun c0 c1 s l x y h => pg_X6_stopAll_73 hT (fun a1 a3 s l x y a h => ih a1 a3 s l x y a h) c0 c1 s l x y _ h), (fun _ h => by cases h)⟩)⟩))
set_option maxRecDepth 100000 in
theorem pg_X6_stopAll_7 {fu : Nat} {lf : pj_Z → mj_M} (hT : pj_Lt pj_TC lf) : ∀ (n : Nat), ∀ (a1 : Int64) (a3 : Int32) (s : Nat → Int32) (l : Nat → Int64) (x : Nat → Int32) (y : Nat → Int64) (a : Unit × pj_Z), pl_X6_stopAll_7 fu n a1 a3 s l x y = some a → pm_Gd 1 6007 ie_X6_stopAll.1 pm_rU lf 7 [(0, .ref 68), (1, .long a1), (3, .int a3)] [] (s, l, x, y) a := by
  intro n
  induction n with
  | zero => intro a1 a3 s l x y a h; cases (show (none : Option (Unit × pj_Z)) = some a from h)
  | succ n ih =>
    intro a1 a3 s l x y a h
    exact pm_run ((pq_X6_stopAll_7 fu n a1 a3 s l x y).symm.trans h) (pz_X6_stopAll hT) (pm_bks_ok pb_X6_stopAll) (pm_bks_ok pb_X6_stopAll _ _ rfl) (pm_ndb_ok rfl) (pj_as_all (p := pm_Ex 1 6007 ie_X6_stopAll.1 pm_rU lf a) (List.forall_mem_cons.mpr ⟨pu_X6_stopAll_7 _ (fun c0 c1 s l x y h => ih c0 c1 s l x y _ h), (List.forall_mem_cons.mpr ⟨pu_X6_stopAll_36 _ (fun c0 c1 s l x y h => pg_X6_stopAll_36 hT (fun a1 a3 s l x y a h => ih a1 a3 s l x y a h) c0 c1 s l x y _ h), (List.forall_mem_cons.mpr ⟨pu_X6_stopAll_44 _ (fun c0 c1 s l x y h => pg_X6_stopAll_44 hT _ c0 c1 s l x y _ h), (fun _ h => by cases h)⟩)⟩)⟩))
set_option maxRecDepth 100000 in
theorem pm_X6_stopAll {lf : pj_Z → mj_M} (hT : pj_Lt pj_TC lf) (a1 : Int64) (s : Nat → Int32) (l : Nat → Int64) (x : Nat → Int32) (y : Nat → Int64) (a : Unit × pj_Z) (h : pf_X6_stopAll a1 s l x y = some a) : mj_R ic_P 2 6007 [.ref 68, .long a1] (lf (s, l, x, y)) (pm_rU a.1) (lf a.2) := by
  refine pm_main (Y := ie_X6_stopAll.1) rfl (Nat.le_of_ble_eq_true rfl) ?_
  exact pm_run ((pq_X6_stopAll_m 1000 a1 s l x y).symm.trans h) (pz_X6_stopAll hT) (pm_bks_ok pb_X6_stopAll) (pm_bks_ok pb_X6_stopAll _ _ rfl) (pm_ndb_ok rfl) (pj_as_all (p := pm_Ex 1 6007 ie_X6_stopAll.1 pm_rU lf a) (List.forall_mem_cons.mpr ⟨pu_X6_stopAll_7 _ (fun c0 c1 s l x y h => pg_X6_stopAll_7 hT _ c0 c1 s l x y _ h), (fun _ h => by cases h)⟩))
abbrev ph_X6_stopAll {A : Type} : List pj_V → pj_Z → (List pj_V → pj_Z → Option A) → Option A := fun st z K => pj_pl st fun a1 st => pj_pr st 68 0 fun st => pj_ps st (pj_b (pf_X6_stopAll a1 z.1 z.2.1 z.2.2.1 z.2.2.2) fun r s l x y => K st (s, l, x, y))
set_option maxRecDepth 100000 in
theorem pc_X6_stopAll {A : Type} {OK : A → Option Value → mj_M → Prop} {d j pc ix : Nat} {Y : mj_Y} {lf : pj_Z → mj_M} (hT : pj_Lt pj_TC lf) (hd : 2 ≤ d) (hl : mj_lk Y.2.2.2.2 pc = some (.invokevirtual ix, 3)) (hg : mj_pG ic_P j ix = some (6007, 1, some 6)) {lv : List (Nat × Value)} {st : List pj_V} {z : pj_Z} {K : List pj_V → pj_Z → Option A} {a : A} (hK : ∀ st z, K st z = some a → pj_Gd ic_P (mj_R ic_P d) j Y OK lf (pc + 3) lv (pj_es st) z a) (h : ph_X6_stopAll st z K = some a) : pj_Gd ic_P (mj_R ic_P d) j Y OK lf pc lv (pj_es st) z a := by
  obtain ⟨a1, r1, e1, h⟩ := pj_pl_inv h
  obtain ⟨r0, e0, h⟩ := pj_pr_inv h
  obtain ⟨hs, h⟩ := pj_ps_inv h
  obtain ⟨q, hq, h⟩ := pj_b_inv h
  exact pm_cv (o := 68) hl hg [.long a1] rfl (by rw [e1, e0]; rfl) hs (by decide) ((hT.2 68 _ rfl).1.2 z 0 (by decide)) (pm_rU q.1) hd (pm_X6_stopAll hT a1 z.1 z.2.1 z.2.2.1 z.2.2.2 q hq) rfl (hK _ _ h)
abbrev px_X11_allOff : pj_C (Unit × pj_Z) := ((pj_as [(0, 11, 17, 1, 0, true, 0, [(2, 1), (2, 20), (2, 58), (2, 68), (2, 82), (2, 83), (2, 85), (2, 96), (2, 102), (2, 106), (2, 122), (0, 93), (0, 94), (0, 95), (1, 1), (1, 2), (0, 96)])]), (pj_as [(26, 11, 2, 2, true), (33, 11, 3, 2, true), (86, 11, 11, 1, false)]), (fun _ => none), (fun _ => none), (fun _ => none), ic_X, 1, 0, pj_mU, (pj_as [(4, ph_X2_forgetPlans), (15, ph_X6_stopAll)]), fun _ => false)
abbrev pk_X11_allOff : List (Nat × List (Nat × Instr × Nat)) := [(0, [(0, .aload_n 0, 1), (1, .getfield 26, 3), (4, .invokevirtual 491, 3), (7, .aload_n 0, 1), (8, .getfield 33, 3), (11, .aload_n 0, 1), (12, .getfield 86, 3), (15, .invokevirtual 494, 3), (18, .return_, 1)])]
set_option maxRecDepth 100000 in
theorem pq_X11_allOff_m   (s : Nat → Int32) (l : Nat → Int64) (x : Nat → Int32) (y : Nat → Int64) : pf_X11_allOff  s l x y = pj_bl px_X11_allOff (pj_rn px_X11_allOff (pj_as pk_X11_allOff) (fun _ => none) 60) [(0, .aload_n 0, 1), (1, .getfield 26, 3), (4, .invokevirtual 491, 3), (7, .aload_n 0, 1), (8, .getfield 33, 3), (11, .aload_n 0, 1), (12, .getfield 86, 3), (15, .invokevirtual 494, 3), (18, .return_, 1)] 0 [(0, pj_O (0, 0))] [] (s, l, x, y) := rfl
set_option maxRecDepth 100000 in
theorem pz_X11_allOff {lf : pj_Z → mj_M} (hT : pj_Lt pj_TC lf) : pj_Cok ic_P (mj_R ic_P 2) 11052 ie_X11_allOff.1 (pm_OK lf pm_rU) lf px_X11_allOff := by
  exact pm_cok (c := px_X11_allOff) (pm_part hT (pj_as_all (p := fun b e => pj_TC b = some e) (List.forall_mem_cons.mpr ⟨rfl, (fun _ h => by cases h)⟩))) (pm_in_ok (L := [(26, 11, 2, 2, true), (33, 11, 3, 2, true), (86, 11, 11, 1, false)]) (f := mj_pF ic_P 11052) (by decide +kernel)) (fun _ _ h => by cases h) (fun _ _ h => by cases h) (fun _ _ h => by cases h) rfl rfl ⟨by decide, rfl⟩ pm_mU (pj_as_all (p := pm_Cl 2 11052 ie_X11_allOff.1 lf (pm_OK lf pm_rU)) (List.forall_mem_cons.mpr ⟨fun _ _ lv st z K a hK h => pc_X2_forgetPlans hT (by decide) (ix := 491) rfl rfl hK h, (List.forall_mem_cons.mpr ⟨fun _ _ lv st z K a hK h => pc_X6_stopAll hT (by decide) (ix := 494) rfl rfl hK h, (fun _ h => by cases h)⟩)⟩)) (fun _ h => by cases h)
set_option maxRecDepth 100000 in
theorem pb_X11_allOff : pm_bks ie_X11_allOff.1.2.2.2.2 pk_X11_allOff = true := by decide +kernel
set_option maxRecDepth 100000 in
theorem pm_X11_allOff {lf : pj_Z → mj_M} (hT : pj_Lt pj_TC lf)  (s : Nat → Int32) (l : Nat → Int64) (x : Nat → Int32) (y : Nat → Int64) (a : Unit × pj_Z) (h : pf_X11_allOff  s l x y = some a) : mj_R ic_P 3 11052 [.ref 0] (lf (s, l, x, y)) (pm_rU a.1) (lf a.2) := by
  refine pm_main (Y := ie_X11_allOff.1) rfl (Nat.le_of_ble_eq_true rfl) ?_
  exact pm_run ((pq_X11_allOff_m  s l x y).symm.trans h) (pz_X11_allOff hT) (pm_bks_ok pb_X11_allOff) (pm_bks_ok pb_X11_allOff _ _ rfl) (pm_ndb_ok rfl) (fun _ _ h => by cases h)
abbrev ph_X11_allOff {A : Type} : List pj_V → pj_Z → (List pj_V → pj_Z → Option A) → Option A := fun st z K => pj_pr st 0 0 fun st => pj_ps st (pj_b (pf_X11_allOff  z.1 z.2.1 z.2.2.1 z.2.2.2) fun r s l x y => K st (s, l, x, y))
set_option maxRecDepth 100000 in
theorem pc_X11_allOff {A : Type} {OK : A → Option Value → mj_M → Prop} {d j pc ix : Nat} {Y : mj_Y} {lf : pj_Z → mj_M} (hT : pj_Lt pj_TC lf) (hd : 3 ≤ d) (hl : mj_lk Y.2.2.2.2 pc = some (.invokevirtual ix, 3)) (hg : mj_pG ic_P j ix = some (11052, 0, some 11)) {lv : List (Nat × Value)} {st : List pj_V} {z : pj_Z} {K : List pj_V → pj_Z → Option A} {a : A} (hK : ∀ st z, K st z = some a → pj_Gd ic_P (mj_R ic_P d) j Y OK lf (pc + 3) lv (pj_es st) z a) (h : ph_X11_allOff st z K = some a) : pj_Gd ic_P (mj_R ic_P d) j Y OK lf pc lv (pj_es st) z a := by
  obtain ⟨r0, e0, h⟩ := pj_pr_inv h
  obtain ⟨hs, h⟩ := pj_ps_inv h
  obtain ⟨q, hq, h⟩ := pj_b_inv h
  exact pm_cv (o := 0) hl hg [] rfl (by rw [e0]; rfl) hs (by decide) ((hT.2 0 _ rfl).1.2 z 0 (by decide)) (pm_rU q.1) hd (pm_X11_allOff hT  z.1 z.2.1 z.2.2.1 z.2.2.2 q hq) rfl (hK _ _ h)
abbrev pe_X4_takeOverMaps_16 (f : Int32 → pj_F (Unit × pj_Z)) : pj_K (Unit × pj_Z) := fun lv st z => pj_xr lv 0 1 0 <| pj_xi lv 1 fun a1 => pj_pe st (f a1 z.1 z.2.1 z.2.2.1 z.2.2.2)
abbrev px_X4_takeOverMaps : pj_C (Unit × pj_Z) := ((pj_as [(1, 4, 10, 1, 0, true, 0, [(2, 2), (2, 3), (2, 8), (2, 11), (2, 14), (2, 17), (2, 18), (2, 19), (0, 44), (1, 3)]), (8, 103, 2, 1, 0, true, 9, []), (9, 100, 16, 2, 1, true, 12000, []), (14, 103, 2, 1, 0, true, 15, []), (15, 100, 34, 2, 1, true, 14000, []), (18, 100, 2, 1, 0, false, 2000, [])]), (pj_as [(20, 4, 2, 2, true), (26, 4, 4, 2, true), (32, 4, 6, 2, true)]), (fun _ => none), (fun _ => none), (fun _ => none), ic_X, 2, 0, pj_mU, (fun _ => none), pj_mem [45])
abbrev pk_X4_takeOverMaps : List (Nat × List (Nat × Instr × Nat)) := [(0, [(0, .aload_n 0, 1), (1, .getfield 32, 3), (4, .iconst 1, 1), (5, .iaload, 1), (6, .istore_n 1, 1), (7, .iload_n 1, 1), (8, .ifCond .eq 8, 3)]), (11, [(11, .iload_n 1, 1), (12, .iconst 1, 1), (13, .if_icmp .ne 42, 3)]), (16, [(16, .aload_n 0, 1), (17, .getfield 26, 3), (20, .iload_n 1, 1), (21, .aaload, 1), (22, .iconst 1, 1), (23, .aload_n 0, 1), (24, .getfield 20, 3), (27, .iconst 0, 1), (28, .aaload, 1), (29, .iconst 0, 1), (30, .bipush 16, 2), (32, .invokestatic 45, 3), (35, .aload_n 0, 1), (36, .getfield 26, 3), (39, .iload_n 1, 1), (40, .aaload, 1), (41, .bipush 17, 2), (43, .aload_n 0, 1), (44, .getfield 20, 3), (47, .iconst 1, 1), (48, .aaload, 1), (49, .iconst 0, 1), (50, .bipush 16, 2), (52, .invokestatic 45, 3)]), (55, [(55, .return_, 1)])]
set_option maxRecDepth 100000 in
theorem pq_X4_takeOverMaps_16  (a1 : Int32) (s : Nat → Int32) (l : Nat → Int64) (x : Nat → Int32) (y : Nat → Int64) : pl_X4_takeOverMaps_16 a1 s l x y = pj_bl px_X4_takeOverMaps (pj_rn px_X4_takeOverMaps (pj_as pk_X4_takeOverMaps) (fun _ => none) 60) [(16, .aload_n 0, 1), (17, .getfield 26, 3), (20, .iload_n 1, 1), (21, .aaload, 1), (22, .iconst 1, 1), (23, .aload_n 0, 1), (24, .getfield 20, 3), (27, .iconst 0, 1), (28, .aaload, 1), (29, .iconst 0, 1), (30, .bipush 16, 2), (32, .invokestatic 45, 3), (35, .aload_n 0, 1), (36, .getfield 26, 3), (39, .iload_n 1, 1), (40, .aaload, 1), (41, .bipush 17, 2), (43, .aload_n 0, 1), (44, .getfield 20, 3), (47, .iconst 1, 1), (48, .aaload, 1), (49, .iconst 0, 1), (50, .bipush 16, 2), (52, .invokestatic 45, 3)] 16 [(0, pj_O (1, 0)), (1, pj_I a1)] [] (s, l, x, y) := rfl
set_option maxRecDepth 100000 in
theorem pq_X4_takeOverMaps_m   (s : Nat → Int32) (l : Nat → Int64) (x : Nat → Int32) (y : Nat → Int64) : pf_X4_takeOverMaps  s l x y = pj_bl px_X4_takeOverMaps (pj_rn px_X4_takeOverMaps (pj_as pk_X4_takeOverMaps) (pj_as [(16, pe_X4_takeOverMaps_16 (pl_X4_takeOverMaps_16))]) 60) [(0, .aload_n 0, 1), (1, .getfield 32, 3), (4, .iconst 1, 1), (5, .iaload, 1), (6, .istore_n 1, 1), (7, .iload_n 1, 1), (8, .ifCond .eq 8, 3)] 0 [(0, pj_O (1, 0))] [] (s, l, x, y) := rfl
theorem pu_X4_takeOverMaps_16 {lf : pj_Z → mj_M} {a : Unit × pj_Z} (f : Int32 → pj_F (Unit × pj_Z)) (hf : ∀ (a1 : Int32) (s : Nat → Int32) (l : Nat → Int64) (x : Nat → Int32) (y : Nat → Int64), f a1 s l x y = some a → pm_Gd 0 4005 ie_X4_takeOverMaps.1 pm_rU lf 16 [(0, .ref 1), (1, .int a1)] [] (s, l, x, y) a) : pm_Ex 0 4005 ie_X4_takeOverMaps.1 pm_rU lf a 16 (pe_X4_takeOverMaps_16 f) := by
  intro lv st z hd h
  obtain ⟨g0, h⟩ := pj_xr_inv h
  obtain ⟨a1, g1, h⟩ := pj_xi_inv h
  obtain ⟨e9, h⟩ := pj_pe_inv h
  rw [e9]
  exact mj_wp_sub (mj_sub_cons g0 (mj_sub_cons g1 (mj_sub_nil hd))) (hf _ _ _ _ _ h)
set_option maxRecDepth 100000 in
theorem pz_X4_takeOverMaps {lf : pj_Z → mj_M} (hT : pj_Lt pj_TC lf) : pj_Cok ic_P (mj_R ic_P 0) 4005 ie_X4_takeOverMaps.1 (pm_OK lf pm_rU) lf px_X4_takeOverMaps := by
  exact pm_cok (c := px_X4_takeOverMaps) (pm_part hT (pj_as_all (p := fun b e => pj_TC b = some e) (List.forall_mem_cons.mpr ⟨rfl, (List.forall_mem_cons.mpr ⟨rfl, (List.forall_mem_cons.mpr ⟨rfl, (List.forall_mem_cons.mpr ⟨rfl, (List.forall_mem_cons.mpr ⟨rfl, (List.forall_mem_cons.mpr ⟨rfl, (fun _ h => by cases h)⟩)⟩)⟩)⟩)⟩)⟩))) (pm_in_ok (L := [(20, 4, 2, 2, true), (26, 4, 4, 2, true), (32, 4, 6, 2, true)]) (f := mj_pF ic_P 4005) (by decide +kernel)) (fun _ _ h => by cases h) (fun _ _ h => by cases h) (fun _ _ h => by cases h) rfl rfl ⟨by decide, rfl⟩ pm_mU (fun _ _ h => by cases h) (pj_mem_all (p := fun ix => mj_pC ic_P 4005 ix = true) (by simp only [List.mem_cons, List.not_mem_nil, or_false, forall_eq_or_imp, forall_eq]; exact rfl))
set_option maxRecDepth 100000 in
theorem pb_X4_takeOverMaps : pm_bks ie_X4_takeOverMaps.1.2.2.2.2 pk_X4_takeOverMaps = true := by decide +kernel
set_option maxRecDepth 100000 in
theorem pg_X4_takeOverMaps_16 {lf : pj_Z → mj_M} (hT : pj_Lt pj_TC lf) : ∀ (a1 : Int32) (s : Nat → Int32) (l : Nat → Int64) (x : Nat → Int32) (y : Nat → Int64) (a : Unit × pj_Z), pl_X4_takeOverMaps_16 a1 s l x y = some a → pm_Gd 0 4005 ie_X4_takeOverMaps.1 pm_rU lf 16 [(0, .ref 1), (1, .int a1)] [] (s, l, x, y) a := by
  intro a1 s l x y a h
  exact pm_run ((pq_X4_takeOverMaps_16  a1 s l x y).symm.trans h) (pz_X4_takeOverMaps hT) (pm_bks_ok pb_X4_takeOverMaps) (pm_bks_ok pb_X4_takeOverMaps _ _ rfl) (pm_ndb_ok rfl) (fun _ _ h => by cases h)
set_option maxRecDepth 100000 in
theorem pm_X4_takeOverMaps {lf : pj_Z → mj_M} (hT : pj_Lt pj_TC lf)  (s : Nat → Int32) (l : Nat → Int64) (x : Nat → Int32) (y : Nat → Int64) (a : Unit × pj_Z) (h : pf_X4_takeOverMaps  s l x y = some a) : mj_R ic_P 1 4005 [.ref 1] (lf (s, l, x, y)) (pm_rU a.1) (lf a.2) := by
  refine pm_main (Y := ie_X4_takeOverMaps.1) rfl (Nat.le_of_ble_eq_true rfl) ?_
  exact pm_run ((pq_X4_takeOverMaps_m  s l x y).symm.trans h) (pz_X4_takeOverMaps hT) (pm_bks_ok pb_X4_takeOverMaps) (pm_bks_ok pb_X4_takeOverMaps _ _ rfl) (pm_ndb_ok rfl) (pj_as_all (p := pm_Ex 0 4005 ie_X4_takeOverMaps.1 pm_rU lf a) (List.forall_mem_cons.mpr ⟨pu_X4_takeOverMaps_16 _ (fun c0 s l x y h => pg_X4_takeOverMaps_16 hT c0 s l x y _ h), (fun _ h => by cases h)⟩))
abbrev ph_X4_takeOverMaps {A : Type} : List pj_V → pj_Z → (List pj_V → pj_Z → Option A) → Option A := fun st z K => pj_pr st 1 0 fun st => pj_ps st (pj_b (pf_X4_takeOverMaps  z.1 z.2.1 z.2.2.1 z.2.2.2) fun r s l x y => K st (s, l, x, y))
set_option maxRecDepth 100000 in
theorem pc_X4_takeOverMaps {A : Type} {OK : A → Option Value → mj_M → Prop} {d j pc ix : Nat} {Y : mj_Y} {lf : pj_Z → mj_M} (hT : pj_Lt pj_TC lf) (hd : 1 ≤ d) (hl : mj_lk Y.2.2.2.2 pc = some (.invokevirtual ix, 3)) (hg : mj_pG ic_P j ix = some (4005, 0, some 4)) {lv : List (Nat × Value)} {st : List pj_V} {z : pj_Z} {K : List pj_V → pj_Z → Option A} {a : A} (hK : ∀ st z, K st z = some a → pj_Gd ic_P (mj_R ic_P d) j Y OK lf (pc + 3) lv (pj_es st) z a) (h : ph_X4_takeOverMaps st z K = some a) : pj_Gd ic_P (mj_R ic_P d) j Y OK lf pc lv (pj_es st) z a := by
  obtain ⟨r0, e0, h⟩ := pj_pr_inv h
  obtain ⟨hs, h⟩ := pj_ps_inv h
  obtain ⟨q, hq, h⟩ := pj_b_inv h
  exact pm_cv (o := 1) hl hg [] rfl (by rw [e0]; rfl) hs (by decide) ((hT.2 1 _ rfl).1.2 z 0 (by decide)) (pm_rU q.1) hd (pm_X4_takeOverMaps hT  z.1 z.2.1 z.2.2.1 z.2.2.2 q hq) rfl (hK _ _ h)
abbrev pe_X1_bar_13 (f : Int32 → Int32 → pj_F (Unit × pj_Z)) : pj_K (Unit × pj_Z) := fun lv st z => pj_xr lv 0 102 0 <| pj_xi lv 1 fun a1 => pj_pi st fun b1 st => pj_pr st 102 0 fun st => pj_pe st (f a1 b1 z.1 z.2.1 z.2.2.1 z.2.2.2)
abbrev pe_X1_bar_36 (f : Int32 → pj_F (Unit × pj_Z)) : pj_K (Unit × pj_Z) := fun lv st z => pj_pi st fun b1 st => pj_pr st 102 0 fun st => pj_pe st (f b1 z.1 z.2.1 z.2.2.1 z.2.2.2)
abbrev px_X1_bar : pj_C (Unit × pj_Z) := ((pj_as [(102, 1, 18, 1, 0, true, 0, [(2, 103), (2, 104), (2, 105), (1, 22), (0, 16), (0, 17), (0, 6), (0, 7), (0, 8), (0, 9), (0, 10), (1, 23), (0, 11), (0, 12), (0, 13), (0, 18), (0, 14), (0, 15)])]), (pj_as [(53, 1, 14, 3, false), (56, 1, 15, 0, false), (65, 1, 13, 0, false)]), (pj_as [(68, 1103515245)]), (fun _ => none), (fun _ => none), ic_X, 2, 0, pj_mU, (fun _ => none), fun _ => false)
abbrev pk_X1_bar : List (Nat × List (Nat × Instr × Nat)) := [(0, [(0, .aload_n 0, 1), (1, .aload_n 0, 1), (2, .getfield 65, 3), (5, .ifCond .eq 7, 3)]), (8, [(8, .iconst 1, 1), (9, .goto 4, 3)]), (12, [(12, .iconst 0, 1)]), (13, [(13, .putfield 53, 3), (16, .aload_n 0, 1), (17, .aload_n 0, 1), (18, .getfield 53, 3), (21, .ifCond .eq 14, 3)]), (24, [(24, .iload_n 1, 1), (25, .ldc 68, 2), (27, .imul, 1), (28, .sipush 12345, 3), (31, .iadd, 1), (32, .goto 4, 3)]), (35, [(35, .iconst 0, 1)]), (36, [(36, .putfield 56, 3), (39, .return_, 1)])]
set_option maxRecDepth 100000 in
theorem pq_X1_bar_36  (b1 : Int32) (s : Nat → Int32) (l : Nat → Int64) (x : Nat → Int32) (y : Nat → Int64) : pl_X1_bar_36 b1 s l x y = pj_bl px_X1_bar (pj_rn px_X1_bar (pj_as pk_X1_bar) (fun _ => none) 60) [(36, .putfield 56, 3), (39, .return_, 1)] 36 [] [pj_I b1, pj_O (102, 0)] (s, l, x, y) := rfl
set_option maxRecDepth 100000 in
theorem pq_X1_bar_13  (a1 : Int32) (b1 : Int32) (s : Nat → Int32) (l : Nat → Int64) (x : Nat → Int32) (y : Nat → Int64) : pl_X1_bar_13 a1 b1 s l x y = pj_bl px_X1_bar (pj_rn px_X1_bar (pj_as pk_X1_bar) (pj_as [(36, pe_X1_bar_36 (pl_X1_bar_36))]) 60) [(13, .putfield 53, 3), (16, .aload_n 0, 1), (17, .aload_n 0, 1), (18, .getfield 53, 3), (21, .ifCond .eq 14, 3)] 13 [(0, pj_O (102, 0)), (1, pj_I a1)] [pj_I b1, pj_O (102, 0)] (s, l, x, y) := rfl
set_option maxRecDepth 100000 in
theorem pq_X1_bar_m  (a1 : Int32) (s : Nat → Int32) (l : Nat → Int64) (x : Nat → Int32) (y : Nat → Int64) : pf_X1_bar a1 s l x y = pj_bl px_X1_bar (pj_rn px_X1_bar (pj_as pk_X1_bar) (pj_as [(13, pe_X1_bar_13 (pl_X1_bar_13))]) 60) [(0, .aload_n 0, 1), (1, .aload_n 0, 1), (2, .getfield 65, 3), (5, .ifCond .eq 7, 3)] 0 [(0, pj_O (102, 0)), (1, pj_I a1)] [] (s, l, x, y) := rfl
theorem pu_X1_bar_13 {lf : pj_Z → mj_M} {a : Unit × pj_Z} (f : Int32 → Int32 → pj_F (Unit × pj_Z)) (hf : ∀ (a1 : Int32) (b1 : Int32) (s : Nat → Int32) (l : Nat → Int64) (x : Nat → Int32) (y : Nat → Int64), f a1 b1 s l x y = some a → pm_Gd 0 1002 ie_X1_bar.1 pm_rU lf 13 [(0, .ref 102), (1, .int a1)] [.int b1, .ref 102] (s, l, x, y) a) : pm_Ex 0 1002 ie_X1_bar.1 pm_rU lf a 13 (pe_X1_bar_13 f) := by
  intro lv st z hd h
  obtain ⟨g0, h⟩ := pj_xr_inv h
  obtain ⟨a1, g1, h⟩ := pj_xi_inv h
  obtain ⟨b1, r1, e1, h⟩ := pj_pi_inv h
  obtain ⟨r0, e0, h⟩ := pj_pr_inv h
  obtain ⟨e9, h⟩ := pj_pe_inv h
  rw [e1, e0, e9]
  exact mj_wp_sub (mj_sub_cons g0 (mj_sub_cons g1 (mj_sub_nil hd))) (hf _ _ _ _ _ _ h)
theorem pu_X1_bar_36 {lf : pj_Z → mj_M} {a : Unit × pj_Z} (f : Int32 → pj_F (Unit × pj_Z)) (hf : ∀ (b1 : Int32) (s : Nat → Int32) (l : Nat → Int64) (x : Nat → Int32) (y : Nat → Int64), f b1 s l x y = some a → pm_Gd 0 1002 ie_X1_bar.1 pm_rU lf 36 [] [.int b1, .ref 102] (s, l, x, y) a) : pm_Ex 0 1002 ie_X1_bar.1 pm_rU lf a 36 (pe_X1_bar_36 f) := by
  intro lv st z hd h
  obtain ⟨b1, r1, e1, h⟩ := pj_pi_inv h
  obtain ⟨r0, e0, h⟩ := pj_pr_inv h
  obtain ⟨e9, h⟩ := pj_pe_inv h
  rw [e1, e0, e9]
  exact mj_wp_sub (mj_sub_nil hd) (hf _ _ _ _ _ h)
set_option maxRecDepth 100000 in
theorem pz_X1_bar {lf : pj_Z → mj_M} (hT : pj_Lt pj_TC lf) : pj_Cok ic_P (mj_R ic_P 0) 1002 ie_X1_bar.1 (pm_OK lf pm_rU) lf px_X1_bar := by
  exact pm_cok (c := px_X1_bar) (pm_part hT (pj_as_all (p := fun b e => pj_TC b = some e) (List.forall_mem_cons.mpr ⟨rfl, (fun _ h => by cases h)⟩))) (pm_in_ok (L := [(53, 1, 14, 3, false), (56, 1, 15, 0, false), (65, 1, 13, 0, false)]) (f := mj_pF ic_P 1002) (by decide +kernel)) (pm_inI_ok (L := [(68, 1103515245)]) (f := mj_pK ic_P 1002) (by decide +kernel)) (fun _ _ h => by cases h) (fun _ _ h => by cases h) rfl rfl ⟨by decide, rfl⟩ pm_mU (fun _ _ h => by cases h) (fun _ h => by cases h)
set_option maxRecDepth 100000 in
theorem pb_X1_bar : pm_bks ie_X1_bar.1.2.2.2.2 pk_X1_bar = true := by decide +kernel
set_option maxRecDepth 100000 in
theorem pg_X1_bar_36 {lf : pj_Z → mj_M} (hT : pj_Lt pj_TC lf) : ∀ (b1 : Int32) (s : Nat → Int32) (l : Nat → Int64) (x : Nat → Int32) (y : Nat → Int64) (a : Unit × pj_Z), pl_X1_bar_36 b1 s l x y = some a → pm_Gd 0 1002 ie_X1_bar.1 pm_rU lf 36 [] [.int b1, .ref 102] (s, l, x, y) a := by
  intro b1 s l x y a h
  exact pm_run ((pq_X1_bar_36  b1 s l x y).symm.trans h) (pz_X1_bar hT) (pm_bks_ok pb_X1_bar) (pm_bks_ok pb_X1_bar _ _ rfl) (pm_ndb_ok rfl) (fun _ _ h => by cases h)
set_option maxRecDepth 100000 in
theorem pg_X1_bar_13 {lf : pj_Z → mj_M} (hT : pj_Lt pj_TC lf) : ∀ (a1 : Int32) (b1 : Int32) (s : Nat → Int32) (l : Nat → Int64) (x : Nat → Int32) (y : Nat → Int64) (a : Unit × pj_Z), pl_X1_bar_13 a1 b1 s l x y = some a → pm_Gd 0 1002 ie_X1_bar.1 pm_rU lf 13 [(0, .ref 102), (1, .int a1)] [.int b1, .ref 102] (s, l, x, y) a := by
  intro a1 b1 s l x y a h
  exact pm_run ((pq_X1_bar_13  a1 b1 s l x y).symm.trans h) (pz_X1_bar hT) (pm_bks_ok pb_X1_bar) (pm_bks_ok pb_X1_bar _ _ rfl) (pm_ndb_ok rfl) (pj_as_all (p := pm_Ex 0 1002 ie_X1_bar.1 pm_rU lf a) (List.forall_mem_cons.mpr ⟨pu_X1_bar_36 _ (fun c0 s l x y h => pg_X1_bar_36 hT c0 s l x y _ h), (fun _ h => by cases h)⟩))
set_option maxRecDepth 100000 in
theorem pm_X1_bar {lf : pj_Z → mj_M} (hT : pj_Lt pj_TC lf) (a1 : Int32) (s : Nat → Int32) (l : Nat → Int64) (x : Nat → Int32) (y : Nat → Int64) (a : Unit × pj_Z) (h : pf_X1_bar a1 s l x y = some a) : mj_R ic_P 1 1002 [.ref 102, .int a1] (lf (s, l, x, y)) (pm_rU a.1) (lf a.2) := by
  refine pm_main (Y := ie_X1_bar.1) rfl (Nat.le_of_ble_eq_true rfl) ?_
  exact pm_run ((pq_X1_bar_m a1 s l x y).symm.trans h) (pz_X1_bar hT) (pm_bks_ok pb_X1_bar) (pm_bks_ok pb_X1_bar _ _ rfl) (pm_ndb_ok rfl) (pj_as_all (p := pm_Ex 0 1002 ie_X1_bar.1 pm_rU lf a) (List.forall_mem_cons.mpr ⟨pu_X1_bar_13 _ (fun c0 c1 s l x y h => pg_X1_bar_13 hT c0 c1 s l x y _ h), (fun _ h => by cases h)⟩))
abbrev ph_X1_bar {A : Type} : List pj_V → pj_Z → (List pj_V → pj_Z → Option A) → Option A := fun st z K => pj_pi st fun a1 st => pj_pr st 102 0 fun st => pj_ps st (pj_b (pf_X1_bar a1 z.1 z.2.1 z.2.2.1 z.2.2.2) fun r s l x y => K st (s, l, x, y))
set_option maxRecDepth 100000 in
theorem pc_X1_bar {A : Type} {OK : A → Option Value → mj_M → Prop} {d j pc ix : Nat} {Y : mj_Y} {lf : pj_Z → mj_M} (hT : pj_Lt pj_TC lf) (hd : 1 ≤ d) (hl : mj_lk Y.2.2.2.2 pc = some (.invokevirtual ix, 3)) (hg : mj_pG ic_P j ix = some (1002, 1, some 1)) {lv : List (Nat × Value)} {st : List pj_V} {z : pj_Z} {K : List pj_V → pj_Z → Option A} {a : A} (hK : ∀ st z, K st z = some a → pj_Gd ic_P (mj_R ic_P d) j Y OK lf (pc + 3) lv (pj_es st) z a) (h : ph_X1_bar st z K = some a) : pj_Gd ic_P (mj_R ic_P d) j Y OK lf pc lv (pj_es st) z a := by
  obtain ⟨a1, r1, e1, h⟩ := pj_pi_inv h
  obtain ⟨r0, e0, h⟩ := pj_pr_inv h
  obtain ⟨hs, h⟩ := pj_ps_inv h
  obtain ⟨q, hq, h⟩ := pj_b_inv h
  exact pm_cv (o := 102) hl hg [.int a1] rfl (by rw [e1, e0]; rfl) hs (by decide) ((hT.2 102 _ rfl).1.2 z 0 (by decide)) (pm_rU q.1) hd (pm_X1_bar hT a1 z.1 z.2.1 z.2.2.1 z.2.2.2 q hq) rfl (hK _ _ h)
abbrev pe_X10_takeOver_10 (f : Nat → Int32 → pj_F (Unit × pj_Z)) : pj_K (Unit × pj_Z) := fun lv st z => pj_xr lv 0 85 0 <| pj_xw lv 1 12 fun a1 => pj_xi lv 2 fun a2 => pj_pe st (f a1 a2 z.1 z.2.1 z.2.2.1 z.2.2.2)
abbrev pe_X10_takeOver_31 (f : Nat → Int32 → pj_F (Unit × pj_Z)) : pj_K (Unit × pj_Z) := fun lv st z => pj_xr lv 0 85 0 <| pj_xw lv 1 12 fun a1 => pj_xi lv 2 fun a2 => pj_pe st (f a1 a2 z.1 z.2.1 z.2.2.1 z.2.2.2)
abbrev pe_X10_takeOver_48 (f : Nat → Int32 → pj_F (Unit × pj_Z)) : pj_K (Unit × pj_Z) := fun lv st z => pj_xr lv 0 85 0 <| pj_xw lv 1 12 fun a1 => pj_xi lv 2 fun a2 => pj_pe st (f a1 a2 z.1 z.2.1 z.2.2.1 z.2.2.2)
abbrev pe_X10_takeOver_66 (f : Nat → Int32 → pj_F (Unit × pj_Z)) : pj_K (Unit × pj_Z) := fun lv st z => pj_xr lv 0 85 0 <| pj_xw lv 1 12 fun a1 => pj_xi lv 2 fun a2 => pj_pe st (f a1 a2 z.1 z.2.1 z.2.2.1 z.2.2.2)
abbrev pe_X10_takeOver_111 (f : Nat → pj_F (Unit × pj_Z)) : pj_K (Unit × pj_Z) := fun lv st z => pj_xr lv 0 85 0 <| pj_xw lv 1 12 fun a1 => pj_pr st 85 0 fun st => pj_pe st (f a1 z.1 z.2.1 z.2.2.1 z.2.2.2)
abbrev pe_X10_takeOver_112 (f : Nat → Int32 → pj_F (Unit × pj_Z)) : pj_K (Unit × pj_Z) := fun lv st z => pj_xr lv 0 85 0 <| pj_xw lv 1 12 fun a1 => pj_pi st fun b1 st => pj_pr st 85 0 fun st => pj_pe st (f a1 b1 z.1 z.2.1 z.2.2.1 z.2.2.2)
abbrev pe_X10_takeOver_117 (f : Nat → Int32 → pj_F (Unit × pj_Z)) : pj_K (Unit × pj_Z) := fun lv st z => pj_xr lv 0 85 0 <| pj_xw lv 1 12 fun a1 => pj_xi lv 2 fun a2 => pj_pe st (f a1 a2 z.1 z.2.1 z.2.2.1 z.2.2.2)
abbrev pe_X10_takeOver_145 (f : Nat → Int32 → Int32 → Int32 → pj_F (Unit × pj_Z)) : pj_K (Unit × pj_Z) := fun lv st z => pj_xr lv 0 85 0 <| pj_xw lv 1 12 fun a1 => pj_xi lv 2 fun a2 => pj_pi st fun b2 st => pj_pi st fun b1 st => pj_pr st 95 0 fun st => pj_pe st (f a1 a2 b1 b2 z.1 z.2.1 z.2.2.1 z.2.2.2)
abbrev pe_X10_takeOver_169 (f : Nat → pj_F (Unit × pj_Z)) : pj_K (Unit × pj_Z) := fun lv st z => pj_xr lv 0 85 0 <| pj_xw lv 1 12 fun a1 => pj_pe st (f a1 z.1 z.2.1 z.2.2.1 z.2.2.2)
abbrev px_X10_takeOver : pj_C (Unit × pj_Z) := ((pj_as [(12, 100, 55, 2, 1, true, 13000, []), (85, 10, 8, 1, 0, true, 0, [(2, 86), (2, 95), (0, 87), (0, 88), (0, 89), (0, 90), (0, 91), (0, 92)]), (86, 103, 8, 1, 0, true, 87, []), (87, 100, 28, 8, 1, true, 40000, []), (95, 100, 8, 1, 0, false, 8000, [])]), (pj_as [(11, 10, 0, 2, true), (16, 10, 1, 2, true), (23, 10, 3, 0, false), (45, 10, 2, 3, false)]), (fun _ => none), (fun _ => none), (fun _ => none), ic_X, 3, 0, pj_mU, (fun _ => none), fun _ => false)
abbrev pk_X10_takeOver : List (Nat × List (Nat × Instr × Nat)) := [(0, [(0, .aload_n 1, 1), (1, .arraylength, 1), (2, .bipush 55, 2), (4, .if_icmp .ge 4, 3)]), (7, [(7, .return_, 1)]), (8, [(8, .iconst 0, 1), (9, .istore_n 2, 1)]), (10, [(10, .iload_n 2, 1), (11, .bipush 28, 2), (13, .if_icmp .ge 76, 3)]), (16, [(16, .aload_n 0, 1), (17, .getfield 11, 3), (20, .iconst 2, 1), (21, .aaload, 1), (22, .iload_n 2, 1), (23, .aload_n 1, 1), (24, .iconst 1, 1), (25, .iload_n 2, 1), (26, .iadd, 1), (27, .iaload, 1), (28, .iconst 1, 1), (29, .iand, 1), (30, .iastore, 1)]), (31, [(31, .aload_n 0, 1), (32, .getfield 11, 3), (35, .iconst 3, 1), (36, .aaload, 1), (37, .iload_n 2, 1), (38, .aload_n 1, 1), (39, .iconst 1, 1), (40, .iload_n 2, 1), (41, .iadd, 1), (42, .iaload, 1), (43, .iconst 1, 1), (44, .ishr, 1), (45, .iconst 1, 1), (46, .iand, 1), (47, .iastore, 1)]), (48, [(48, .aload_n 0, 1), (49, .getfield 11, 3), (52, .iconst 4, 1), (53, .aaload, 1), (54, .iload_n 2, 1), (55, .aload_n 1, 1), (56, .iconst 1, 1), (57, .iload_n 2, 1), (58, .iadd, 1), (59, .iaload, 1), (60, .iconst 2, 1), (61, .iushr, 1), (62, .bipush 40, 2), (64, .irem, 1), (65, .iastore, 1)]), (66, [(66, .aload_n 0, 1), (67, .getfield 11, 3), (70, .bipush 7, 2), (72, .aaload, 1), (73, .iload_n 2, 1), (74, .aload_n 0, 1), (75, .getfield 11, 3), (78, .iconst 2, 1), (79, .aaload, 1), (80, .iload_n 2, 1), (81, .iaload, 1), (82, .iastore, 1), (83, .iinc 2 1, 3), (86, .goto (-76), 3)]), (89, [(89, .aload_n 0, 1), (90, .aload_n 1, 1), (91, .bipush 29, 2), (93, .iaload, 1), (94, .iconst 1, 1), (95, .if_icmp .lt 16, 3)]), (98, [(98, .aload_n 1, 1), (99, .bipush 29, 2), (101, .iaload, 1), (102, .bipush 28, 2), (104, .if_icmp .gt 7, 3)]), (107, [(107, .iconst 1, 1), (108, .goto 4, 3)]), (111, [(111, .iconst 0, 1)]), (112, [(112, .putfield 45, 3), (115, .iconst 0, 1), (116, .istore_n 2, 1)]), (117, [(117, .iload_n 2, 1), (118, .bipush 8, 2), (120, .if_icmp .ge 32, 3)]), (123, [(123, .aload_n 0, 1), (124, .getfield 16, 3), (127, .iload_n 2, 1), (128, .aload_n 0, 1), (129, .getfield 45, 3), (132, .ifCond .eq 12, 3)]), (135, [(135, .aload_n 1, 1), (136, .bipush 29, 2), (138, .iload_n 2, 1), (139, .iadd, 1), (140, .iaload, 1), (141, .goto 4, 3)]), (144, [(144, .iconst 0, 1)]), (145, [(145, .iastore, 1), (146, .iinc 2 1, 3), (149, .goto (-32), 3)]), (152, [(152, .aload_n 0, 1), (153, .getfield 45, 3), (156, .ifCond .eq 13, 3)]), (159, [(159, .aload_n 0, 1), (160, .getfield 16, 3), (163, .iconst 0, 1), (164, .dup2, 1), (165, .iaload, 1), (166, .iconst 1, 1), (167, .isub, 1), (168, .iastore, 1)]), (169, [(169, .aload_n 0, 1), (170, .aload_n 1, 1), (171, .bipush 53, 2), (173, .iaload, 1), (174, .putfield 23, 3), (177, .return_, 1)])]
set_option maxRecDepth 100000 in
theorem pq_X10_takeOver_66 (fu : Nat)  (k10 : Nat → Int32 → pj_F (Unit × pj_Z)) (a1 : Nat) (a2 : Int32) (s : Nat → Int32) (l : Nat → Int64) (x : Nat → Int32) (y : Nat → Int64) : pl_X10_takeOver_66 fu k10 a1 a2 s l x y = pj_bl px_X10_takeOver (pj_rn px_X10_takeOver (pj_as pk_X10_takeOver) (pj_as [(10, pe_X10_takeOver_10 k10)]) 60) [(66, .aload_n 0, 1), (67, .getfield 11, 3), (70, .bipush 7, 2), (72, .aaload, 1), (73, .iload_n 2, 1), (74, .aload_n 0, 1), (75, .getfield 11, 3), (78, .iconst 2, 1), (79, .aaload, 1), (80, .iload_n 2, 1), (81, .iaload, 1), (82, .iastore, 1), (83, .iinc 2 1, 3), (86, .goto (-76), 3)] 66 [(0, pj_O (85, 0)), (1, pj_W (12, a1)), (2, pj_I a2)] [] (s, l, x, y) := rfl
set_option maxRecDepth 100000 in
theorem pq_X10_takeOver_48 (fu : Nat)  (k10 : Nat → Int32 → pj_F (Unit × pj_Z)) (a1 : Nat) (a2 : Int32) (s : Nat → Int32) (l : Nat → Int64) (x : Nat → Int32) (y : Nat → Int64) : pl_X10_takeOver_48 fu k10 a1 a2 s l x y = pj_bl px_X10_takeOver (pj_rn px_X10_takeOver (pj_as pk_X10_takeOver) (pj_as [(10, pe_X10_takeOver_10 k10), (66, pe_X10_takeOver_66 (pl_X10_takeOver_66 fu k10))]) 60) [(48, .aload_n 0, 1), (49, .getfield 11, 3), (52, .iconst 4, 1), (53, .aaload, 1), (54, .iload_n 2, 1), (55, .aload_n 1, 1), (56, .iconst 1, 1), (57, .iload_n 2, 1), (58, .iadd, 1), (59, .iaload, 1), (60, .iconst 2, 1), (61, .iushr, 1), (62, .bipush 40, 2), (64, .irem, 1), (65, .iastore, 1)] 48 [(0, pj_O (85, 0)), (1, pj_W (12, a1)), (2, pj_I a2)] [] (s, l, x, y) := rfl
set_option maxRecDepth 100000 in
theorem pq_X10_takeOver_31 (fu : Nat)  (k10 : Nat → Int32 → pj_F (Unit × pj_Z)) (a1 : Nat) (a2 : Int32) (s : Nat → Int32) (l : Nat → Int64) (x : Nat → Int32) (y : Nat → Int64) : pl_X10_takeOver_31 fu k10 a1 a2 s l x y = pj_bl px_X10_takeOver (pj_rn px_X10_takeOver (pj_as pk_X10_takeOver) (pj_as [(10, pe_X10_takeOver_10 k10), (48, pe_X10_takeOver_48 (pl_X10_takeOver_48 fu k10))]) 60) [(31, .aload_n 0, 1), (32, .getfield 11, 3), (35, .iconst 3, 1), (36, .aaload, 1), (37, .iload_n 2, 1), (38, .aload_n 1, 1), (39, .iconst 1, 1), (40, .iload_n 2, 1), (41, .iadd, 1), (42, .iaload, 1), (43, .iconst 1, 1), (44, .ishr, 1), (45, .iconst 1, 1), (46, .iand, 1), (47, .iastore, 1)] 31 [(0, pj_O (85, 0)), (1, pj_W (12, a1)), (2, pj_I a2)] [] (s, l, x, y) := rfl
set_option maxRecDepth 100000 in
theorem pq_X10_takeOver_145 (fu : Nat)  (k117 : Nat → Int32 → pj_F (Unit × pj_Z)) (a1 : Nat) (a2 : Int32) (b1 : Int32) (b2 : Int32) (s : Nat → Int32) (l : Nat → Int64) (x : Nat → Int32) (y : Nat → Int64) : pl_X10_takeOver_145 fu k117 a1 a2 b1 b2 s l x y = pj_bl px_X10_takeOver (pj_rn px_X10_takeOver (pj_as pk_X10_takeOver) (pj_as [(117, pe_X10_takeOver_117 k117)]) 60) [(145, .iastore, 1), (146, .iinc 2 1, 3), (149, .goto (-32), 3)] 145 [(0, pj_O (85, 0)), (1, pj_W (12, a1)), (2, pj_I a2)] [pj_I b2, pj_I b1, pj_O (95, 0)] (s, l, x, y) := rfl
set_option maxRecDepth 100000 in
theorem pq_X10_takeOver_169 (fu : Nat)  (a1 : Nat) (s : Nat → Int32) (l : Nat → Int64) (x : Nat → Int32) (y : Nat → Int64) : pl_X10_takeOver_169 fu a1 s l x y = pj_bl px_X10_takeOver (pj_rn px_X10_takeOver (pj_as pk_X10_takeOver) (fun _ => none) 60) [(169, .aload_n 0, 1), (170, .aload_n 1, 1), (171, .bipush 53, 2), (173, .iaload, 1), (174, .putfield 23, 3), (177, .return_, 1)] 169 [(0, pj_O (85, 0)), (1, pj_W (12, a1))] [] (s, l, x, y) := rfl
set_option maxRecDepth 100000 in
theorem pq_X10_takeOver_117 (fu : Nat)  (n : Nat) (a1 : Nat) (a2 : Int32) (s : Nat → Int32) (l : Nat → Int64) (x : Nat → Int32) (y : Nat → Int64) : pl_X10_takeOver_117 fu (n + 1) a1 a2 s l x y = pj_bl px_X10_takeOver (pj_rn px_X10_takeOver (pj_as pk_X10_takeOver) (pj_as [(117, pe_X10_takeOver_117 (pl_X10_takeOver_117 fu n)), (145, pe_X10_takeOver_145 (pl_X10_takeOver_145 fu (pl_X10_takeOver_117 fu n))), (169, pe_X10_takeOver_169 (pl_X10_takeOver_169 fu))]) 60) [(117, .iload_n 2, 1), (118, .bipush 8, 2), (120, .if_icmp .ge 32, 3)] 117 [(0, pj_O (85, 0)), (1, pj_W (12, a1)), (2, pj_I a2)] [] (s, l, x, y) := rfl
set_option maxRecDepth 100000 in
theorem pq_X10_takeOver_112 (fu : Nat)  (a1 : Nat) (b1 : Int32) (s : Nat → Int32) (l : Nat → Int64) (x : Nat → Int32) (y : Nat → Int64) : pl_X10_takeOver_112 fu a1 b1 s l x y = pj_bl px_X10_takeOver (pj_rn px_X10_takeOver (pj_as pk_X10_takeOver) (pj_as [(117, pe_X10_takeOver_117 (pl_X10_takeOver_117 fu fu))]) 60) [(112, .putfield 45, 3), (115, .iconst 0, 1), (116, .istore_n 2, 1)] 112 [(0, pj_O (85, 0)), (1, pj_W (12, a1))] [pj_I b1, pj_O (85, 0)] (s, l, x, y) := rfl
set_option maxRecDepth 100000 in
theorem pq_X10_takeOver_111 (fu : Nat)  (a1 : Nat) (s : Nat → Int32) (l : Nat → Int64) (x : Nat → Int32) (y : Nat → Int64) : pl_X10_takeOver_111 fu a1 s l x y = pj_bl px_X10_takeOver (pj_rn px_X10_takeOver (pj_as pk_X10_takeOver) (pj_as [(112, pe_X10_takeOver_112 (pl_X10_takeOver_112 fu))]) 60) [(111, .iconst 0, 1)] 111 [(0, pj_O (85, 0)), (1, pj_W (12, a1))] [pj_O (85, 0)] (s, l, x, y) := rfl
set_option maxRecDepth 100000 in
theorem pq_X10_takeOver_10 (fu : Nat)  (n : Nat) (a1 : Nat) (a2 : Int32) (s : Nat → Int32) (l : Nat → Int64) (x : Nat → Int32) (y : Nat → Int64) : pl_X10_takeOver_10 fu (n + 1) a1 a2 s l x y = pj_bl px_X10_takeOver (pj_rn px_X10_takeOver (pj_as pk_X10_takeOver) (pj_as [(10, pe_X10_takeOver_10 (pl_X10_takeOver_10 fu n)), (31, pe_X10_takeOver_31 (pl_X10_takeOver_31 fu (pl_X10_takeOver_10 fu n))), (111, pe_X10_takeOver_111 (pl_X10_takeOver_111 fu)), (112, pe_X10_takeOver_112 (pl_X10_takeOver_112 fu))]) 60) [(10, .iload_n 2, 1), (11, .bipush 28, 2), (13, .if_icmp .ge 76, 3)] 10 [(0, pj_O (85, 0)), (1, pj_W (12, a1)), (2, pj_I a2)] [] (s, l, x, y) := rfl
set_option maxRecDepth 100000 in
theorem pq_X10_takeOver_m (fu : Nat)  (a1 : Nat) (s : Nat → Int32) (l : Nat → Int64) (x : Nat → Int32) (y : Nat → Int64) : po_X10_takeOver fu a1 s l x y = pj_bl px_X10_takeOver (pj_rn px_X10_takeOver (pj_as pk_X10_takeOver) (pj_as [(10, pe_X10_takeOver_10 (pl_X10_takeOver_10 fu fu))]) 60) [(0, .aload_n 1, 1), (1, .arraylength, 1), (2, .bipush 55, 2), (4, .if_icmp .ge 4, 3)] 0 [(0, pj_O (85, 0)), (1, pj_W (12, a1))] [] (s, l, x, y) := rfl
theorem pu_X10_takeOver_10 {lf : pj_Z → mj_M} {a : Unit × pj_Z} (f : Nat → Int32 → pj_F (Unit × pj_Z)) (hf : ∀ (a1 : Nat) (a2 : Int32) (s : Nat → Int32) (l : Nat → Int64) (x : Nat → Int32) (y : Nat → Int64), f a1 a2 s l x y = some a → pm_Gd 0 10011 ie_X10_takeOver.1 pm_rU lf 10 [(0, .ref 85), (1, .ref (12 + a1)), (2, .int a2)] [] (s, l, x, y) a) : pm_Ex 0 10011 ie_X10_takeOver.1 pm_rU lf a 10 (pe_X10_takeOver_10 f) := by
  intro lv st z hd h
  obtain ⟨g0, h⟩ := pj_xr_inv h
  obtain ⟨a1, g1, h⟩ := pj_xw_inv h
  obtain ⟨a2, g2, h⟩ := pj_xi_inv h
  obtain ⟨e9, h⟩ := pj_pe_inv h
  rw [e9]
  exact mj_wp_sub (mj_sub_cons g0 (mj_sub_cons g1 (mj_sub_cons g2 (mj_sub_nil hd)))) (hf _ _ _ _ _ _ h)
theorem pu_X10_takeOver_31 {lf : pj_Z → mj_M} {a : Unit × pj_Z} (f : Nat → Int32 → pj_F (Unit × pj_Z)) (hf : ∀ (a1 : Nat) (a2 : Int32) (s : Nat → Int32) (l : Nat → Int64) (x : Nat → Int32) (y : Nat → Int64), f a1 a2 s l x y = some a → pm_Gd 0 10011 ie_X10_takeOver.1 pm_rU lf 31 [(0, .ref 85), (1, .ref (12 + a1)), (2, .int a2)] [] (s, l, x, y) a) : pm_Ex 0 10011 ie_X10_takeOver.1 pm_rU lf a 31 (pe_X10_takeOver_31 f) := by
  intro lv st z hd h
  obtain ⟨g0, h⟩ := pj_xr_inv h
  obtain ⟨a1, g1, h⟩ := pj_xw_inv h
  obtain ⟨a2, g2, h⟩ := pj_xi_inv h
  obtain ⟨e9, h⟩ := pj_pe_inv h
  rw [e9]
  exact mj_wp_sub (mj_sub_cons g0 (mj_sub_cons g1 (mj_sub_cons g2 (mj_sub_nil hd)))) (hf _ _ _ _ _ _ h)
theorem pu_X10_takeOver_48 {lf : pj_Z → mj_M} {a : Unit × pj_Z} (f : Nat → Int32 → pj_F (Unit × pj_Z)) (hf : ∀ (a1 : Nat) (a2 : Int32) (s : Nat → Int32) (l : Nat → Int64) (x : Nat → Int32) (y : Nat → Int64), f a1 a2 s l x y = some a → pm_Gd 0 10011 ie_X10_takeOver.1 pm_rU lf 48 [(0, .ref 85), (1, .ref (12 + a1)), (2, .int a2)] [] (s, l, x, y) a) : pm_Ex 0 10011 ie_X10_takeOver.1 pm_rU lf a 48 (pe_X10_takeOver_48 f) := by
  intro lv st z hd h
  obtain ⟨g0, h⟩ := pj_xr_inv h
  obtain ⟨a1, g1, h⟩ := pj_xw_inv h
  obtain ⟨a2, g2, h⟩ := pj_xi_inv h
  obtain ⟨e9, h⟩ := pj_pe_inv h
  rw [e9]
  exact mj_wp_sub (mj_sub_cons g0 (mj_sub_cons g1 (mj_sub_cons g2 (mj_sub_nil hd)))) (hf _ _ _ _ _ _ h)
theorem pu_X10_takeOver_66 {lf : pj_Z → mj_M} {a : Unit × pj_Z} (f : Nat → Int32 → pj_F (Unit × pj_Z)) (hf : ∀ (a1 : Nat) (a2 : Int32) (s : Nat → Int32) (l : Nat → Int64) (x : Nat → Int32) (y : Nat → Int64), f a1 a2 s l x y = some a → pm_Gd 0 10011 ie_X10_takeOver.1 pm_rU lf 66 [(0, .ref 85), (1, .ref (12 + a1)), (2, .int a2)] [] (s, l, x, y) a) : pm_Ex 0 10011 ie_X10_takeOver.1 pm_rU lf a 66 (pe_X10_takeOver_66 f) := by
  intro lv st z hd h
  obtain ⟨g0, h⟩ := pj_xr_inv h
  obtain ⟨a1, g1, h⟩ := pj_xw_inv h
  obtain ⟨a2, g2, h⟩ := pj_xi_inv h
  obtain ⟨e9, h⟩ := pj_pe_inv h
  rw [e9]
  exact mj_wp_sub (mj_sub_cons g0 (mj_sub_cons g1 (mj_sub_cons g2 (mj_sub_nil hd)))) (hf _ _ _ _ _ _ h)
theorem pu_X10_takeOver_111 {lf : pj_Z → mj_M} {a : Unit × pj_Z} (f : Nat → pj_F (Unit × pj_Z)) (hf : ∀ (a1 : Nat) (s : Nat → Int32) (l : Nat → Int64) (x : Nat → Int32) (y : Nat → Int64), f a1 s l x y = some a → pm_Gd 0 10011 ie_X10_takeOver.1 pm_rU lf 111 [(0, .ref 85), (1, .ref (12 + a1))] [.ref 85] (s, l, x, y) a) : pm_Ex 0 10011 ie_X10_takeOver.1 pm_rU lf a 111 (pe_X10_takeOver_111 f) := by
  intro lv st z hd h
  obtain ⟨g0, h⟩ := pj_xr_inv h
  obtain ⟨a1, g1, h⟩ := pj_xw_inv h
  obtain ⟨r0, e0, h⟩ := pj_pr_inv h
  obtain ⟨e9, h⟩ := pj_pe_inv h
  rw [e0, e9]
  exact mj_wp_sub (mj_sub_cons g0 (mj_sub_cons g1 (mj_sub_nil hd))) (hf _ _ _ _ _ h)
theorem pu_X10_takeOver_112 {lf : pj_Z → mj_M} {a : Unit × pj_Z} (f : Nat → Int32 → pj_F (Unit × pj_Z)) (hf : ∀ (a1 : Nat) (b1 : Int32) (s : Nat → Int32) (l : Nat → Int64) (x : Nat → Int32) (y : Nat → Int64), f a1 b1 s l x y = some a → pm_Gd 0 10011 ie_X10_takeOver.1 pm_rU lf 112 [(0, .ref 85), (1, .ref (12 + a1))] [.int b1, .ref 85] (s, l, x, y) a) : pm_Ex 0 10011 ie_X10_takeOver.1 pm_rU lf a 112 (pe_X10_takeOver_112 f) := by
  intro lv st z hd h
  obtain ⟨g0, h⟩ := pj_xr_inv h
  obtain ⟨a1, g1, h⟩ := pj_xw_inv h
  obtain ⟨b1, r1, e1, h⟩ := pj_pi_inv h
  obtain ⟨r0, e0, h⟩ := pj_pr_inv h
  obtain ⟨e9, h⟩ := pj_pe_inv h
  rw [e1, e0, e9]
  exact mj_wp_sub (mj_sub_cons g0 (mj_sub_cons g1 (mj_sub_nil hd))) (hf _ _ _ _ _ _ h)
theorem pu_X10_takeOver_117 {lf : pj_Z → mj_M} {a : Unit × pj_Z} (f : Nat → Int32 → pj_F (Unit × pj_Z)) (hf : ∀ (a1 : Nat) (a2 : Int32) (s : Nat → Int32) (l : Nat → Int64) (x : Nat → Int32) (y : Nat → Int64), f a1 a2 s l x y = some a → pm_Gd 0 10011 ie_X10_takeOver.1 pm_rU lf 117 [(0, .ref 85), (1, .ref (12 + a1)), (2, .int a2)] [] (s, l, x, y) a) : pm_Ex 0 10011 ie_X10_takeOver.1 pm_rU lf a 117 (pe_X10_takeOver_117 f) := by
  intro lv st z hd h
  obtain ⟨g0, h⟩ := pj_xr_inv h
  obtain ⟨a1, g1, h⟩ := pj_xw_inv h
  obtain ⟨a2, g2, h⟩ := pj_xi_inv h
  obtain ⟨e9, h⟩ := pj_pe_inv h
  rw [e9]
  exact mj_wp_sub (mj_sub_cons g0 (mj_sub_cons g1 (mj_sub_cons g2 (mj_sub_nil hd)))) (hf _ _ _ _ _ _ h)
theorem pu_X10_takeOver_145 {lf : pj_Z → mj_M} {a : Unit × pj_Z} (f : Nat → Int32 → Int32 → Int32 → pj_F (Unit × pj_Z)) (hf : ∀ (a1 : Nat) (a2 : Int32) (b1 : Int32) (b2 : Int32) (s : Nat → Int32) (l : Nat → Int64) (x : Nat → Int32) (y : Nat → Int64), f a1 a2 b1 b2 s l x y = some a → pm_Gd 0 10011 ie_X10_takeOver.1 pm_rU lf 145 [(0, .ref 85), (1, .ref (12 + a1)), (2, .int a2)] [.int b2, .int b1, .ref 95] (s, l, x, y) a) : pm_Ex 0 10011 ie_X10_takeOver.1 pm_rU lf a 145 (pe_X10_takeOver_145 f) := by
  intro lv st z hd h
  obtain ⟨g0, h⟩ := pj_xr_inv h
  obtain ⟨a1, g1, h⟩ := pj_xw_inv h
  obtain ⟨a2, g2, h⟩ := pj_xi_inv h
  obtain ⟨b2, r2, e2, h⟩ := pj_pi_inv h
  obtain ⟨b1, r1, e1, h⟩ := pj_pi_inv h
  obtain ⟨r0, e0, h⟩ := pj_pr_inv h
  obtain ⟨e9, h⟩ := pj_pe_inv h
  rw [e2, e1, e0, e9]
  exact mj_wp_sub (mj_sub_cons g0 (mj_sub_cons g1 (mj_sub_cons g2 (mj_sub_nil hd)))) (hf _ _ _ _ _ _ _ _ h)
theorem pu_X10_takeOver_169 {lf : pj_Z → mj_M} {a : Unit × pj_Z} (f : Nat → pj_F (Unit × pj_Z)) (hf : ∀ (a1 : Nat) (s : Nat → Int32) (l : Nat → Int64) (x : Nat → Int32) (y : Nat → Int64), f a1 s l x y = some a → pm_Gd 0 10011 ie_X10_takeOver.1 pm_rU lf 169 [(0, .ref 85), (1, .ref (12 + a1))] [] (s, l, x, y) a) : pm_Ex 0 10011 ie_X10_takeOver.1 pm_rU lf a 169 (pe_X10_takeOver_169 f) := by
  intro lv st z hd h
  obtain ⟨g0, h⟩ := pj_xr_inv h
  obtain ⟨a1, g1, h⟩ := pj_xw_inv h
  obtain ⟨e9, h⟩ := pj_pe_inv h
  rw [e9]
  exact mj_wp_sub (mj_sub_cons g0 (mj_sub_cons g1 (mj_sub_nil hd))) (hf _ _ _ _ _ h)
set_option maxRecDepth 100000 in
theorem pz_X10_takeOver {lf : pj_Z → mj_M} (hT : pj_Lt pj_TC lf) : pj_Cok ic_P (mj_R ic_P 0) 10011 ie_X10_takeOver.1 (pm_OK lf pm_rU) lf px_X10_takeOver := by
  exact pm_cok (c := px_X10_takeOver) (pm_part hT (pj_as_all (p := fun b e => pj_TC b = some e) (List.forall_mem_cons.mpr ⟨rfl, (List.forall_mem_cons.mpr ⟨rfl, (List.forall_mem_cons.mpr ⟨rfl, (List.forall_mem_cons.mpr ⟨rfl, (List.forall_mem_cons.mpr ⟨rfl, (fun _ h => by cases h)⟩)⟩)⟩)⟩)⟩))) (pm_in_ok (L := [(11, 10, 0, 2, true), (16, 10, 1, 2, true), (23, 10, 3, 0, false), (45, 10, 2, 3, false)]) (f := mj_pF ic_P 10011) (by decide +kernel)) (fun _ _ h => by cases h) (fun _ _ h => by cases h) (fun _ _ h => by cases h) rfl rfl ⟨by decide, rfl⟩ pm_mU (fun _ _ h => by cases h) (fun _ h => by cases h)
set_option maxRecDepth 100000 in
theorem pb_X10_takeOver : pm_bks ie_X10_takeOver.1.2.2.2.2 pk_X10_takeOver = true := by decide +kernel
set_option maxRecDepth 100000 in
theorem pg_X10_takeOver_66 {fu : Nat} {lf : pj_Z → mj_M} (hT : pj_Lt pj_TC lf) {k10 : Nat → Int32 → pj_F (Unit × pj_Z)} (hk10 : ∀ (a1 : Nat) (a2 : Int32) (s : Nat → Int32) (l : Nat → Int64) (x : Nat → Int32) (y : Nat → Int64) (a : Unit × pj_Z), k10 a1 a2 s l x y = some a → pm_Gd 0 10011 ie_X10_takeOver.1 pm_rU lf 10 [(0, .ref 85), (1, .ref (12 + a1)), (2, .int a2)] [] (s, l, x, y) a) : ∀ (a1 : Nat) (a2 : Int32) (s : Nat → Int32) (l : Nat → Int64) (x : Nat → Int32) (y : Nat → Int64) (a : Unit × pj_Z), pl_X10_takeOver_66 fu k10 a1 a2 s l x y = some a → pm_Gd 0 10011 ie_X10_takeOver.1 pm_rU lf 66 [(0, .ref 85), (1, .ref (12 + a1)), (2, .int a2)] [] (s, l, x, y) a := by
  intro a1 a2 s l x y a h
  exact pm_run ((pq_X10_takeOver_66 fu k10 a1 a2 s l x y).symm.trans h) (pz_X10_takeOver hT) (pm_bks_ok pb_X10_takeOver) (pm_bks_ok pb_X10_takeOver _ _ rfl) (pm_ndb_ok rfl) (pj_as_all (p := pm_Ex 0 10011 ie_X10_takeOver.1 pm_rU lf a) (List.forall_mem_cons.mpr ⟨pu_X10_takeOver_10 _ (fun c0 c1 s l x y h => hk10 c0 c1 s l x y _ h), (fun _ h => by cases h)⟩))
set_option maxRecDepth 100000 in
theorem pg_X10_takeOver_48 {fu : Nat} {lf : pj_Z → mj_M} (hT : pj_Lt pj_TC lf) {k10 : Nat → Int32 → pj_F (Unit × pj_Z)} (hk10 : ∀ (a1 : Nat) (a2 : Int32) (s : Nat → Int32) (l : Nat → Int64) (x : Nat → Int32) (y : Nat → Int64) (a : Unit × pj_Z), k10 a1 a2 s l x y = some a → pm_Gd 0 10011 ie_X10_takeOver.1 pm_rU lf 10 [(0, .ref 85), (1, .ref (12 + a1)), (2, .int a2)] [] (s, l, x, y) a) : ∀ (a1 : Nat) (a2 : Int32) (s : Nat → Int32) (l : Nat → Int64) (x : Nat → Int32) (y : Nat → Int64) (a : Unit × pj_Z), pl_X10_takeOver_48 fu k10 a1 a2 s l x y = some a → pm_Gd 0 10011 ie_X10_takeOver.1 pm_rU lf 48 [(0, .ref 85), (1, .ref (12 + a1)), (2, .int a2)] [] (s, l, x, y) a := by
  intro a1 a2 s l x y a h
  exact pm_run ((pq_X10_takeOver_48 fu k10 a1 a2 s l x y).symm.trans h) (pz_X10_takeOver hT) (pm_bks_ok pb_X10_takeOver) (pm_bks_ok pb_X10_takeOver _ _ rfl) (pm_ndb_ok rfl) (pj_as_all (p := pm_Ex 0 10011 ie_X10_takeOver.1 pm_rU lf a) (List.forall_mem_cons.mpr ⟨pu_X10_takeOver_10 _ (fun c0 c1 s l x y h => hk10 c0 c1 s l x y _ h), (List.forall_mem_cons.mpr ⟨pu_X10_takeOver_66 _ (fun c0 c1 s l x y h => pg_X10_takeOver_66 hT hk10 c0 c1 s l x y _ h), (fun _ h => by cases h)⟩)⟩))
set_option maxRecDepth 100000 in
theorem pg_X10_takeOver_31 {fu : Nat} {lf : pj_Z → mj_M} (hT : pj_Lt pj_TC lf) {k10 : Nat → Int32 → pj_F (Unit × pj_Z)} (hk10 : ∀ (a1 : Nat) (a2 : Int32) (s : Nat → Int32) (l : Nat → Int64) (x : Nat → Int32) (y : Nat → Int64) (a : Unit × pj_Z), k10 a1 a2 s l x y = some a → pm_Gd 0 10011 ie_X10_takeOver.1 pm_rU lf 10 [(0, .ref 85), (1, .ref (12 + a1)), (2, .int a2)] [] (s, l, x, y) a) : ∀ (a1 : Nat) (a2 : Int32) (s : Nat → Int32) (l : Nat → Int64) (x : Nat → Int32) (y : Nat → Int64) (a : Unit × pj_Z), pl_X10_takeOver_31 fu k10 a1 a2 s l x y = some a → pm_Gd 0 10011 ie_X10_takeOver.1 pm_rU lf 31 [(0, .ref 85), (1, .ref (12 + a1)), (2, .int a2)] [] (s, l, x, y) a := by
  intro a1 a2 s l x y a h
  exact pm_run ((pq_X10_takeOver_31 fu k10 a1 a2 s l x y).symm.trans h) (pz_X10_takeOver hT) (pm_bks_ok pb_X10_takeOver) (pm_bks_ok pb_X10_takeOver _ _ rfl) (pm_ndb_ok rfl) (pj_as_all (p := pm_Ex 0 10011 ie_X10_takeOver.1 pm_rU lf a) (List.forall_mem_cons.mpr ⟨pu_X10_takeOver_10 _ (fun c0 c1 s l x y h => hk10 c0 c1 s l x y _ h), (List.forall_mem_cons.mpr ⟨pu_X10_takeOver_48 _ (fun c0 c1 s l x y h => pg_X10_takeOver_48 hT hk10 c0 c1 s l x y _ h), (fun _ h => by cases h)⟩)⟩))
set_option maxRecDepth 100000 in
theorem pg_X10_takeOver_145 {fu : Nat} {lf : pj_Z → mj_M} (hT : pj_Lt pj_TC lf) {k117 : Nat → Int32 → pj_F (Unit × pj_Z)} (hk117 : ∀ (a1 : Nat) (a2 : Int32) (s : Nat → Int32) (l : Nat → Int64) (x : Nat → Int32) (y : Nat → Int64) (a : Unit × pj_Z), k117 a1 a2 s l x y = some a → pm_Gd 0 10011 ie_X10_takeOver.1 pm_rU lf 117 [(0, .ref 85), (1, .ref (12 + a1)), (2, .int a2)] [] (s, l, x, y) a) : ∀ (a1 : Nat) (a2 : Int32) (b1 : Int32) (b2 : Int32) (s : Nat → Int32) (l : Nat → Int64) (x : Nat → Int32) (y : Nat → Int64) (a : Unit × pj_Z), pl_X10_takeOver_145 fu k117 a1 a2 b1 b2 s l x y = some a → pm_Gd 0 10011 ie_X10_takeOver.1 pm_rU lf 145 [(0, .ref 85), (1, .ref (12 + a1)), (2, .int a2)] [.int b2, .int b1, .ref 95] (s, l, x, y) a := by
  intro a1 a2 b1 b2 s l x y a h
  exact pm_run ((pq_X10_takeOver_145 fu k117 a1 a2 b1 b2 s l x y).symm.trans h) (pz_X10_takeOver hT) (pm_bks_ok pb_X10_takeOver) (pm_bks_ok pb_X10_takeOver _ _ rfl) (pm_ndb_ok rfl) (pj_as_all (p := pm_Ex 0 10011 ie_X10_takeOver.1 pm_rU lf a) (List.forall_mem_cons.mpr ⟨pu_X10_takeOver_117 _ (fun c0 c1 s l x y h => hk117 c0 c1 s l x y _ h), (fun _ h => by cases h)⟩))
set_option maxRecDepth 100000 in
theorem pg_X10_takeOver_169 {fu : Nat} {lf : pj_Z → mj_M} (hT : pj_Lt pj_TC lf) : ∀ (a1 : Nat) (s : Nat → Int32) (l : Nat → Int64) (x : Nat → Int32) (y : Nat → Int64) (a : Unit × pj_Z), pl_X10_takeOver_169 fu a1 s l x y = some a → pm_Gd 0 10011 ie_X10_takeOver.1 pm_rU lf 169 [(0, .ref 85), (1, .ref (12 + a1))] [] (s, l, x, y) a := by
  intro a1 s l x y a h
  exact pm_run ((pq_X10_takeOver_169 fu a1 s l x y).symm.trans h) (pz_X10_takeOver hT) (pm_bks_ok pb_X10_takeOver) (pm_bks_ok pb_X10_takeOver _ _ rfl) (pm_ndb_ok rfl) (fun _ _ h => by cases h)
set_option maxRecDepth 100000 in
theorem pg_X10_takeOver_117 {fu : Nat} {lf : pj_Z → mj_M} (hT : pj_Lt pj_TC lf) : ∀ (n : Nat), ∀ (a1 : Nat) (a2 : Int32) (s : Nat → Int32) (l : Nat → Int64) (x : Nat → Int32) (y : Nat → Int64) (a : Unit × pj_Z), pl_X10_takeOver_117 fu n a1 a2 s l x y = some a → pm_Gd 0 10011 ie_X10_takeOver.1 pm_rU lf 117 [(0, .ref 85), (1, .ref (12 + a1)), (2, .int a2)] [] (s, l, x, y) a := by
  intro n
  induction n with
  | zero => intro a1 a2 s l x y a h; cases (show (none : Option (Unit × pj_Z)) = some a from h)
  | succ n ih =>
    intro a1 a2 s l x y a h
    exact pm_run ((pq_X10_takeOver_117 fu n a1 a2 s l x y).symm.trans h) (pz_X10_takeOver hT) (pm_bks_ok pb_X10_takeOver) (pm_bks_ok pb_X10_takeOver _ _ rfl) (pm_ndb_ok rfl) (pj_as_all (p := pm_Ex 0 10011 ie_X10_takeOver.1 pm_rU lf a) (List.forall_mem_cons.mpr ⟨pu_X10_takeOver_117 _ (fun c0 c1 s l x y h => ih c0 c1 s l x y _ h), (List.forall_mem_cons.mpr ⟨pu_X10_takeOver_145 _ (fun c0 c1 c2 c3 s l x y h => pg_X10_takeOver_145 hT (fun a1 a2 s l x y a h => ih a1 a2 s l x y a h) c0 c1 c2 c3 s l x y _ h), (List.forall_mem_cons.mpr ⟨pu_X10_takeOver_169 _ (fun c0 s l x y h => pg_X10_takeOver_169 hT c0 s l x y _ h), (fun _ h => by cases h)⟩)⟩)⟩))
set_option maxRecDepth 100000 in
theorem pg_X10_takeOver_112 {fu : Nat} {lf : pj_Z → mj_M} (hT : pj_Lt pj_TC lf) : ∀ (a1 : Nat) (b1 : Int32) (s : Nat → Int32) (l : Nat → Int64) (x : Nat → Int32) (y : Nat → Int64) (a : Unit × pj_Z), pl_X10_takeOver_112 fu a1 b1 s l x y = some a → pm_Gd 0 10011 ie_X10_takeOver.1 pm_rU lf 112 [(0, .ref 85), (1, .ref (12 + a1))] [.int b1, .ref 85] (s, l, x, y) a := by
  intro a1 b1 s l x y a h
  exact pm_run ((pq_X10_takeOver_112 fu a1 b1 s l x y).symm.trans h) (pz_X10_takeOver hT) (pm_bks_ok pb_X10_takeOver) (pm_bks_ok pb_X10_takeOver _ _ rfl) (pm_ndb_ok rfl) (pj_as_all (p := pm_Ex 0 10011 ie_X10_takeOver.1 pm_rU lf a) (List.forall_mem_cons.mpr ⟨pu_X10_takeOver_117 _ (fun c0 c1 s l x y h => pg_X10_takeOver_117 hT _ c0 c1 s l x y _ h), (fun _ h => by cases h)⟩))
set_option maxRecDepth 100000 in
theorem pg_X10_takeOver_111 {fu : Nat} {lf : pj_Z → mj_M} (hT : pj_Lt pj_TC lf) : ∀ (a1 : Nat) (s : Nat → Int32) (l : Nat → Int64) (x : Nat → Int32) (y : Nat → Int64) (a : Unit × pj_Z), pl_X10_takeOver_111 fu a1 s l x y = some a → pm_Gd 0 10011 ie_X10_takeOver.1 pm_rU lf 111 [(0, .ref 85), (1, .ref (12 + a1))] [.ref 85] (s, l, x, y) a := by
  intro a1 s l x y a h
  exact pm_run ((pq_X10_takeOver_111 fu a1 s l x y).symm.trans h) (pz_X10_takeOver hT) (pm_bks_ok pb_X10_takeOver) (pm_bks_ok pb_X10_takeOver _ _ rfl) (pm_ndb_ok rfl) (pj_as_all (p := pm_Ex 0 10011 ie_X10_takeOver.1 pm_rU lf a) (List.forall_mem_cons.mpr ⟨pu_X10_takeOver_112 _ (fun c0 c1 s l x y h => pg_X10_takeOver_112 hT c0 c1 s l x y _ h), (fun _ h => by cases h)⟩))
set_option maxRecDepth 100000 in
theorem pg_X10_takeOver_10 {fu : Nat} {lf : pj_Z → mj_M} (hT : pj_Lt pj_TC lf) : ∀ (n : Nat), ∀ (a1 : Nat) (a2 : Int32) (s : Nat → Int32) (l : Nat → Int64) (x : Nat → Int32) (y : Nat → Int64) (a : Unit × pj_Z), pl_X10_takeOver_10 fu n a1 a2 s l x y = some a → pm_Gd 0 10011 ie_X10_takeOver.1 pm_rU lf 10 [(0, .ref 85), (1, .ref (12 + a1)), (2, .int a2)] [] (s, l, x, y) a := by
  intro n
  induction n with
  | zero => intro a1 a2 s l x y a h; cases (show (none : Option (Unit × pj_Z)) = some a from h)
  | succ n ih =>
    intro a1 a2 s l x y a h
    exact pm_run ((pq_X10_takeOver_10 fu n a1 a2 s l x y).symm.trans h) (pz_X10_takeOver hT) (pm_bks_ok pb_X10_takeOver) (pm_bks_ok pb_X10_takeOver _ _ rfl) (pm_ndb_ok rfl) (pj_as_all (p := pm_Ex 0 10011 ie_X10_takeOver.1 pm_rU lf a) (List.forall_mem_cons.mpr ⟨pu_X10_takeOver_10 _ (fun c0 c1 s l x y h => ih c0 c1 s l x y _ h), (List.forall_mem_cons.mpr ⟨pu_X10_takeOver_31 _ (fun c0 c1 s l x y h => pg_X10_takeOver_31 hT (fun a1 a2 s l x y a h => ih a1 a2 s l x y a h) c0 c1 s l x y _ h), (List.forall_mem_cons.mpr ⟨pu_X10_takeOver_111 _ (fun c0 s l x y h => pg_X10_takeOver_111 hT c0 s l x y _ h), (List.forall_mem_cons.mpr ⟨pu_X10_takeOver_112 _ (fun c0 c1 s l x y h => pg_X10_takeOver_112 hT c0 c1 s l x y _ h), (fun _ h => by cases h)⟩)⟩)⟩)⟩))
set_option maxRecDepth 100000 in
theorem pm_X10_takeOver {lf : pj_Z → mj_M} (hT : pj_Lt pj_TC lf) (a1 : Nat) (s : Nat → Int32) (l : Nat → Int64) (x : Nat → Int32) (y : Nat → Int64) (a : Unit × pj_Z) (h : pf_X10_takeOver a1 s l x y = some a) : mj_R ic_P 1 10011 [.ref 85, .ref (12 + a1)] (lf (s, l, x, y)) (pm_rU a.1) (lf a.2) := by
  refine pm_main (Y := ie_X10_takeOver.1) rfl (Nat.le_of_ble_eq_true rfl) ?_
  exact pm_run ((pq_X10_takeOver_m 1000 a1 s l x y).symm.trans h) (pz_X10_takeOver hT) (pm_bks_ok pb_X10_takeOver) (pm_bks_ok pb_X10_takeOver _ _ rfl) (pm_ndb_ok rfl) (pj_as_all (p := pm_Ex 0 10011 ie_X10_takeOver.1 pm_rU lf a) (List.forall_mem_cons.mpr ⟨pu_X10_takeOver_10 _ (fun c0 c1 s l x y h => pg_X10_takeOver_10 hT _ c0 c1 s l x y _ h), (fun _ h => by cases h)⟩))
abbrev ph_X10_takeOver {A : Type} : List pj_V → pj_Z → (List pj_V → pj_Z → Option A) → Option A := fun st z K => pj_pw st 12 fun a1 st => pj_pr st 85 0 fun st => pj_ps st (pj_b (pf_X10_takeOver a1 z.1 z.2.1 z.2.2.1 z.2.2.2) fun r s l x y => K st (s, l, x, y))
set_option maxRecDepth 100000 in
theorem pc_X10_takeOver {A : Type} {OK : A → Option Value → mj_M → Prop} {d j pc ix : Nat} {Y : mj_Y} {lf : pj_Z → mj_M} (hT : pj_Lt pj_TC lf) (hd : 1 ≤ d) (hl : mj_lk Y.2.2.2.2 pc = some (.invokevirtual ix, 3)) (hg : mj_pG ic_P j ix = some (10011, 1, some 10)) {lv : List (Nat × Value)} {st : List pj_V} {z : pj_Z} {K : List pj_V → pj_Z → Option A} {a : A} (hK : ∀ st z, K st z = some a → pj_Gd ic_P (mj_R ic_P d) j Y OK lf (pc + 3) lv (pj_es st) z a) (h : ph_X10_takeOver st z K = some a) : pj_Gd ic_P (mj_R ic_P d) j Y OK lf pc lv (pj_es st) z a := by
  obtain ⟨a1, r1, e1, h⟩ := pj_pw_inv h
  obtain ⟨r0, e0, h⟩ := pj_pr_inv h
  obtain ⟨hs, h⟩ := pj_ps_inv h
  obtain ⟨q, hq, h⟩ := pj_b_inv h
  exact pm_cv (o := 85) hl hg [.ref (12 + a1)] rfl (by rw [e1, e0]; rfl) hs (by decide) ((hT.2 85 _ rfl).1.2 z 0 (by decide)) (pm_rU q.1) hd (pm_X10_takeOver hT a1 z.1 z.2.1 z.2.2.1 z.2.2.2 q hq) rfl (hK _ _ h)
abbrev px_X11_clip : pj_C (Int32 × pj_Z) := ((fun _ => none), (fun _ => none), (fun _ => none), (fun _ => none), (fun _ => none), ic_X, 4, 1, pj_mI, (fun _ => none), fun _ => false)
abbrev pk_X11_clip : List (Nat × List (Nat × Instr × Nat)) := [(0, [(0, .lload_n 0, 1), (1, .iload_n 2, 1), (2, .i2l, 1), (3, .lcmp, 1), (4, .ifCond .ge 7, 3)]), (7, [(7, .iload_n 2, 1), (8, .goto 16, 3)]), (11, [(11, .lload_n 0, 1), (12, .iload_n 3, 1), (13, .i2l, 1), (14, .lcmp, 1), (15, .ifCond .le 7, 3)]), (18, [(18, .iload_n 3, 1), (19, .goto 5, 3)]), (22, [(22, .lload_n 0, 1), (23, .l2i, 1)]), (24, [(24, .ireturn, 1)])]
set_option maxRecDepth 100000 in
theorem pq_X11_clip_m  (a0 : Int64) (a2 : Int32) (a3 : Int32) (s : Nat → Int32) (l : Nat → Int64) (x : Nat → Int32) (y : Nat → Int64) : pf_X11_clip a0 a2 a3 s l x y = pj_bl px_X11_clip (pj_rn px_X11_clip (pj_as pk_X11_clip) (fun _ => none) 60) [(0, .lload_n 0, 1), (1, .iload_n 2, 1), (2, .i2l, 1), (3, .lcmp, 1), (4, .ifCond .ge 7, 3)] 0 [(0, pj_L a0), (2, pj_I a2), (3, pj_I a3)] [] (s, l, x, y) := rfl
set_option maxRecDepth 100000 in
theorem pz_X11_clip {lf : pj_Z → mj_M} (hT : pj_Lt pj_TC lf) : pj_Cok ic_P (mj_R ic_P 0) 11047 ie_X11_clip.1 (pm_OK lf pm_rI) lf px_X11_clip := by
  exact pm_cok (c := px_X11_clip) (pm_none hT) (fun _ _ h => by cases h) (fun _ _ h => by cases h) (fun _ _ h => by cases h) (fun _ _ h => by cases h) rfl rfl ⟨by decide, rfl⟩ pm_mI (fun _ _ h => by cases h) (fun _ h => by cases h)
set_option maxRecDepth 100000 in
theorem pb_X11_clip : pm_bks ie_X11_clip.1.2.2.2.2 pk_X11_clip = true := by decide +kernel
set_option maxRecDepth 100000 in
theorem pm_X11_clip {lf : pj_Z → mj_M} (hT : pj_Lt pj_TC lf) (a0 : Int64) (a2 : Int32) (a3 : Int32) (s : Nat → Int32) (l : Nat → Int64) (x : Nat → Int32) (y : Nat → Int64) (a : Int32 × pj_Z) (h : pf_X11_clip a0 a2 a3 s l x y = some a) : mj_R ic_P 1 11047 [.long a0, .int a2, .int a3] (lf (s, l, x, y)) (pm_rI a.1) (lf a.2) := by
  refine pm_main (Y := ie_X11_clip.1) rfl (Nat.le_of_ble_eq_true rfl) ?_
  exact pm_run ((pq_X11_clip_m a0 a2 a3 s l x y).symm.trans h) (pz_X11_clip hT) (pm_bks_ok pb_X11_clip) (pm_bks_ok pb_X11_clip _ _ rfl) (pm_ndb_ok rfl) (fun _ _ h => by cases h)
abbrev ph_X11_clip {A : Type} : List pj_V → pj_Z → (List pj_V → pj_Z → Option A) → Option A := fun st z K => pj_pi st fun a3 st => pj_pi st fun a2 st => pj_pl st fun a0 st => pj_ps st (pj_b (pf_X11_clip a0 a2 a3 z.1 z.2.1 z.2.2.1 z.2.2.2) fun r s l x y => K (pj_I r :: st) (s, l, x, y))
set_option maxRecDepth 100000 in
theorem pc_X11_clip {A : Type} {OK : A → Option Value → mj_M → Prop} {d j pc ix : Nat} {Y : mj_Y} {lf : pj_Z → mj_M} (hT : pj_Lt pj_TC lf) (hd : 1 ≤ d) (hl : mj_lk Y.2.2.2.2 pc = some (.invokestatic ix, 3)) (hg : mj_pG ic_P j ix = some (11047, 3, none)) {lv : List (Nat × Value)} {st : List pj_V} {z : pj_Z} {K : List pj_V → pj_Z → Option A} {a : A} (hK : ∀ st z, K st z = some a → pj_Gd ic_P (mj_R ic_P d) j Y OK lf (pc + 3) lv (pj_es st) z a) (h : ph_X11_clip st z K = some a) : pj_Gd ic_P (mj_R ic_P d) j Y OK lf pc lv (pj_es st) z a := by
  obtain ⟨a3, r3, e3, h⟩ := pj_pi_inv h
  obtain ⟨a2, r2, e2, h⟩ := pj_pi_inv h
  obtain ⟨a0, r0, e0, h⟩ := pj_pl_inv h
  obtain ⟨hs, h⟩ := pj_ps_inv h
  obtain ⟨q, hq, h⟩ := pj_b_inv h
  exact pm_cs hl hg [.long a0, .int a2, .int a3] rfl (by rw [e3, e2, e0]; rfl) hs (pm_rI q.1) hd (pm_X11_clip hT a0 a2 a3 z.1 z.2.1 z.2.2.1 z.2.2.2 q hq) rfl (hK _ _ h)
abbrev pe_X3_takeOver_10 (f : Nat → Int32 → pj_F (Unit × pj_Z)) : pj_K (Unit × pj_Z) := fun lv st z => pj_xr lv 0 83 0 <| pj_xw lv 1 12 fun a1 => pj_xi lv 2 fun a2 => pj_pe st (f a1 a2 z.1 z.2.1 z.2.2.1 z.2.2.2)
abbrev px_X3_takeOver : pj_C (Unit × pj_Z) := ((pj_as [(12, 100, 55, 2, 1, true, 13000, []), (83, 3, 20, 1, 0, true, 0, [(0, 29), (0, 30), (1, 14), (1, 15), (0, 31), (0, 32), (0, 33), (0, 34), (0, 35), (0, 36), (0, 37), (0, 38), (0, 39), (0, 40), (1, 16), (1, 17), (0, 41), (0, 42), (0, 43), (2, 84)]), (84, 100, 16, 1, 0, true, 9000, [])]), (pj_as [(9, 3, 19, 2, true)]), (fun _ => none), (fun _ => none), (fun _ => none), ic_X, 3, 0, pj_mU, (pj_as [(32, ph_X11_clip)]), fun _ => false)
abbrev pk_X3_takeOver : List (Nat × List (Nat × Instr × Nat)) := [(0, [(0, .aload_n 1, 1), (1, .arraylength, 1), (2, .bipush 55, 2), (4, .if_icmp .ge 4, 3)]), (7, [(7, .return_, 1)]), (8, [(8, .iconst 0, 1), (9, .istore_n 2, 1)]), (10, [(10, .iload_n 2, 1), (11, .bipush 16, 2), (13, .if_icmp .ge 29, 3)]), (16, [(16, .aload_n 0, 1), (17, .getfield 9, 3), (20, .iload_n 2, 1), (21, .aload_n 1, 1), (22, .bipush 37, 2), (24, .iload_n 2, 1), (25, .iadd, 1), (26, .iaload, 1), (27, .i2l, 1), (28, .bipush (-100), 2), (30, .bipush 100, 2), (32, .invokestatic 82, 3), (35, .iastore, 1), (36, .iinc 2 1, 3), (39, .goto (-29), 3)]), (42, [(42, .return_, 1)])]
set_option maxRecDepth 100000 in
theorem pq_X3_takeOver_10 (fu : Nat)  (n : Nat) (a1 : Nat) (a2 : Int32) (s : Nat → Int32) (l : Nat → Int64) (x : Nat → Int32) (y : Nat → Int64) : pl_X3_takeOver_10 fu (n + 1) a1 a2 s l x y = pj_bl px_X3_takeOver (pj_rn px_X3_takeOver (pj_as pk_X3_takeOver) (pj_as [(10, pe_X3_takeOver_10 (pl_X3_takeOver_10 fu n))]) 60) [(10, .iload_n 2, 1), (11, .bipush 16, 2), (13, .if_icmp .ge 29, 3)] 10 [(0, pj_O (83, 0)), (1, pj_W (12, a1)), (2, pj_I a2)] [] (s, l, x, y) := rfl
set_option maxRecDepth 100000 in
theorem pq_X3_takeOver_m (fu : Nat)  (a1 : Nat) (s : Nat → Int32) (l : Nat → Int64) (x : Nat → Int32) (y : Nat → Int64) : po_X3_takeOver fu a1 s l x y = pj_bl px_X3_takeOver (pj_rn px_X3_takeOver (pj_as pk_X3_takeOver) (pj_as [(10, pe_X3_takeOver_10 (pl_X3_takeOver_10 fu fu))]) 60) [(0, .aload_n 1, 1), (1, .arraylength, 1), (2, .bipush 55, 2), (4, .if_icmp .ge 4, 3)] 0 [(0, pj_O (83, 0)), (1, pj_W (12, a1))] [] (s, l, x, y) := rfl
theorem pu_X3_takeOver_10 {lf : pj_Z → mj_M} {a : Unit × pj_Z} (f : Nat → Int32 → pj_F (Unit × pj_Z)) (hf : ∀ (a1 : Nat) (a2 : Int32) (s : Nat → Int32) (l : Nat → Int64) (x : Nat → Int32) (y : Nat → Int64), f a1 a2 s l x y = some a → pm_Gd 1 3002 ie_X3_takeOver.1 pm_rU lf 10 [(0, .ref 83), (1, .ref (12 + a1)), (2, .int a2)] [] (s, l, x, y) a) : pm_Ex 1 3002 ie_X3_takeOver.1 pm_rU lf a 10 (pe_X3_takeOver_10 f) := by
  intro lv st z hd h
  obtain ⟨g0, h⟩ := pj_xr_inv h
  obtain ⟨a1, g1, h⟩ := pj_xw_inv h
  obtain ⟨a2, g2, h⟩ := pj_xi_inv h
  obtain ⟨e9, h⟩ := pj_pe_inv h
  rw [e9]
  exact mj_wp_sub (mj_sub_cons g0 (mj_sub_cons g1 (mj_sub_cons g2 (mj_sub_nil hd)))) (hf _ _ _ _ _ _ h)
set_option maxRecDepth 100000 in
theorem pz_X3_takeOver {lf : pj_Z → mj_M} (hT : pj_Lt pj_TC lf) : pj_Cok ic_P (mj_R ic_P 1) 3002 ie_X3_takeOver.1 (pm_OK lf pm_rU) lf px_X3_takeOver := by
  exact pm_cok (c := px_X3_takeOver) (pm_part hT (pj_as_all (p := fun b e => pj_TC b = some e) (List.forall_mem_cons.mpr ⟨rfl, (List.forall_mem_cons.mpr ⟨rfl, (List.forall_mem_cons.mpr ⟨rfl, (fun _ h => by cases h)⟩)⟩)⟩))) (pm_in_ok (L := [(9, 3, 19, 2, true)]) (f := mj_pF ic_P 3002) (by decide +kernel)) (fun _ _ h => by cases h) (fun _ _ h => by cases h) (fun _ _ h => by cases h) rfl rfl ⟨by decide, rfl⟩ pm_mU (pj_as_all (p := pm_Cl 1 3002 ie_X3_takeOver.1 lf (pm_OK lf pm_rU)) (List.forall_mem_cons.mpr ⟨fun _ _ lv st z K a hK h => pc_X11_clip hT (by decide) (ix := 82) rfl rfl hK h, (fun _ h => by cases h)⟩)) (fun _ h => by cases h)
set_option maxRecDepth 100000 in
theorem pb_X3_takeOver : pm_bks ie_X3_takeOver.1.2.2.2.2 pk_X3_takeOver = true := by decide +kernel
set_option maxRecDepth 100000 in
theorem pg_X3_takeOver_10 {fu : Nat} {lf : pj_Z → mj_M} (hT : pj_Lt pj_TC lf) : ∀ (n : Nat), ∀ (a1 : Nat) (a2 : Int32) (s : Nat → Int32) (l : Nat → Int64) (x : Nat → Int32) (y : Nat → Int64) (a : Unit × pj_Z), pl_X3_takeOver_10 fu n a1 a2 s l x y = some a → pm_Gd 1 3002 ie_X3_takeOver.1 pm_rU lf 10 [(0, .ref 83), (1, .ref (12 + a1)), (2, .int a2)] [] (s, l, x, y) a := by
  intro n
  induction n with
  | zero => intro a1 a2 s l x y a h; cases (show (none : Option (Unit × pj_Z)) = some a from h)
  | succ n ih =>
    intro a1 a2 s l x y a h
    exact pm_run ((pq_X3_takeOver_10 fu n a1 a2 s l x y).symm.trans h) (pz_X3_takeOver hT) (pm_bks_ok pb_X3_takeOver) (pm_bks_ok pb_X3_takeOver _ _ rfl) (pm_ndb_ok rfl) (pj_as_all (p := pm_Ex 1 3002 ie_X3_takeOver.1 pm_rU lf a) (List.forall_mem_cons.mpr ⟨pu_X3_takeOver_10 _ (fun c0 c1 s l x y h => ih c0 c1 s l x y _ h), (fun _ h => by cases h)⟩))
set_option maxRecDepth 100000 in
theorem pm_X3_takeOver {lf : pj_Z → mj_M} (hT : pj_Lt pj_TC lf) (a1 : Nat) (s : Nat → Int32) (l : Nat → Int64) (x : Nat → Int32) (y : Nat → Int64) (a : Unit × pj_Z) (h : pf_X3_takeOver a1 s l x y = some a) : mj_R ic_P 2 3002 [.ref 83, .ref (12 + a1)] (lf (s, l, x, y)) (pm_rU a.1) (lf a.2) := by
  refine pm_main (Y := ie_X3_takeOver.1) rfl (Nat.le_of_ble_eq_true rfl) ?_
  exact pm_run ((pq_X3_takeOver_m 1000 a1 s l x y).symm.trans h) (pz_X3_takeOver hT) (pm_bks_ok pb_X3_takeOver) (pm_bks_ok pb_X3_takeOver _ _ rfl) (pm_ndb_ok rfl) (pj_as_all (p := pm_Ex 1 3002 ie_X3_takeOver.1 pm_rU lf a) (List.forall_mem_cons.mpr ⟨pu_X3_takeOver_10 _ (fun c0 c1 s l x y h => pg_X3_takeOver_10 hT _ c0 c1 s l x y _ h), (fun _ h => by cases h)⟩))
abbrev ph_X3_takeOver {A : Type} : List pj_V → pj_Z → (List pj_V → pj_Z → Option A) → Option A := fun st z K => pj_pw st 12 fun a1 st => pj_pr st 83 0 fun st => pj_ps st (pj_b (pf_X3_takeOver a1 z.1 z.2.1 z.2.2.1 z.2.2.2) fun r s l x y => K st (s, l, x, y))
set_option maxRecDepth 100000 in
theorem pc_X3_takeOver {A : Type} {OK : A → Option Value → mj_M → Prop} {d j pc ix : Nat} {Y : mj_Y} {lf : pj_Z → mj_M} (hT : pj_Lt pj_TC lf) (hd : 2 ≤ d) (hl : mj_lk Y.2.2.2.2 pc = some (.invokevirtual ix, 3)) (hg : mj_pG ic_P j ix = some (3002, 1, some 3)) {lv : List (Nat × Value)} {st : List pj_V} {z : pj_Z} {K : List pj_V → pj_Z → Option A} {a : A} (hK : ∀ st z, K st z = some a → pj_Gd ic_P (mj_R ic_P d) j Y OK lf (pc + 3) lv (pj_es st) z a) (h : ph_X3_takeOver st z K = some a) : pj_Gd ic_P (mj_R ic_P d) j Y OK lf pc lv (pj_es st) z a := by
  obtain ⟨a1, r1, e1, h⟩ := pj_pw_inv h
  obtain ⟨r0, e0, h⟩ := pj_pr_inv h
  obtain ⟨hs, h⟩ := pj_ps_inv h
  obtain ⟨q, hq, h⟩ := pj_b_inv h
  exact pm_cv (o := 83) hl hg [.ref (12 + a1)] rfl (by rw [e1, e0]; rfl) hs (by decide) ((hT.2 83 _ rfl).1.2 z 0 (by decide)) (pm_rU q.1) hd (pm_X3_takeOver hT a1 z.1 z.2.1 z.2.2.1 z.2.2.2 q hq) rfl (hK _ _ h)
abbrev pe_X11_boot_37 (f : Int32 → pj_F (Unit × pj_Z)) : pj_K (Unit × pj_Z) := fun lv st z => pj_xr lv 0 0 0 <| pj_xi lv 1 fun a1 => pj_pe st (f a1 z.1 z.2.1 z.2.2.1 z.2.2.2)
abbrev pe_X11_boot_69 (f : pj_F (Unit × pj_Z)) : pj_K (Unit × pj_Z) := fun lv st z => pj_xr lv 0 0 0 <| pj_pe st (f  z.1 z.2.1 z.2.2.1 z.2.2.2)
abbrev px_X11_boot : pj_C (Unit × pj_Z) := ((pj_as [(0, 11, 17, 1, 0, true, 0, [(2, 1), (2, 20), (2, 58), (2, 68), (2, 82), (2, 83), (2, 85), (2, 96), (2, 102), (2, 106), (2, 122), (0, 93), (0, 94), (0, 95), (1, 1), (1, 2), (0, 96)]), (1, 4, 10, 1, 0, true, 0, [(2, 2), (2, 3), (2, 8), (2, 11), (2, 14), (2, 17), (2, 18), (2, 19), (0, 44), (1, 3)]), (11, 103, 2, 1, 0, true, 12, []), (18, 100, 2, 1, 0, false, 2000, []), (106, 0, 19, 1, 0, true, 0, [(2, 107), (0, 1), (2, 108), (1, 24), (0, 2), (2, 111), (1, 25), (1, 26), (2, 114), (2, 115), (2, 116), (0, 3), (2, 117), (2, 118), (1, 27), (1, 28), (0, 4), (0, 5), (1, 29)]), (122, 5, 13, 1, 0, true, 0, [(0, 45), (0, 46), (0, 47), (0, 48), (0, 49), (0, 50), (0, 51), (0, 52), (0, 53), (0, 54), (0, 55), (2, 123), (0, 56)])]), (pj_as [(10, 11, 0, 2, true), (47, 11, 5, 2, true), (54, 11, 6, 2, true), (68, 11, 8, 2, true), (75, 11, 9, 2, true), (82, 11, 10, 2, true), (292, 4, 3, 2, true), (454, 11, 14, 0, false), (457, 5, 12, 0, false), (460, 4, 6, 2, true), (474, 0, 18, 0, false)]), (fun _ => none), (fun _ => none), (fun _ => none), ic_X, 2, 0, pj_mU, (pj_as [(50, ph_X10_takeOver), (66, ph_X3_takeOver), (73, ph_X4_takeOverMaps), (87, ph_X1_bar)]), fun _ => false)
abbrev pk_X11_boot : List (Nat × List (Nat × Instr × Nat)) := [(0, [(0, .aload_n 0, 1), (1, .iconst 0, 1), (2, .putfield 454, 3), (5, .aload_n 0, 1), (6, .getfield 82, 3), (9, .dup, 1), (10, .getfield 457, 3), (13, .iconst 1, 1), (14, .iadd, 1), (15, .putfield 457, 3), (18, .aload_n 0, 1), (19, .getfield 10, 3), (22, .getfield 460, 3), (25, .iconst 0, 1), (26, .iaload, 1), (27, .istore_n 1, 1), (28, .iload_n 1, 1), (29, .ifCond .eq 8, 3)]), (32, [(32, .iload_n 1, 1), (33, .iconst 1, 1), (34, .if_icmp .ne 35, 3)]), (37, [(37, .aload_n 0, 1), (38, .getfield 54, 3), (41, .aload_n 0, 1), (42, .getfield 10, 3), (45, .getfield 292, 3), (48, .iload_n 1, 1), (49, .aaload, 1), (50, .invokevirtual 463, 3), (53, .aload_n 0, 1), (54, .getfield 47, 3), (57, .aload_n 0, 1), (58, .getfield 10, 3), (61, .getfield 292, 3), (64, .iload_n 1, 1), (65, .aaload, 1), (66, .invokevirtual 467, 3)]), (69, [(69, .aload_n 0, 1), (70, .getfield 10, 3), (73, .invokevirtual 468, 3), (76, .aload_n 0, 1), (77, .getfield 68, 3), (80, .aload_n 0, 1), (81, .getfield 82, 3), (84, .getfield 457, 3), (87, .invokevirtual 471, 3), (90, .aload_n 0, 1), (91, .getfield 75, 3), (94, .iconst 0, 1), (95, .putfield 474, 3), (98, .return_, 1)])]
set_option maxRecDepth 100000 in
theorem pq_X11_boot_69   (s : Nat → Int32) (l : Nat → Int64) (x : Nat → Int32) (y : Nat → Int64) : pl_X11_boot_69 s l x y = pj_bl px_X11_boot (pj_rn px_X11_boot (pj_as pk_X11_boot) (fun _ => none) 60) [(69, .aload_n 0, 1), (70, .getfield 10, 3), (73, .invokevirtual 468, 3), (76, .aload_n 0, 1), (77, .getfield 68, 3), (80, .aload_n 0, 1), (81, .getfield 82, 3), (84, .getfield 457, 3), (87, .invokevirtual 471, 3), (90, .aload_n 0, 1), (91, .getfield 75, 3), (94, .iconst 0, 1), (95, .putfield 474, 3), (98, .return_, 1)] 69 [(0, pj_O (0, 0))] [] (s, l, x, y) := rfl
set_option maxRecDepth 100000 in
theorem pq_X11_boot_37  (a1 : Int32) (s : Nat → Int32) (l : Nat → Int64) (x : Nat → Int32) (y : Nat → Int64) : pl_X11_boot_37 a1 s l x y = pj_bl px_X11_boot (pj_rn px_X11_boot (pj_as pk_X11_boot) (pj_as [(69, pe_X11_boot_69 (pl_X11_boot_69))]) 60) [(37, .aload_n 0, 1), (38, .getfield 54, 3), (41, .aload_n 0, 1), (42, .getfield 10, 3), (45, .getfield 292, 3), (48, .iload_n 1, 1), (49, .aaload, 1), (50, .invokevirtual 463, 3), (53, .aload_n 0, 1), (54, .getfield 47, 3), (57, .aload_n 0, 1), (58, .getfield 10, 3), (61, .getfield 292, 3), (64, .iload_n 1, 1), (65, .aaload, 1), (66, .invokevirtual 467, 3)] 37 [(0, pj_O (0, 0)), (1, pj_I a1)] [] (s, l, x, y) := rfl
set_option maxRecDepth 100000 in
theorem pq_X11_boot_m   (s : Nat → Int32) (l : Nat → Int64) (x : Nat → Int32) (y : Nat → Int64) : pf_X11_boot  s l x y = pj_bl px_X11_boot (pj_rn px_X11_boot (pj_as pk_X11_boot) (pj_as [(37, pe_X11_boot_37 (pl_X11_boot_37)), (69, pe_X11_boot_69 (pl_X11_boot_69))]) 60) [(0, .aload_n 0, 1), (1, .iconst 0, 1), (2, .putfield 454, 3), (5, .aload_n 0, 1), (6, .getfield 82, 3), (9, .dup, 1), (10, .getfield 457, 3), (13, .iconst 1, 1), (14, .iadd, 1), (15, .putfield 457, 3), (18, .aload_n 0, 1), (19, .getfield 10, 3), (22, .getfield 460, 3), (25, .iconst 0, 1), (26, .iaload, 1), (27, .istore_n 1, 1), (28, .iload_n 1, 1), (29, .ifCond .eq 8, 3)] 0 [(0, pj_O (0, 0))] [] (s, l, x, y) := rfl
theorem pu_X11_boot_37 {lf : pj_Z → mj_M} {a : Unit × pj_Z} (f : Int32 → pj_F (Unit × pj_Z)) (hf : ∀ (a1 : Int32) (s : Nat → Int32) (l : Nat → Int64) (x : Nat → Int32) (y : Nat → Int64), f a1 s l x y = some a → pm_Gd 2 11050 ie_X11_boot.1 pm_rU lf 37 [(0, .ref 0), (1, .int a1)] [] (s, l, x, y) a) : pm_Ex 2 11050 ie_X11_boot.1 pm_rU lf a 37 (pe_X11_boot_37 f) := by
  intro lv st z hd h
  obtain ⟨g0, h⟩ := pj_xr_inv h
  obtain ⟨a1, g1, h⟩ := pj_xi_inv h
  obtain ⟨e9, h⟩ := pj_pe_inv h
  rw [e9]
  exact mj_wp_sub (mj_sub_cons g0 (mj_sub_cons g1 (mj_sub_nil hd))) (hf _ _ _ _ _ h)
theorem pu_X11_boot_69 {lf : pj_Z → mj_M} {a : Unit × pj_Z} (f : pj_F (Unit × pj_Z)) (hf : ∀  (s : Nat → Int32) (l : Nat → Int64) (x : Nat → Int32) (y : Nat → Int64), f  s l x y = some a → pm_Gd 2 11050 ie_X11_boot.1 pm_rU lf 69 [(0, .ref 0)] [] (s, l, x, y) a) : pm_Ex 2 11050 ie_X11_boot.1 pm_rU lf a 69 (pe_X11_boot_69 f) := by
  intro lv st z hd h
  obtain ⟨g0, h⟩ := pj_xr_inv h
  obtain ⟨e9, h⟩ := pj_pe_inv h
  rw [e9]
  exact mj_wp_sub (mj_sub_cons g0 (mj_sub_nil hd)) (hf  _ _ _ _ h)
set_option maxRecDepth 100000 in
theorem pz_X11_boot {lf : pj_Z → mj_M} (hT : pj_Lt pj_TC lf) : pj_Cok ic_P (mj_R ic_P 2) 11050 ie_X11_boot.1 (pm_OK lf pm_rU) lf px_X11_boot := by
  exact pm_cok (c := px_X11_boot) (pm_part hT (pj_as_all (p := fun b e => pj_TC b = some e) (List.forall_mem_cons.mpr ⟨rfl, (List.forall_mem_cons.mpr ⟨rfl, (List.forall_mem_cons.mpr ⟨rfl, (List.forall_mem_cons.mpr ⟨rfl, (List.forall_mem_cons.mpr ⟨rfl, (List.forall_mem_cons.mpr ⟨rfl, (fun _ h => by cases h)⟩)⟩)⟩)⟩)⟩)⟩))) (pm_in_ok (L := [(10, 11, 0, 2, true), (47, 11, 5, 2, true), (54, 11, 6, 2, true), (68, 11, 8, 2, true), (75, 11, 9, 2, true), (82, 11, 10, 2, true), (292, 4, 3, 2, true), (454, 11, 14, 0, false), (457, 5, 12, 0, false), (460, 4, 6, 2, true), (474, 0, 18, 0, false)]) (f := mj_pF ic_P 11050) (by decide +kernel)) (fun _ _ h => by cases h) (fun _ _ h => by cases h) (fun _ _ h => by cases h) rfl rfl ⟨by decide, rfl⟩ pm_mU (pj_as_all (p := pm_Cl 2 11050 ie_X11_boot.1 lf (pm_OK lf pm_rU)) (List.forall_mem_cons.mpr ⟨fun _ _ lv st z K a hK h => pc_X10_takeOver hT (by decide) (ix := 463) rfl rfl hK h, (List.forall_mem_cons.mpr ⟨fun _ _ lv st z K a hK h => pc_X3_takeOver hT (by decide) (ix := 467) rfl rfl hK h, (List.forall_mem_cons.mpr ⟨fun _ _ lv st z K a hK h => pc_X4_takeOverMaps hT (by decide) (ix := 468) rfl rfl hK h, (List.forall_mem_cons.mpr ⟨fun _ _ lv st z K a hK h => pc_X1_bar hT (by decide) (ix := 471) rfl rfl hK h, (fun _ h => by cases h)⟩)⟩)⟩)⟩)) (fun _ h => by cases h)
set_option maxRecDepth 100000 in
theorem pb_X11_boot : pm_bks ie_X11_boot.1.2.2.2.2 pk_X11_boot = true := by decide +kernel
set_option maxRecDepth 100000 in
theorem pg_X11_boot_69 {lf : pj_Z → mj_M} (hT : pj_Lt pj_TC lf) : ∀  (s : Nat → Int32) (l : Nat → Int64) (x : Nat → Int32) (y : Nat → Int64) (a : Unit × pj_Z), pl_X11_boot_69 s l x y = some a → pm_Gd 2 11050 ie_X11_boot.1 pm_rU lf 69 [(0, .ref 0)] [] (s, l, x, y) a := by
  intro  s l x y a h
  exact pm_run ((pq_X11_boot_69   s l x y).symm.trans h) (pz_X11_boot hT) (pm_bks_ok pb_X11_boot) (pm_bks_ok pb_X11_boot _ _ rfl) (pm_ndb_ok rfl) (fun _ _ h => by cases h)
set_option maxRecDepth 100000 in
theorem pg_X11_boot_37 {lf : pj_Z → mj_M} (hT : pj_Lt pj_TC lf) : ∀ (a1 : Int32) (s : Nat → Int32) (l : Nat → Int64) (x : Nat → Int32) (y : Nat → Int64) (a : Unit × pj_Z), pl_X11_boot_37 a1 s l x y = some a → pm_Gd 2 11050 ie_X11_boot.1 pm_rU lf 37 [(0, .ref 0), (1, .int a1)] [] (s, l, x, y) a := by
  intro a1 s l x y a h
  exact pm_run ((pq_X11_boot_37  a1 s l x y).symm.trans h) (pz_X11_boot hT) (pm_bks_ok pb_X11_boot) (pm_bks_ok pb_X11_boot _ _ rfl) (pm_ndb_ok rfl) (pj_as_all (p := pm_Ex 2 11050 ie_X11_boot.1 pm_rU lf a) (List.forall_mem_cons.mpr ⟨pu_X11_boot_69 _ (fun  s l x y h => pg_X11_boot_69 hT  s l x y _ h), (fun _ h => by cases h)⟩))
set_option maxRecDepth 100000 in
theorem pm_X11_boot {lf : pj_Z → mj_M} (hT : pj_Lt pj_TC lf)  (s : Nat → Int32) (l : Nat → Int64) (x : Nat → Int32) (y : Nat → Int64) (a : Unit × pj_Z) (h : pf_X11_boot  s l x y = some a) : mj_R ic_P 3 11050 [.ref 0] (lf (s, l, x, y)) (pm_rU a.1) (lf a.2) := by
  refine pm_main (Y := ie_X11_boot.1) rfl (Nat.le_of_ble_eq_true rfl) ?_
  exact pm_run ((pq_X11_boot_m  s l x y).symm.trans h) (pz_X11_boot hT) (pm_bks_ok pb_X11_boot) (pm_bks_ok pb_X11_boot _ _ rfl) (pm_ndb_ok rfl) (pj_as_all (p := pm_Ex 2 11050 ie_X11_boot.1 pm_rU lf a) (List.forall_mem_cons.mpr ⟨pu_X11_boot_37 _ (fun c0 s l x y h => pg_X11_boot_37 hT c0 s l x y _ h), (List.forall_mem_cons.mpr ⟨pu_X11_boot_69 _ (fun  s l x y h => pg_X11_boot_69 hT  s l x y _ h), (fun _ h => by cases h)⟩)⟩))
abbrev ph_X11_boot {A : Type} : List pj_V → pj_Z → (List pj_V → pj_Z → Option A) → Option A := fun st z K => pj_pr st 0 0 fun st => pj_ps st (pj_b (pf_X11_boot  z.1 z.2.1 z.2.2.1 z.2.2.2) fun r s l x y => K st (s, l, x, y))
set_option maxRecDepth 100000 in
theorem pc_X11_boot {A : Type} {OK : A → Option Value → mj_M → Prop} {d j pc ix : Nat} {Y : mj_Y} {lf : pj_Z → mj_M} (hT : pj_Lt pj_TC lf) (hd : 3 ≤ d) (hl : mj_lk Y.2.2.2.2 pc = some (.invokevirtual ix, 3)) (hg : mj_pG ic_P j ix = some (11050, 0, some 11)) {lv : List (Nat × Value)} {st : List pj_V} {z : pj_Z} {K : List pj_V → pj_Z → Option A} {a : A} (hK : ∀ st z, K st z = some a → pj_Gd ic_P (mj_R ic_P d) j Y OK lf (pc + 3) lv (pj_es st) z a) (h : ph_X11_boot st z K = some a) : pj_Gd ic_P (mj_R ic_P d) j Y OK lf pc lv (pj_es st) z a := by
  obtain ⟨r0, e0, h⟩ := pj_pr_inv h
  obtain ⟨hs, h⟩ := pj_ps_inv h
  obtain ⟨q, hq, h⟩ := pj_b_inv h
  exact pm_cv (o := 0) hl hg [] rfl (by rw [e0]; rfl) hs (by decide) ((hT.2 0 _ rfl).1.2 z 0 (by decide)) (pm_rU q.1) hd (pm_X11_boot hT  z.1 z.2.1 z.2.2.1 z.2.2.2 q hq) rfl (hK _ _ h)
abbrev pe_X11_key_14 (f : Int32 → Int32 → Int32 → pj_F (Int32 × pj_Z)) : pj_K (Int32 × pj_Z) := fun lv st z => pj_xr lv 0 0 0 <| pj_xi lv 1 fun a1 => pj_pi st fun b1 st => pj_pi st fun b0 st => pj_pe st (f a1 b0 b1 z.1 z.2.1 z.2.2.1 z.2.2.2)
abbrev pe_X11_key_50 (f : pj_F (Int32 × pj_Z)) : pj_K (Int32 × pj_Z) := fun lv st z => pj_xr lv 0 0 0 <| pj_pe st (f  z.1 z.2.1 z.2.2.1 z.2.2.2)
abbrev px_X11_key : pj_C (Int32 × pj_Z) := ((pj_as [(0, 11, 17, 1, 0, true, 0, [(2, 1), (2, 20), (2, 58), (2, 68), (2, 82), (2, 83), (2, 85), (2, 96), (2, 102), (2, 106), (2, 122), (0, 93), (0, 94), (0, 95), (1, 1), (1, 2), (0, 96)])]), (pj_as [(90, 11, 12, 0, false), (97, 11, 13, 0, false), (103, 11, 15, 0, false)]), (fun _ => none), (fun _ => none), (fun _ => none), ic_X, 2, 2, pj_mI, (pj_as [(24, ph_X11_allOff), (47, ph_X11_boot)]), fun _ => false)
abbrev pk_X11_key : List (Nat × List (Nat × Instr × Nat)) := [(0, [(0, .iload_n 1, 1), (1, .aload_n 0, 1), (2, .getfield 90, 3), (5, .iconst 1, 1), (6, .if_icmp .ne 7, 3)]), (9, [(9, .iconst 1, 1), (10, .goto 4, 3)]), (13, [(13, .iconst 0, 1)]), (14, [(14, .if_icmp .ne 5, 3)]), (17, [(17, .iconst 0, 1), (18, .ireturn, 1)]), (19, [(19, .iload_n 1, 1), (20, .ifCond .ne 19, 3)]), (23, [(23, .aload_n 0, 1), (24, .invokevirtual 94, 3), (27, .aload_n 0, 1), (28, .iconst 0, 1), (29, .putfield 97, 3), (32, .aload_n 0, 1), (33, .iconst 2, 1), (34, .putfield 90, 3), (37, .iconst 1, 1), (38, .ireturn, 1)]), (39, [(39, .aload_n 0, 1), (40, .getfield 90, 3), (43, .ifCond .ne 7, 3)]), (46, [(46, .aload_n 0, 1), (47, .invokevirtual 100, 3)]), (50, [(50, .aload_n 0, 1), (51, .iconst 1, 1), (52, .putfield 90, 3), (55, .aload_n 0, 1), (56, .iconst 0, 1), (57, .putfield 103, 3), (60, .iconst 1, 1), (61, .ireturn, 1)])]
set_option maxRecDepth 100000 in
theorem pq_X11_key_50   (s : Nat → Int32) (l : Nat → Int64) (x : Nat → Int32) (y : Nat → Int64) : pl_X11_key_50 s l x y = pj_bl px_X11_key (pj_rn px_X11_key (pj_as pk_X11_key) (fun _ => none) 60) [(50, .aload_n 0, 1), (51, .iconst 1, 1), (52, .putfield 90, 3), (55, .aload_n 0, 1), (56, .iconst 0, 1), (57, .putfield 103, 3), (60, .iconst 1, 1), (61, .ireturn, 1)] 50 [(0, pj_O (0, 0))] [] (s, l, x, y) := rfl
set_option maxRecDepth 100000 in
theorem pq_X11_key_14  (a1 : Int32) (b0 : Int32) (b1 : Int32) (s : Nat → Int32) (l : Nat → Int64) (x : Nat → Int32) (y : Nat → Int64) : pl_X11_key_14 a1 b0 b1 s l x y = pj_bl px_X11_key (pj_rn px_X11_key (pj_as pk_X11_key) (pj_as [(50, pe_X11_key_50 (pl_X11_key_50))]) 60) [(14, .if_icmp .ne 5, 3)] 14 [(0, pj_O (0, 0)), (1, pj_I a1)] [pj_I b1, pj_I b0] (s, l, x, y) := rfl
set_option maxRecDepth 100000 in
theorem pq_X11_key_m  (a1 : Int32) (s : Nat → Int32) (l : Nat → Int64) (x : Nat → Int32) (y : Nat → Int64) : pf_X11_key a1 s l x y = pj_bl px_X11_key (pj_rn px_X11_key (pj_as pk_X11_key) (pj_as [(14, pe_X11_key_14 (pl_X11_key_14))]) 60) [(0, .iload_n 1, 1), (1, .aload_n 0, 1), (2, .getfield 90, 3), (5, .iconst 1, 1), (6, .if_icmp .ne 7, 3)] 0 [(0, pj_O (0, 0)), (1, pj_I a1)] [] (s, l, x, y) := rfl
theorem pu_X11_key_14 {lf : pj_Z → mj_M} {a : Int32 × pj_Z} (f : Int32 → Int32 → Int32 → pj_F (Int32 × pj_Z)) (hf : ∀ (a1 : Int32) (b0 : Int32) (b1 : Int32) (s : Nat → Int32) (l : Nat → Int64) (x : Nat → Int32) (y : Nat → Int64), f a1 b0 b1 s l x y = some a → pm_Gd 3 11001 ie_X11_key.1 pm_rI lf 14 [(0, .ref 0), (1, .int a1)] [.int b1, .int b0] (s, l, x, y) a) : pm_Ex 3 11001 ie_X11_key.1 pm_rI lf a 14 (pe_X11_key_14 f) := by
  intro lv st z hd h
  obtain ⟨g0, h⟩ := pj_xr_inv h
  obtain ⟨a1, g1, h⟩ := pj_xi_inv h
  obtain ⟨b1, r1, e1, h⟩ := pj_pi_inv h
  obtain ⟨b0, r0, e0, h⟩ := pj_pi_inv h
  obtain ⟨e9, h⟩ := pj_pe_inv h
  rw [e1, e0, e9]
  exact mj_wp_sub (mj_sub_cons g0 (mj_sub_cons g1 (mj_sub_nil hd))) (hf _ _ _ _ _ _ _ h)
theorem pu_X11_key_50 {lf : pj_Z → mj_M} {a : Int32 × pj_Z} (f : pj_F (Int32 × pj_Z)) (hf : ∀  (s : Nat → Int32) (l : Nat → Int64) (x : Nat → Int32) (y : Nat → Int64), f  s l x y = some a → pm_Gd 3 11001 ie_X11_key.1 pm_rI lf 50 [(0, .ref 0)] [] (s, l, x, y) a) : pm_Ex 3 11001 ie_X11_key.1 pm_rI lf a 50 (pe_X11_key_50 f) := by
  intro lv st z hd h
  obtain ⟨g0, h⟩ := pj_xr_inv h
  obtain ⟨e9, h⟩ := pj_pe_inv h
  rw [e9]
  exact mj_wp_sub (mj_sub_cons g0 (mj_sub_nil hd)) (hf  _ _ _ _ h)
set_option maxRecDepth 100000 in
theorem pz_X11_key {lf : pj_Z → mj_M} (hT : pj_Lt pj_TC lf) : pj_Cok ic_P (mj_R ic_P 3) 11001 ie_X11_key.1 (pm_OK lf pm_rI) lf px_X11_key := by
  exact pm_cok (c := px_X11_key) (pm_part hT (pj_as_all (p := fun b e => pj_TC b = some e) (List.forall_mem_cons.mpr ⟨rfl, (fun _ h => by cases h)⟩))) (pm_in_ok (L := [(90, 11, 12, 0, false), (97, 11, 13, 0, false), (103, 11, 15, 0, false)]) (f := mj_pF ic_P 11001) (by decide +kernel)) (fun _ _ h => by cases h) (fun _ _ h => by cases h) (fun _ _ h => by cases h) rfl rfl ⟨by decide, rfl⟩ pm_mI (pj_as_all (p := pm_Cl 3 11001 ie_X11_key.1 lf (pm_OK lf pm_rI)) (List.forall_mem_cons.mpr ⟨fun _ _ lv st z K a hK h => pc_X11_allOff hT (by decide) (ix := 94) rfl rfl hK h, (List.forall_mem_cons.mpr ⟨fun _ _ lv st z K a hK h => pc_X11_boot hT (by decide) (ix := 100) rfl rfl hK h, (fun _ h => by cases h)⟩)⟩)) (fun _ h => by cases h)
set_option maxRecDepth 100000 in
theorem pb_X11_key : pm_bks ie_X11_key.1.2.2.2.2 pk_X11_key = true := by decide +kernel
set_option maxRecDepth 100000 in
theorem pg_X11_key_50 {lf : pj_Z → mj_M} (hT : pj_Lt pj_TC lf) : ∀  (s : Nat → Int32) (l : Nat → Int64) (x : Nat → Int32) (y : Nat → Int64) (a : Int32 × pj_Z), pl_X11_key_50 s l x y = some a → pm_Gd 3 11001 ie_X11_key.1 pm_rI lf 50 [(0, .ref 0)] [] (s, l, x, y) a := by
  intro  s l x y a h
  exact pm_run ((pq_X11_key_50   s l x y).symm.trans h) (pz_X11_key hT) (pm_bks_ok pb_X11_key) (pm_bks_ok pb_X11_key _ _ rfl) (pm_ndb_ok rfl) (fun _ _ h => by cases h)
set_option maxRecDepth 100000 in
theorem pg_X11_key_14 {lf : pj_Z → mj_M} (hT : pj_Lt pj_TC lf) : ∀ (a1 : Int32) (b0 : Int32) (b1 : Int32) (s : Nat → Int32) (l : Nat → Int64) (x : Nat → Int32) (y : Nat → Int64) (a : Int32 × pj_Z), pl_X11_key_14 a1 b0 b1 s l x y = some a → pm_Gd 3 11001 ie_X11_key.1 pm_rI lf 14 [(0, .ref 0), (1, .int a1)] [.int b1, .int b0] (s, l, x, y) a := by
  intro a1 b0 b1 s l x y a h
  exact pm_run ((pq_X11_key_14  a1 b0 b1 s l x y).symm.trans h) (pz_X11_key hT) (pm_bks_ok pb_X11_key) (pm_bks_ok pb_X11_key _ _ rfl) (pm_ndb_ok rfl) (pj_as_all (p := pm_Ex 3 11001 ie_X11_key.1 pm_rI lf a) (List.forall_mem_cons.mpr ⟨pu_X11_key_50 _ (fun  s l x y h => pg_X11_key_50 hT  s l x y _ h), (fun _ h => by cases h)⟩))
set_option maxRecDepth 100000 in
theorem pm_X11_key {lf : pj_Z → mj_M} (hT : pj_Lt pj_TC lf) (a1 : Int32) (s : Nat → Int32) (l : Nat → Int64) (x : Nat → Int32) (y : Nat → Int64) (a : Int32 × pj_Z) (h : pf_X11_key a1 s l x y = some a) : mj_R ic_P 4 11001 [.ref 0, .int a1] (lf (s, l, x, y)) (pm_rI a.1) (lf a.2) := by
  refine pm_main (Y := ie_X11_key.1) rfl (Nat.le_of_ble_eq_true rfl) ?_
  exact pm_run ((pq_X11_key_m a1 s l x y).symm.trans h) (pz_X11_key hT) (pm_bks_ok pb_X11_key) (pm_bks_ok pb_X11_key _ _ rfl) (pm_ndb_ok rfl) (pj_as_all (p := pm_Ex 3 11001 ie_X11_key.1 pm_rI lf a) (List.forall_mem_cons.mpr ⟨pu_X11_key_14 _ (fun c0 c1 c2 s l x y h => pg_X11_key_14 hT c0 c1 c2 s l x y _ h), (fun _ h => by cases h)⟩))
abbrev ph_X11_key {A : Type} : List pj_V → pj_Z → (List pj_V → pj_Z → Option A) → Option A := fun st z K => pj_pi st fun a1 st => pj_pr st 0 0 fun st => pj_ps st (pj_b (pf_X11_key a1 z.1 z.2.1 z.2.2.1 z.2.2.2) fun r s l x y => K (pj_I r :: st) (s, l, x, y))
set_option maxRecDepth 100000 in
theorem pc_X11_key {A : Type} {OK : A → Option Value → mj_M → Prop} {d j pc ix : Nat} {Y : mj_Y} {lf : pj_Z → mj_M} (hT : pj_Lt pj_TC lf) (hd : 4 ≤ d) (hl : mj_lk Y.2.2.2.2 pc = some (.invokevirtual ix, 3)) (hg : mj_pG ic_P j ix = some (11001, 1, some 11)) {lv : List (Nat × Value)} {st : List pj_V} {z : pj_Z} {K : List pj_V → pj_Z → Option A} {a : A} (hK : ∀ st z, K st z = some a → pj_Gd ic_P (mj_R ic_P d) j Y OK lf (pc + 3) lv (pj_es st) z a) (h : ph_X11_key st z K = some a) : pj_Gd ic_P (mj_R ic_P d) j Y OK lf pc lv (pj_es st) z a := by
  obtain ⟨a1, r1, e1, h⟩ := pj_pi_inv h
  obtain ⟨r0, e0, h⟩ := pj_pr_inv h
  obtain ⟨hs, h⟩ := pj_ps_inv h
  obtain ⟨q, hq, h⟩ := pj_b_inv h
  exact pm_cv (o := 0) hl hg [.int a1] rfl (by rw [e1, e0]; rfl) hs (by decide) ((hT.2 0 _ rfl).1.2 z 0 (by decide)) (pm_rI q.1) hd (pm_X11_key hT a1 z.1 z.2.1 z.2.2.1 z.2.2.2 q hq) rfl (hK _ _ h)
abbrev pe_X6_nextEvent_9 (f : Int32 → Int64 → Int32 → pj_F (Int32 × pj_Z)) : pj_K (Int32 × pj_Z) := fun lv st z => pj_xr lv 0 68 0 <| pj_xi lv 1 fun a1 => pj_xl lv 2 fun a2 => pj_xi lv 4 fun a4 => pj_pe st (f a1 a2 a4 z.1 z.2.1 z.2.2.1 z.2.2.2)
abbrev pe_X6_nextEvent_48 (f : Int32 → Int64 → Int32 → pj_F (Int32 × pj_Z)) : pj_K (Int32 × pj_Z) := fun lv st z => pj_xr lv 0 68 0 <| pj_xi lv 1 fun a1 => pj_xl lv 2 fun a2 => pj_xi lv 4 fun a4 => pj_pe st (f a1 a2 a4 z.1 z.2.1 z.2.2.1 z.2.2.2)
abbrev px_X6_nextEvent : pj_C (Int32 × pj_Z) := ((pj_as [(68, 6, 19, 1, 0, true, 0, [(2, 69), (2, 70), (2, 71), (2, 72), (0, 57), (0, 58), (2, 73), (2, 74), (2, 75), (2, 76), (2, 77), (2, 78), (1, 11), (0, 59), (0, 60), (0, 61), (2, 79), (2, 80), (2, 81)]), (69, 101, 64, 1, 0, true, 16000, [])]), (pj_as [(11, 6, 0, 2, true), (53, 6, 4, 0, false)]), (fun _ => none), (pj_as [(70, 9223372036854775807)]), (fun _ => none), ic_X, 5, 1, pj_mI, (fun _ => none), fun _ => false)
abbrev pk_X6_nextEvent : List (Nat × List (Nat × Instr × Nat)) := [(0, [(0, .iconst (-1), 1), (1, .istore_n 1, 1), (2, .ldc2_w 70, 3), (5, .lstore_n 2, 1), (6, .iconst 0, 1), (7, .istore 4, 2)]), (9, [(9, .iload 4, 2), (11, .aload_n 0, 1), (12, .getfield 53, 3), (15, .if_icmp .ge 39, 3)]), (18, [(18, .iload 4, 2), (20, .bipush 64, 2), (22, .if_icmp .ge 32, 3)]), (25, [(25, .aload_n 0, 1), (26, .getfield 11, 3), (29, .iload 4, 2), (31, .laload, 1), (32, .lload_n 2, 1), (33, .lcmp, 1), (34, .ifCond .ge 14, 3)]), (37, [(37, .aload_n 0, 1), (38, .getfield 11, 3), (41, .iload 4, 2), (43, .laload, 1), (44, .lstore_n 2, 1), (45, .iload 4, 2), (47, .istore_n 1, 1)]), (48, [(48, .iinc 4 1, 3), (51, .goto (-42), 3)]), (54, [(54, .iload_n 1, 1), (55, .ireturn, 1)])]
set_option maxRecDepth 100000 in
theorem pq_X6_nextEvent_48 (fu : Nat)  (k9 : Int32 → Int64 → Int32 → pj_F (Int32 × pj_Z)) (a1 : Int32) (a2 : Int64) (a4 : Int32) (s : Nat → Int32) (l : Nat → Int64) (x : Nat → Int32) (y : Nat → Int64) : pl_X6_nextEvent_48 fu k9 a1 a2 a4 s l x y = pj_bl px_X6_nextEvent (pj_rn px_X6_nextEvent (pj_as pk_X6_nextEvent) (pj_as [(9, pe_X6_nextEvent_9 k9)]) 60) [(48, .iinc 4 1, 3), (51, .goto (-42), 3)] 48 [(0, pj_O (68, 0)), (1, pj_I a1), (2, pj_L a2), (4, pj_I a4)] [] (s, l, x, y) := rfl
set_option maxRecDepth 100000 in
theorem pq_X6_nextEvent_9 (fu : Nat)  (n : Nat) (a1 : Int32) (a2 : Int64) (a4 : Int32) (s : Nat → Int32) (l : Nat → Int64) (x : Nat → Int32) (y : Nat → Int64) : pl_X6_nextEvent_9 fu (n + 1) a1 a2 a4 s l x y = pj_bl px_X6_nextEvent (pj_rn px_X6_nextEvent (pj_as pk_X6_nextEvent) (pj_as [(9, pe_X6_nextEvent_9 (pl_X6_nextEvent_9 fu n)), (48, pe_X6_nextEvent_48 (pl_X6_nextEvent_48 fu (pl_X6_nextEvent_9 fu n)))]) 60) [(9, .iload 4, 2), (11, .aload_n 0, 1), (12, .getfield 53, 3), (15, .if_icmp .ge 39, 3)] 9 [(0, pj_O (68, 0)), (1, pj_I a1), (2, pj_L a2), (4, pj_I a4)] [] (s, l, x, y) := rfl
set_option maxRecDepth 100000 in
theorem pq_X6_nextEvent_m (fu : Nat)   (s : Nat → Int32) (l : Nat → Int64) (x : Nat → Int32) (y : Nat → Int64) : po_X6_nextEvent fu  s l x y = pj_bl px_X6_nextEvent (pj_rn px_X6_nextEvent (pj_as pk_X6_nextEvent) (pj_as [(9, pe_X6_nextEvent_9 (pl_X6_nextEvent_9 fu fu))]) 60) [(0, .iconst (-1), 1), (1, .istore_n 1, 1), (2, .ldc2_w 70, 3), (5, .lstore_n 2, 1), (6, .iconst 0, 1), (7, .istore 4, 2)] 0 [(0, pj_O (68, 0))] [] (s, l, x, y) := rfl
theorem pu_X6_nextEvent_9 {lf : pj_Z → mj_M} {a : Int32 × pj_Z} (f : Int32 → Int64 → Int32 → pj_F (Int32 × pj_Z)) (hf : ∀ (a1 : Int32) (a2 : Int64) (a4 : Int32) (s : Nat → Int32) (l : Nat → Int64) (x : Nat → Int32) (y : Nat → Int64), f a1 a2 a4 s l x y = some a → pm_Gd 0 6003 ie_X6_nextEvent.1 pm_rI lf 9 [(0, .ref 68), (1, .int a1), (2, .long a2), (4, .int a4)] [] (s, l, x, y) a) : pm_Ex 0 6003 ie_X6_nextEvent.1 pm_rI lf a 9 (pe_X6_nextEvent_9 f) := by
  intro lv st z hd h
  obtain ⟨g0, h⟩ := pj_xr_inv h
  obtain ⟨a1, g1, h⟩ := pj_xi_inv h
  obtain ⟨a2, g2, h⟩ := pj_xl_inv h
  obtain ⟨a4, g4, h⟩ := pj_xi_inv h
  obtain ⟨e9, h⟩ := pj_pe_inv h
  rw [e9]
  exact mj_wp_sub (mj_sub_cons g0 (mj_sub_cons g1 (mj_sub_cons g2 (mj_sub_cons g4 (mj_sub_nil hd))))) (hf _ _ _ _ _ _ _ h)
theorem pu_X6_nextEvent_48 {lf : pj_Z → mj_M} {a : Int32 × pj_Z} (f : Int32 → Int64 → Int32 → pj_F (Int32 × pj_Z)) (hf : ∀ (a1 : Int32) (a2 : Int64) (a4 : Int32) (s : Nat → Int32) (l : Nat → Int64) (x : Nat → Int32) (y : Nat → Int64), f a1 a2 a4 s l x y = some a → pm_Gd 0 6003 ie_X6_nextEvent.1 pm_rI lf 48 [(0, .ref 68), (1, .int a1), (2, .long a2), (4, .int a4)] [] (s, l, x, y) a) : pm_Ex 0 6003 ie_X6_nextEvent.1 pm_rI lf a 48 (pe_X6_nextEvent_48 f) := by
  intro lv st z hd h
  obtain ⟨g0, h⟩ := pj_xr_inv h
  obtain ⟨a1, g1, h⟩ := pj_xi_inv h
  obtain ⟨a2, g2, h⟩ := pj_xl_inv h
  obtain ⟨a4, g4, h⟩ := pj_xi_inv h
  obtain ⟨e9, h⟩ := pj_pe_inv h
  rw [e9]
  exact mj_wp_sub (mj_sub_cons g0 (mj_sub_cons g1 (mj_sub_cons g2 (mj_sub_cons g4 (mj_sub_nil hd))))) (hf _ _ _ _ _ _ _ h)
set_option maxRecDepth 100000 in
theorem pz_X6_nextEvent {lf : pj_Z → mj_M} (hT : pj_Lt pj_TC lf) : pj_Cok ic_P (mj_R ic_P 0) 6003 ie_X6_nextEvent.1 (pm_OK lf pm_rI) lf px_X6_nextEvent := by
  exact pm_cok (c := px_X6_nextEvent) (pm_part hT (pj_as_all (p := fun b e => pj_TC b = some e) (List.forall_mem_cons.mpr ⟨rfl, (List.forall_mem_cons.mpr ⟨rfl, (fun _ h => by cases h)⟩)⟩))) (pm_in_ok (L := [(11, 6, 0, 2, true), (53, 6, 4, 0, false)]) (f := mj_pF ic_P 6003) (by decide +kernel)) (fun _ _ h => by cases h) (pm_inL_ok (L := [(70, 9223372036854775807)]) (f := mj_pL ic_P 6003) (by decide +kernel)) (fun _ _ h => by cases h) rfl rfl ⟨by decide, rfl⟩ pm_mI (fun _ _ h => by cases h) (fun _ h => by cases h)
set_option maxRecDepth 100000 in
theorem pb_X6_nextEvent : pm_bks ie_X6_nextEvent.1.2.2.2.2 pk_X6_nextEvent = true := by decide +kernel
set_option maxRecDepth 100000 in
theorem pg_X6_nextEvent_48 {fu : Nat} {lf : pj_Z → mj_M} (hT : pj_Lt pj_TC lf) {k9 : Int32 → Int64 → Int32 → pj_F (Int32 × pj_Z)} (hk9 : ∀ (a1 : Int32) (a2 : Int64) (a4 : Int32) (s : Nat → Int32) (l : Nat → Int64) (x : Nat → Int32) (y : Nat → Int64) (a : Int32 × pj_Z), k9 a1 a2 a4 s l x y = some a → pm_Gd 0 6003 ie_X6_nextEvent.1 pm_rI lf 9 [(0, .ref 68), (1, .int a1), (2, .long a2), (4, .int a4)] [] (s, l, x, y) a) : ∀ (a1 : Int32) (a2 : Int64) (a4 : Int32) (s : Nat → Int32) (l : Nat → Int64) (x : Nat → Int32) (y : Nat → Int64) (a : Int32 × pj_Z), pl_X6_nextEvent_48 fu k9 a1 a2 a4 s l x y = some a → pm_Gd 0 6003 ie_X6_nextEvent.1 pm_rI lf 48 [(0, .ref 68), (1, .int a1), (2, .long a2), (4, .int a4)] [] (s, l, x, y) a := by
  intro a1 a2 a4 s l x y a h
  exact pm_run ((pq_X6_nextEvent_48 fu k9 a1 a2 a4 s l x y).symm.trans h) (pz_X6_nextEvent hT) (pm_bks_ok pb_X6_nextEvent) (pm_bks_ok pb_X6_nextEvent _ _ rfl) (pm_ndb_ok rfl) (pj_as_all (p := pm_Ex 0 6003 ie_X6_nextEvent.1 pm_rI lf a) (List.forall_mem_cons.mpr ⟨pu_X6_nextEvent_9 _ (fun c0 c1 c2 s l x y h => hk9 c0 c1 c2 s l x y _ h), (fun _ h => by cases h)⟩))
set_option maxRecDepth 100000 in
theorem pg_X6_nextEvent_9 {fu : Nat} {lf : pj_Z → mj_M} (hT : pj_Lt pj_TC lf) : ∀ (n : Nat), ∀ (a1 : Int32) (a2 : Int64) (a4 : Int32) (s : Nat → Int32) (l : Nat → Int64) (x : Nat → Int32) (y : Nat → Int64) (a : Int32 × pj_Z), pl_X6_nextEvent_9 fu n a1 a2 a4 s l x y = some a → pm_Gd 0 6003 ie_X6_nextEvent.1 pm_rI lf 9 [(0, .ref 68), (1, .int a1), (2, .long a2), (4, .int a4)] [] (s, l, x, y) a := by
  intro n
  induction n with
  | zero => intro a1 a2 a4 s l x y a h; cases (show (none : Option (Int32 × pj_Z)) = some a from h)
  | succ n ih =>
    intro a1 a2 a4 s l x y a h
    exact pm_run ((pq_X6_nextEvent_9 fu n a1 a2 a4 s l x y).symm.trans h) (pz_X6_nextEvent hT) (pm_bks_ok pb_X6_nextEvent) (pm_bks_ok pb_X6_nextEvent _ _ rfl) (pm_ndb_ok rfl) (pj_as_all (p := pm_Ex 0 6003 ie_X6_nextEvent.1 pm_rI lf a) (List.forall_mem_cons.mpr ⟨pu_X6_nextEvent_9 _ (fun c0 c1 c2 s l x y h => ih c0 c1 c2 s l x y _ h), (List.forall_mem_cons.mpr ⟨pu_X6_nextEvent_48 _ (fun c0 c1 c2 s l x y h => pg_X6_nextEvent_48 hT (fun a1 a2 a4 s l x y a h => ih a1 a2 a4 s l x y a h) c0 c1 c2 s l x y _ h), (fun _ h => by cases h)⟩)⟩))
set_option maxRecDepth 100000 in
theorem pm_X6_nextEvent {lf : pj_Z → mj_M} (hT : pj_Lt pj_TC lf)  (s : Nat → Int32) (l : Nat → Int64) (x : Nat → Int32) (y : Nat → Int64) (a : Int32 × pj_Z) (h : pf_X6_nextEvent  s l x y = some a) : mj_R ic_P 1 6003 [.ref 68] (lf (s, l, x, y)) (pm_rI a.1) (lf a.2) := by
  refine pm_main (Y := ie_X6_nextEvent.1) rfl (Nat.le_of_ble_eq_true rfl) ?_
  exact pm_run ((pq_X6_nextEvent_m 1000  s l x y).symm.trans h) (pz_X6_nextEvent hT) (pm_bks_ok pb_X6_nextEvent) (pm_bks_ok pb_X6_nextEvent _ _ rfl) (pm_ndb_ok rfl) (pj_as_all (p := pm_Ex 0 6003 ie_X6_nextEvent.1 pm_rI lf a) (List.forall_mem_cons.mpr ⟨pu_X6_nextEvent_9 _ (fun c0 c1 c2 s l x y h => pg_X6_nextEvent_9 hT _ c0 c1 c2 s l x y _ h), (fun _ h => by cases h)⟩))
abbrev ph_X6_nextEvent {A : Type} : List pj_V → pj_Z → (List pj_V → pj_Z → Option A) → Option A := fun st z K => pj_pr st 68 0 fun st => pj_ps st (pj_b (pf_X6_nextEvent  z.1 z.2.1 z.2.2.1 z.2.2.2) fun r s l x y => K (pj_I r :: st) (s, l, x, y))
set_option maxRecDepth 100000 in
theorem pc_X6_nextEvent {A : Type} {OK : A → Option Value → mj_M → Prop} {d j pc ix : Nat} {Y : mj_Y} {lf : pj_Z → mj_M} (hT : pj_Lt pj_TC lf) (hd : 1 ≤ d) (hl : mj_lk Y.2.2.2.2 pc = some (.invokevirtual ix, 3)) (hg : mj_pG ic_P j ix = some (6003, 0, some 6)) {lv : List (Nat × Value)} {st : List pj_V} {z : pj_Z} {K : List pj_V → pj_Z → Option A} {a : A} (hK : ∀ st z, K st z = some a → pj_Gd ic_P (mj_R ic_P d) j Y OK lf (pc + 3) lv (pj_es st) z a) (h : ph_X6_nextEvent st z K = some a) : pj_Gd ic_P (mj_R ic_P d) j Y OK lf pc lv (pj_es st) z a := by
  obtain ⟨r0, e0, h⟩ := pj_pr_inv h
  obtain ⟨hs, h⟩ := pj_ps_inv h
  obtain ⟨q, hq, h⟩ := pj_b_inv h
  exact pm_cv (o := 68) hl hg [] rfl (by rw [e0]; rfl) hs (by decide) ((hT.2 68 _ rfl).1.2 z 0 (by decide)) (pm_rI q.1) hd (pm_X6_nextEvent hT  z.1 z.2.1 z.2.2.1 z.2.2.2 q hq) rfl (hK _ _ h)
abbrev pe_X6_takeOut_77 (f : pj_F (Unit × pj_Z)) : pj_K (Unit × pj_Z) := fun lv st z => pj_xr lv 0 68 0 <| pj_pe st (f  z.1 z.2.1 z.2.2.1 z.2.2.2)
abbrev px_X6_takeOut : pj_C (Unit × pj_Z) := ((pj_as [(68, 6, 19, 1, 0, true, 0, [(2, 69), (2, 70), (2, 71), (2, 72), (0, 57), (0, 58), (2, 73), (2, 74), (2, 75), (2, 76), (2, 77), (2, 78), (1, 11), (0, 59), (0, 60), (0, 61), (2, 79), (2, 80), (2, 81)]), (69, 101, 64, 1, 0, true, 16000, []), (70, 100, 64, 1, 0, false, 5000, []), (71, 100, 64, 1, 0, true, 17000, []), (72, 100, 64, 1, 0, false, 6000, [])]), (pj_as [(11, 6, 0, 2, true), (15, 6, 1, 2, true), (19, 6, 2, 2, true), (22, 6, 3, 2, true), (53, 6, 4, 0, false)]), (fun _ => none), (fun _ => none), (fun _ => none), ic_X, 3, 0, pj_mU, (fun _ => none), pj_mem [87])
abbrev pk_X6_takeOut : List (Nat × List (Nat × Instr × Nat)) := [(0, [(0, .aload_n 0, 1), (1, .getfield 53, 3), (4, .iload_n 1, 1), (5, .isub, 1), (6, .iconst 1, 1), (7, .isub, 1), (8, .istore_n 2, 1), (9, .iload_n 2, 1), (10, .ifCond .le 67, 3)]), (13, [(13, .aload_n 0, 1), (14, .getfield 11, 3), (17, .iload_n 1, 1), (18, .iconst 1, 1), (19, .iadd, 1), (20, .aload_n 0, 1), (21, .getfield 11, 3), (24, .iload_n 1, 1), (25, .iload_n 2, 1), (26, .invokestatic 87, 3), (29, .aload_n 0, 1), (30, .getfield 15, 3), (33, .iload_n 1, 1), (34, .iconst 1, 1), (35, .iadd, 1), (36, .aload_n 0, 1), (37, .getfield 15, 3), (40, .iload_n 1, 1), (41, .iload_n 2, 1), (42, .invokestatic 87, 3), (45, .aload_n 0, 1), (46, .getfield 19, 3), (49, .iload_n 1, 1), (50, .iconst 1, 1), (51, .iadd, 1), (52, .aload_n 0, 1), (53, .getfield 19, 3), (56, .iload_n 1, 1), (57, .iload_n 2, 1), (58, .invokestatic 87, 3), (61, .aload_n 0, 1), (62, .getfield 22, 3), (65, .iload_n 1, 1), (66, .iconst 1, 1), (67, .iadd, 1), (68, .aload_n 0, 1), (69, .getfield 22, 3), (72, .iload_n 1, 1), (73, .iload_n 2, 1), (74, .invokestatic 87, 3)]), (77, [(77, .aload_n 0, 1), (78, .dup, 1), (79, .getfield 53, 3), (82, .iconst 1, 1), (83, .isub, 1), (84, .putfield 53, 3), (87, .return_, 1)])]
set_option maxRecDepth 100000 in
theorem pq_X6_takeOut_77   (s : Nat → Int32) (l : Nat → Int64) (x : Nat → Int32) (y : Nat → Int64) : pl_X6_takeOut_77 s l x y = pj_bl px_X6_takeOut (pj_rn px_X6_takeOut (pj_as pk_X6_takeOut) (fun _ => none) 60) [(77, .aload_n 0, 1), (78, .dup, 1), (79, .getfield 53, 3), (82, .iconst 1, 1), (83, .isub, 1), (84, .putfield 53, 3), (87, .return_, 1)] 77 [(0, pj_O (68, 0))] [] (s, l, x, y) := rfl
set_option maxRecDepth 100000 in
theorem pq_X6_takeOut_m  (a1 : Int32) (s : Nat → Int32) (l : Nat → Int64) (x : Nat → Int32) (y : Nat → Int64) : pf_X6_takeOut a1 s l x y = pj_bl px_X6_takeOut (pj_rn px_X6_takeOut (pj_as pk_X6_takeOut) (pj_as [(77, pe_X6_takeOut_77 (pl_X6_takeOut_77))]) 60) [(0, .aload_n 0, 1), (1, .getfield 53, 3), (4, .iload_n 1, 1), (5, .isub, 1), (6, .iconst 1, 1), (7, .isub, 1), (8, .istore_n 2, 1), (9, .iload_n 2, 1), (10, .ifCond .le 67, 3)] 0 [(0, pj_O (68, 0)), (1, pj_I a1)] [] (s, l, x, y) := rfl
theorem pu_X6_takeOut_77 {lf : pj_Z → mj_M} {a : Unit × pj_Z} (f : pj_F (Unit × pj_Z)) (hf : ∀  (s : Nat → Int32) (l : Nat → Int64) (x : Nat → Int32) (y : Nat → Int64), f  s l x y = some a → pm_Gd 0 6006 ie_X6_takeOut.1 pm_rU lf 77 [(0, .ref 68)] [] (s, l, x, y) a) : pm_Ex 0 6006 ie_X6_takeOut.1 pm_rU lf a 77 (pe_X6_takeOut_77 f) := by
  intro lv st z hd h
  obtain ⟨g0, h⟩ := pj_xr_inv h
  obtain ⟨e9, h⟩ := pj_pe_inv h
  rw [e9]
  exact mj_wp_sub (mj_sub_cons g0 (mj_sub_nil hd)) (hf  _ _ _ _ h)
set_option maxRecDepth 100000 in
theorem pz_X6_takeOut {lf : pj_Z → mj_M} (hT : pj_Lt pj_TC lf) : pj_Cok ic_P (mj_R ic_P 0) 6006 ie_X6_takeOut.1 (pm_OK lf pm_rU) lf px_X6_takeOut := by
  exact pm_cok (c := px_X6_takeOut) (pm_part hT (pj_as_all (p := fun b e => pj_TC b = some e) (List.forall_mem_cons.mpr ⟨rfl, (List.forall_mem_cons.mpr ⟨rfl, (List.forall_mem_cons.mpr ⟨rfl, (List.forall_mem_cons.mpr ⟨rfl, (List.forall_mem_cons.mpr ⟨rfl, (fun _ h => by cases h)⟩)⟩)⟩)⟩)⟩))) (pm_in_ok (L := [(11, 6, 0, 2, true), (15, 6, 1, 2, true), (19, 6, 2, 2, true), (22, 6, 3, 2, true), (53, 6, 4, 0, false)]) (f := mj_pF ic_P 6006) (by decide +kernel)) (fun _ _ h => by cases h) (fun _ _ h => by cases h) (fun _ _ h => by cases h) rfl rfl ⟨by decide, rfl⟩ pm_mU (fun _ _ h => by cases h) (pj_mem_all (p := fun ix => mj_pC ic_P 6006 ix = true) (by simp only [List.mem_cons, List.not_mem_nil, or_false, forall_eq_or_imp, forall_eq]; exact rfl))
set_option maxRecDepth 100000 in
theorem pb_X6_takeOut : pm_bks ie_X6_takeOut.1.2.2.2.2 pk_X6_takeOut = true := by decide +kernel
set_option maxRecDepth 100000 in
theorem pg_X6_takeOut_77 {lf : pj_Z → mj_M} (hT : pj_Lt pj_TC lf) : ∀  (s : Nat → Int32) (l : Nat → Int64) (x : Nat → Int32) (y : Nat → Int64) (a : Unit × pj_Z), pl_X6_takeOut_77 s l x y = some a → pm_Gd 0 6006 ie_X6_takeOut.1 pm_rU lf 77 [(0, .ref 68)] [] (s, l, x, y) a := by
  intro  s l x y a h
  exact pm_run ((pq_X6_takeOut_77   s l x y).symm.trans h) (pz_X6_takeOut hT) (pm_bks_ok pb_X6_takeOut) (pm_bks_ok pb_X6_takeOut _ _ rfl) (pm_ndb_ok rfl) (fun _ _ h => by cases h)
set_option maxRecDepth 100000 in
theorem pm_X6_takeOut {lf : pj_Z → mj_M} (hT : pj_Lt pj_TC lf) (a1 : Int32) (s : Nat → Int32) (l : Nat → Int64) (x : Nat → Int32) (y : Nat → Int64) (a : Unit × pj_Z) (h : pf_X6_takeOut a1 s l x y = some a) : mj_R ic_P 1 6006 [.ref 68, .int a1] (lf (s, l, x, y)) (pm_rU a.1) (lf a.2) := by
  refine pm_main (Y := ie_X6_takeOut.1) rfl (Nat.le_of_ble_eq_true rfl) ?_
  exact pm_run ((pq_X6_takeOut_m a1 s l x y).symm.trans h) (pz_X6_takeOut hT) (pm_bks_ok pb_X6_takeOut) (pm_bks_ok pb_X6_takeOut _ _ rfl) (pm_ndb_ok rfl) (pj_as_all (p := pm_Ex 0 6006 ie_X6_takeOut.1 pm_rU lf a) (List.forall_mem_cons.mpr ⟨pu_X6_takeOut_77 _ (fun  s l x y h => pg_X6_takeOut_77 hT  s l x y _ h), (fun _ h => by cases h)⟩))
abbrev ph_X6_takeOut {A : Type} : List pj_V → pj_Z → (List pj_V → pj_Z → Option A) → Option A := fun st z K => pj_pi st fun a1 st => pj_pr st 68 0 fun st => pj_ps st (pj_b (pf_X6_takeOut a1 z.1 z.2.1 z.2.2.1 z.2.2.2) fun r s l x y => K st (s, l, x, y))
set_option maxRecDepth 100000 in
theorem pc_X6_takeOut {A : Type} {OK : A → Option Value → mj_M → Prop} {d j pc ix : Nat} {Y : mj_Y} {lf : pj_Z → mj_M} (hT : pj_Lt pj_TC lf) (hd : 1 ≤ d) (hl : mj_lk Y.2.2.2.2 pc = some (.invokevirtual ix, 3)) (hg : mj_pG ic_P j ix = some (6006, 1, some 6)) {lv : List (Nat × Value)} {st : List pj_V} {z : pj_Z} {K : List pj_V → pj_Z → Option A} {a : A} (hK : ∀ st z, K st z = some a → pj_Gd ic_P (mj_R ic_P d) j Y OK lf (pc + 3) lv (pj_es st) z a) (h : ph_X6_takeOut st z K = some a) : pj_Gd ic_P (mj_R ic_P d) j Y OK lf pc lv (pj_es st) z a := by
  obtain ⟨a1, r1, e1, h⟩ := pj_pi_inv h
  obtain ⟨r0, e0, h⟩ := pj_pr_inv h
  obtain ⟨hs, h⟩ := pj_ps_inv h
  obtain ⟨q, hq, h⟩ := pj_b_inv h
  exact pm_cv (o := 68) hl hg [.int a1] rfl (by rw [e1, e0]; rfl) hs (by decide) ((hT.2 68 _ rfl).1.2 z 0 (by decide)) (pm_rU q.1) hd (pm_X6_takeOut hT a1 z.1 z.2.1 z.2.2.1 z.2.2.2 q hq) rfl (hK _ _ h)
abbrev px_X6_put : pj_C (Unit × pj_Z) := ((pj_as [(68, 6, 19, 1, 0, true, 0, [(2, 69), (2, 70), (2, 71), (2, 72), (0, 57), (0, 58), (2, 73), (2, 74), (2, 75), (2, 76), (2, 77), (2, 78), (1, 11), (0, 59), (0, 60), (0, 61), (2, 79), (2, 80), (2, 81)]), (69, 101, 64, 1, 0, true, 16000, []), (70, 100, 64, 1, 0, false, 5000, []), (71, 100, 64, 1, 0, true, 17000, []), (72, 100, 64, 1, 0, false, 6000, [])]), (pj_as [(11, 6, 0, 2, true), (15, 6, 1, 2, true), (19, 6, 2, 2, true), (22, 6, 3, 2, true), (53, 6, 4, 0, false), (57, 6, 5, 0, false)]), (fun _ => none), (fun _ => none), (fun _ => none), ic_X, 6, 0, pj_mU, (fun _ => none), fun _ => false)
abbrev pk_X6_put : List (Nat × List (Nat × Instr × Nat)) := [(0, [(0, .aload_n 0, 1), (1, .getfield 53, 3), (4, .bipush 64, 2), (6, .if_icmp .lt 14, 3)]), (9, [(9, .aload_n 0, 1), (10, .dup, 1), (11, .getfield 57, 3), (14, .iconst 1, 1), (15, .iadd, 1), (16, .putfield 57, 3), (19, .return_, 1)]), (20, [(20, .aload_n 0, 1), (21, .getfield 11, 3), (24, .aload_n 0, 1), (25, .getfield 53, 3), (28, .lload_n 1, 1), (29, .lastore, 1), (30, .aload_n 0, 1), (31, .getfield 15, 3), (34, .aload_n 0, 1), (35, .getfield 53, 3), (38, .iload_n 3, 1), (39, .iastore, 1), (40, .aload_n 0, 1), (41, .getfield 19, 3), (44, .aload_n 0, 1), (45, .getfield 53, 3), (48, .iload 4, 2), (50, .iastore, 1), (51, .aload_n 0, 1), (52, .getfield 22, 3), (55, .aload_n 0, 1), (56, .getfield 53, 3), (59, .iload 5, 2), (61, .iastore, 1), (62, .aload_n 0, 1), (63, .dup, 1), (64, .getfield 53, 3), (67, .iconst 1, 1), (68, .iadd, 1), (69, .putfield 53, 3), (72, .return_, 1)])]
set_option maxRecDepth 100000 in
theorem pq_X6_put_m  (a1 : Int64) (a3 : Int32) (a4 : Int32) (a5 : Int32) (s : Nat → Int32) (l : Nat → Int64) (x : Nat → Int32) (y : Nat → Int64) : pf_X6_put a1 a3 a4 a5 s l x y = pj_bl px_X6_put (pj_rn px_X6_put (pj_as pk_X6_put) (fun _ => none) 60) [(0, .aload_n 0, 1), (1, .getfield 53, 3), (4, .bipush 64, 2), (6, .if_icmp .lt 14, 3)] 0 [(0, pj_O (68, 0)), (1, pj_L a1), (3, pj_I a3), (4, pj_I a4), (5, pj_I a5)] [] (s, l, x, y) := rfl
set_option maxRecDepth 100000 in
theorem pz_X6_put {lf : pj_Z → mj_M} (hT : pj_Lt pj_TC lf) : pj_Cok ic_P (mj_R ic_P 0) 6002 ie_X6_put.1 (pm_OK lf pm_rU) lf px_X6_put := by
  exact pm_cok (c := px_X6_put) (pm_part hT (pj_as_all (p := fun b e => pj_TC b = some e) (List.forall_mem_cons.mpr ⟨rfl, (List.forall_mem_cons.mpr ⟨rfl, (List.forall_mem_cons.mpr ⟨rfl, (List.forall_mem_cons.mpr ⟨rfl, (List.forall_mem_cons.mpr ⟨rfl, (fun _ h => by cases h)⟩)⟩)⟩)⟩)⟩))) (pm_in_ok (L := [(11, 6, 0, 2, true), (15, 6, 1, 2, true), (19, 6, 2, 2, true), (22, 6, 3, 2, true), (53, 6, 4, 0, false), (57, 6, 5, 0, false)]) (f := mj_pF ic_P 6002) (by decide +kernel)) (fun _ _ h => by cases h) (fun _ _ h => by cases h) (fun _ _ h => by cases h) rfl rfl ⟨by decide, rfl⟩ pm_mU (fun _ _ h => by cases h) (fun _ h => by cases h)
set_option maxRecDepth 100000 in
theorem pb_X6_put : pm_bks ie_X6_put.1.2.2.2.2 pk_X6_put = true := by decide +kernel
set_option maxRecDepth 100000 in
theorem pm_X6_put {lf : pj_Z → mj_M} (hT : pj_Lt pj_TC lf) (a1 : Int64) (a3 : Int32) (a4 : Int32) (a5 : Int32) (s : Nat → Int32) (l : Nat → Int64) (x : Nat → Int32) (y : Nat → Int64) (a : Unit × pj_Z) (h : pf_X6_put a1 a3 a4 a5 s l x y = some a) : mj_R ic_P 1 6002 [.ref 68, .long a1, .int a3, .int a4, .int a5] (lf (s, l, x, y)) (pm_rU a.1) (lf a.2) := by
  refine pm_main (Y := ie_X6_put.1) rfl (Nat.le_of_ble_eq_true rfl) ?_
  exact pm_run ((pq_X6_put_m a1 a3 a4 a5 s l x y).symm.trans h) (pz_X6_put hT) (pm_bks_ok pb_X6_put) (pm_bks_ok pb_X6_put _ _ rfl) (pm_ndb_ok rfl) (fun _ _ h => by cases h)
abbrev ph_X6_put {A : Type} : List pj_V → pj_Z → (List pj_V → pj_Z → Option A) → Option A := fun st z K => pj_pi st fun a5 st => pj_pi st fun a4 st => pj_pi st fun a3 st => pj_pl st fun a1 st => pj_pr st 68 0 fun st => pj_ps st (pj_b (pf_X6_put a1 a3 a4 a5 z.1 z.2.1 z.2.2.1 z.2.2.2) fun r s l x y => K st (s, l, x, y))
set_option maxRecDepth 100000 in
theorem pc_X6_put {A : Type} {OK : A → Option Value → mj_M → Prop} {d j pc ix : Nat} {Y : mj_Y} {lf : pj_Z → mj_M} (hT : pj_Lt pj_TC lf) (hd : 1 ≤ d) (hl : mj_lk Y.2.2.2.2 pc = some (.invokevirtual ix, 3)) (hg : mj_pG ic_P j ix = some (6002, 4, some 6)) {lv : List (Nat × Value)} {st : List pj_V} {z : pj_Z} {K : List pj_V → pj_Z → Option A} {a : A} (hK : ∀ st z, K st z = some a → pj_Gd ic_P (mj_R ic_P d) j Y OK lf (pc + 3) lv (pj_es st) z a) (h : ph_X6_put st z K = some a) : pj_Gd ic_P (mj_R ic_P d) j Y OK lf pc lv (pj_es st) z a := by
  obtain ⟨a5, r5, e5, h⟩ := pj_pi_inv h
  obtain ⟨a4, r4, e4, h⟩ := pj_pi_inv h
  obtain ⟨a3, r3, e3, h⟩ := pj_pi_inv h
  obtain ⟨a1, r1, e1, h⟩ := pj_pl_inv h
  obtain ⟨r0, e0, h⟩ := pj_pr_inv h
  obtain ⟨hs, h⟩ := pj_ps_inv h
  obtain ⟨q, hq, h⟩ := pj_b_inv h
  exact pm_cv (o := 68) hl hg [.long a1, .int a3, .int a4, .int a5] rfl (by rw [e5, e4, e3, e1, e0]; rfl) hs (by decide) ((hT.2 68 _ rfl).1.2 z 0 (by decide)) (pm_rU q.1) hd (pm_X6_put hT a1 a3 a4 a5 z.1 z.2.1 z.2.2.1 z.2.2.2 q hq) rfl (hK _ _ h)

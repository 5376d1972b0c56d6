/-! METHODS: String's members and the ring, as they are called -/
theorem ps_lt {i : Int32} {n : Nat} (h0 : ¬ i < 0) (h1 : i.toNatClampNeg < n) (hn : n < 2000) : i < Int32.ofNat n := by
  have b := Int32.le_iff_toInt_le.mp (Int32.not_lt.mp h0)
  have z : (0 : Int32).toInt = 0 := by decide
  rw [z] at b
  apply Int32.lt_iff_toInt_lt.mpr
  rw [Int32.toInt_ofNat_of_lt (by omega)]
  have h1 : i.toInt.toNat < n := h1
  omega
abbrev ph_S_len {A : Type} : List pj_V → pj_Z → (List pj_V → pj_Z → Option A) → Option A := fun st z K => pj_pr st 2000000 0 fun st => pj_ps st (K (pj_N 17 :: st) z)
abbrev ph_S_chr {A : Type} : List pj_V → pj_Z → (List pj_V → pj_Z → Option A) → Option A := fun st z K => pj_pi st fun a1 st => pj_pr st 2000000 0 fun st => pj_ps st (pj_g a1 17 (K (pj_I (pj_schr 0 a1.toNatClampNeg) :: st) z))
abbrev ph_S_idx {A : Type} : List pj_V → pj_Z → (List pj_V → pj_Z → Option A) → Option A := fun st z K => pj_pi st fun a1 st => pj_pr st 2000002 0 fun st => pj_ps st (K (pj_I (pj_sidx 1 a1) :: st) z)
abbrev ph_X0_rec (f : Int32 → pj_F (Int32 × pj_Z)) {A : Type} : List pj_V → pj_Z → (List pj_V → pj_Z → Option A) → Option A := fun st z K => pj_pi st fun a1 st => pj_pr st 106 0 fun st => pj_ps st (pj_b (f a1 z.1 z.2.1 z.2.2.1 z.2.2.2) fun r s l x y => K (pj_I r :: st) (s, l, x, y))
section PCS
variable {A : Type} {OK : A → Option Value → mj_M → Prop} {d j pc ix : Nat} {Y : mj_Y} {lf : pj_Z → mj_M} {T : Nat → Option pj_E} {lv : List (Nat × Value)} {st : List pj_V} {z : pj_Z} {K : List pj_V → pj_Z → Option A} {a : A}
theorem pc_S_len (hT : pj_Lt T lf) (hd : 2 ≤ d) (hl : mj_lk Y.2.2.2.2 pc = some (.invokevirtual ix, 3)) (hg : mj_pG ic_P j ix = some (20000, 0, some 200)) (hK : ∀ st z, K st z = some a → pj_Gd ic_P (mj_R ic_P d) j Y OK lf (pc + 3) lv (pj_es st) z a) (h : ph_S_len st z K = some a) : pj_Gd ic_P (mj_R ic_P d) j Y OK lf pc lv (pj_es st) z a := by
  obtain ⟨r0, e0, h⟩ := pj_pr_inv h
  obtain ⟨hs, h⟩ := pj_ps_inv h
  exact pm_cS (o := 2000000) (q := (17, ps_b0)) (rest := r0) hl hg [] rfl (by rw [e0]; rfl) hs rfl (some (.int 17)) hd (ps_len0 (d := 0) (hT.1 z)) rfl (hK _ _ h)
theorem pc_S_chr (hT : pj_Lt T lf) (hd : 4 ≤ d) (hl : mj_lk Y.2.2.2.2 pc = some (.invokevirtual ix, 3)) (hg : mj_pG ic_P j ix = some (20001, 1, some 200)) (hK : ∀ st z, K st z = some a → pj_Gd ic_P (mj_R ic_P d) j Y OK lf (pc + 3) lv (pj_es st) z a) (h : ph_S_chr st z K = some a) : pj_Gd ic_P (mj_R ic_P d) j Y OK lf pc lv (pj_es st) z a := by
  obtain ⟨a1, r1, e1, h⟩ := pj_pi_inv h
  obtain ⟨r0, e0, h⟩ := pj_pr_inv h
  obtain ⟨hs, h⟩ := pj_ps_inv h
  unfold pj_g at h
  split at h
  · cases h
  · rename_i hc
    have h0 : ¬ a1 < 0 := fun q => hc (Or.inl q)
    have h1 : a1 < Int32.ofNat 17 := ps_lt h0 (Nat.not_le.mp (fun q => hc (Or.inr q))) (by decide)
    exact pm_cS (o := 2000000) (q := (17, ps_b0)) (rest := r0) hl hg [.int a1] rfl (by rw [e1, e0]; rfl) hs rfl (some (.int (pj_schr 0 a1.toNatClampNeg))) hd (ps_char (d := 0) (hT.1 z) h0 h1) rfl (hK _ _ h)
theorem pc_S_idx (hT : pj_Lt T lf) (hd : 4 ≤ d) (hl : mj_lk Y.2.2.2.2 pc = some (.invokevirtual ix, 3)) (hg : mj_pG ic_P j ix = some (20002, 1, some 200)) (hK : ∀ st z, K st z = some a → pj_Gd ic_P (mj_R ic_P d) j Y OK lf (pc + 3) lv (pj_es st) z a) (h : ph_S_idx st z K = some a) : pj_Gd ic_P (mj_R ic_P d) j Y OK lf pc lv (pj_es st) z a := by
  obtain ⟨a1, r1, e1, h⟩ := pj_pi_inv h
  obtain ⟨r0, e0, h⟩ := pj_pr_inv h
  obtain ⟨hs, h⟩ := pj_ps_inv h
  exact pm_cS (o := 2000002) (q := (8, ps_b1)) (rest := r0) hl hg [.int a1] rfl (by rw [e1, e0]; rfl) hs rfl (some (.int (pj_sidx 1 a1))) hd (ps_idx (d := 0) (hT.1 z)) rfl (hK _ _ h)
theorem pc_X0_readChoice_rec (hT : pj_Lt pj_TC lf) {D : Nat} {f : Int32 → pj_F (Int32 × pj_Z)} (hf : (∀ (a1 : Int32) (s : Nat → Int32) (l : Nat → Int64) (x : Nat → Int32) (y : Nat → Int64) (a : Int32 × pj_Z), f a1 s l x y = some a → mj_R ic_P D 9 [.ref 106, .int a1] (lf (s, l, x, y)) (pm_rI a.1) (lf a.2))) (hd : D ≤ d) (hl : mj_lk Y.2.2.2.2 pc = some (.invokevirtual ix, 3)) (hg : mj_pG ic_P j ix = some (9, 1, some 0)) (hK : ∀ st z, K st z = some a → pj_Gd ic_P (mj_R ic_P d) j Y OK lf (pc + 3) lv (pj_es st) z a) (h : ph_X0_rec f st z K = some a) : pj_Gd ic_P (mj_R ic_P d) j Y OK lf pc lv (pj_es st) z a := by
  obtain ⟨a1, r1, e1, h⟩ := pj_pi_inv h
  obtain ⟨r0, e0, h⟩ := pj_pr_inv h
  obtain ⟨hs, h⟩ := pj_ps_inv h
  obtain ⟨q, hq, h⟩ := pj_b_inv h
  exact pm_cv (o := 106) hl hg [.int a1] rfl (by rw [e1, e0]; rfl) hs (by decide) ((hT.2 106 _ rfl).1.2 z 0 (by decide)) (pm_rI q.1) hd (hf a1 z.1 z.2.1 z.2.2.1 z.2.2.2 q hq) rfl (hK _ _ h)
theorem pc_X0_readFactor_rec (hT : pj_Lt pj_TC lf) {D : Nat} {f : Int32 → pj_F (Int32 × pj_Z)} (hf : (∀ (a1 : Int32) (s : Nat → Int32) (l : Nat → Int64) (x : Nat → Int32) (y : Nat → Int64) (a : Int32 × pj_Z), f a1 s l x y = some a → mj_R ic_P D 12 [.ref 106, .int a1] (lf (s, l, x, y)) (pm_rI a.1) (lf a.2))) (hd : D ≤ d) (hl : mj_lk Y.2.2.2.2 pc = some (.invokevirtual ix, 3)) (hg : mj_pG ic_P j ix = some (12, 1, some 0)) (hK : ∀ st z, K st z = some a → pj_Gd ic_P (mj_R ic_P d) j Y OK lf (pc + 3) lv (pj_es st) z a) (h : ph_X0_rec f st z K = some a) : pj_Gd ic_P (mj_R ic_P d) j Y OK lf pc lv (pj_es st) z a := by
  obtain ⟨a1, r1, e1, h⟩ := pj_pi_inv h
  obtain ⟨r0, e0, h⟩ := pj_pr_inv h
  obtain ⟨hs, h⟩ := pj_ps_inv h
  obtain ⟨q, hq, h⟩ := pj_b_inv h
  exact pm_cv (o := 106) hl hg [.int a1] rfl (by rw [e1, e0]; rfl) hs (by decide) ((hT.2 106 _ rfl).1.2 z 0 (by decide)) (pm_rI q.1) hd (hf a1 z.1 z.2.1 z.2.2.1 z.2.2.2 q hq) rfl (hK _ _ h)
end PCS

/-! THE WHOLE MEMORY: the class's cells out of one set of variables, the reference's and the law's out of another -/
set_option maxRecDepth 100000 in
theorem fm_ckC : pj_chk fm_LC fm_sh fm_C = true := by decide +kernel
set_option maxRecDepth 100000 in
theorem fm_ckR : pj_chk fm_LR fm_sh fm_R = true := by decide +kernel
theorem fm_TC (zR : pj_Z) (w : Int64) : pj_Lt pj_TC (fun zC => fm zC zR w) := pj_lf_ok (L := fm_LC) (fi := fun o => bif fm_R o then pj_mi fm_LR zR o else (fun _ => 0)) (fl := fun o => bif fm_R o then pj_ml fm_LR zR o else fm_w w o) (fr := fun o => bif fm_R o then pj_mr fm_LR o else (fun _ => none)) fm_ckC
theorem fm_eq (zC zR : pj_Z) (w : Int64) : fm zC zR w = pj_lf fm_LR fm_sh fm_R (fun o => bif fm_C o then pj_mi fm_LC zC o else (fun _ => 0)) (fun o => bif fm_C o then pj_ml fm_LC zC o else fm_w w o) (fun o => bif fm_C o then pj_mr fm_LC o else (fun _ => none)) zR := by
  unfold fm pj_lf
  have e : ∀ {α : Type} (f g h : Nat → α), (fun o => bif fm_C o then f o else bif fm_R o then g o else h o) = (fun o => bif fm_R o then g o else bif fm_C o then f o else h o) := fun f g h => by
    funext o
    unfold fm_C fm_R
    cases Nat.blt o 124 <;> cases Nat.blt o 194 <;> rfl
  rw [e, e, e]
theorem fm_TR (zC : pj_Z) (w : Int64) : pj_Lt pj_TR (fun zR => fm zC zR w) := by
  have h : (fun zR => fm zC zR w) = pj_lf fm_LR fm_sh fm_R (fun o => bif fm_C o then pj_mi fm_LC zC o else (fun _ => 0)) (fun o => bif fm_C o then pj_ml fm_LC zC o else fm_w w o) (fun o => bif fm_C o then pj_mr fm_LC o else (fun _ => none)) := funext (fun zR => fm_eq zC zR w)
  rw [h]
  exact pj_lf_ok fm_ckR
theorem fm_1 (zC zR : pj_Z) (w : Int64) : (fm zC zR w).1 = fm_sh := rfl
/-- the law's long -/
theorem fm_out (zC zR : pj_Z) (w w2 : Int64) : ((fm zC zR w).1, (fm zC zR w).2.1, mj_u (fm zC zR w).2.2.1 194 0 w2, (fm zC zR w).2.2.2) = fm zC zR w2 := by
  have e : mj_u (fm zC zR w).2.2.1 194 0 w2 = (fm zC zR w2).2.2.1 := by
    funext o k
    unfold mj_u
    by_cases h : o = 194
    · subst h
      rw [if_pos rfl]
      show (if k = 0 then w2 else fm_w w 194 k) = fm_w w2 194 k
      unfold fm_w
      by_cases h2 : k = 0
      · rw [if_pos h2, if_pos ⟨rfl, h2⟩]
      · rw [if_neg h2, if_neg (fun q => h2 q.2), if_neg (fun q => h2 q.2)]
    · rw [if_neg h]
      show (bif fm_C o then pj_ml fm_LC zC o else bif fm_R o then pj_ml fm_LR zR o else fm_w w o) k = (bif fm_C o then pj_ml fm_LC zC o else bif fm_R o then pj_ml fm_LR zR o else fm_w w2 o) k
      have z : fm_w w o = fm_w w2 o := by
        funext k
        unfold fm_w
        rw [if_neg (fun q => h q.1), if_neg (fun q => h q.1)]
      rw [z]
  rw [e]
  rfl
theorem fm_o (zC zR : pj_Z) (w : Int64) : (fm zC zR w).2.2.1 194 0 = w := by
  show fm_w w 194 0 = w
  unfold fm_w
  rw [if_pos ⟨rfl, rfl⟩]
def fm_rck (L : List (Nat × pj_E)) : Bool := L.all (fun q => bif Nat.blt q.2.1 100 then q.2.2.2.2.2.2.2.all (fun w => !(w.1 == 2) || Nat.blt w.2 195) else !(q.2.1 == 103 || q.2.1 == 104) || Nat.ble (q.2.2.2.2.2.2.1 + q.2.2.1) 195)
theorem fm_mr {L : List (Nat × pj_E)} (hc : fm_rck L = true) {o i j : Nat} (h : pj_mr L o i = some j) : j < 195 := by
  unfold pj_mr at h
  split at h
  · rename_i q hq
    obtain ⟨b, e, n⟩ := q
    obtain ⟨hm, -, -⟩ := pj_fr_in hq
    have g := List.all_eq_true.mp hc _ hm
    dsimp only at h g
    cases hk : Nat.blt e.1 100 with
    | true =>
      rw [hk] at h g
      dsimp only [cond_true] at h g
      split at h
      · rename_i w hw
        have g2 := List.all_eq_true.mp g _ (fm_nth hw)
        cases h2 : (w.1 == 2) with
        | true =>
          rw [h2] at h g2
          dsimp only [cond_true] at h
          cases h
          simpa using g2
        | false => rw [h2] at h; cases h
      · cases h
    | false =>
      rw [hk] at h g
      dsimp only [cond_false] at h g
      cases h2 : ((e.1 == 103 || e.1 == 104) && Nat.blt i e.2.1) with
      | true =>
        rw [h2] at h
        dsimp only [cond_true] at h
        cases h
        obtain ⟨k1, k2⟩ := (Bool.and_eq_true _ _).mp h2
        rw [k1] at g
        have k2 : i < e.2.1 := by simpa using k2
        have g : e.2.2.2.2.2.1 + e.2.1 ≤ 195 := by simpa using g
        omega
      | false => rw [h2] at h; cases h
  · cases h
set_option maxRecDepth 100000 in
theorem fm_rC : fm_rck fm_LC = true := by decide +kernel
set_option maxRecDepth 100000 in
theorem fm_rR : fm_rck fm_LR = true := by decide +kernel
theorem fm_wM (zC zR : pj_Z) (w : Int64) : mj_wM (fm zC zR w) := by
  intro a k i h
  have hl : (fm zC zR w).1.length = 195 := show fm_sh.length = 195 from (by decide +kernel)
  rw [hl]
  refine Or.inl ?_
  have h : (bif fm_C a then pj_mr fm_LC a else bif fm_R a then pj_mr fm_LR a else (fun _ => none)) k = some i := h
  cases h1 : fm_C a with
  | true => rw [h1] at h; exact fm_mr fm_rC h
  | false =>
    rw [h1] at h
    cases h2 : fm_R a with
    | true => rw [h2] at h; exact fm_mr fm_rR h
    | false => rw [h2] at h; cases h

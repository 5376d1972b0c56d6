/-! THE SMALL MACHINE, 7: the theorem. What it runs to, the machine runs to, within the room of d frames -/
theorem mj_cv_inv {P : mj_P} {j ix k : Nat} {S : mj_S} {j' : Nat} {vs rest : List Value} (h : mj_cv P j ix k S = some (j', vs, rest)) : ∃ n ci o As nn, P.2.2.1 j ix = some (j', n, some ci) ∧ k = 3 ∧ As.length = n ∧ ci < 100 ∧ S.2.2.2.1[o]? = some (ci, nn) ∧ mj_sum rest ≤ 8 ∧ vs = .ref o :: As ∧ S.2.2.1 = As.reverse ++ .ref o :: rest := by
  unfold mj_cv at h
  split at h
  · rename_i j2 n ci hG
    split at h
    · rename_i o r hd
      split at h
      · rename_i hc
        obtain ⟨h1, h2, h3, h4, h5⟩ := hc
        cases h
        obtain ⟨nn, hnn⟩ := Option.isSome_iff_exists.mp h4
        refine ⟨n, ci, o, (S.2.2.1.take n).reverse, nn, hG, h1, by rw [List.length_reverse]; exact h2, h3, mj_len_at hnn, h5, rfl, ?_⟩
        rw [List.reverse_reverse, ← hd, List.take_append_drop]
      · cases h
    · cases h
  · cases h
theorem mj_cs_inv {P : mj_P} {j ix k : Nat} {S : mj_S} {j' : Nat} {vs rest : List Value} (h : mj_cs P j ix k S = some (j', vs, rest)) : ∃ n, P.2.2.1 j ix = some (j', n, none) ∧ k = 3 ∧ vs.length = n ∧ mj_sum rest ≤ 8 ∧ S.2.2.1 = vs.reverse ++ rest := by
  unfold mj_cs at h
  split at h
  · rename_i j2 n hG
    split at h
    · rename_i hc
      obtain ⟨h1, h2, h5⟩ := hc
      cases h
      refine ⟨n, hG, h1, by rw [List.length_reverse]; exact h2, h5, ?_⟩
      rw [List.reverse_reverse, List.take_append_drop]
    · cases h
  · cases h
theorem mj_sum_v (ad : Nat → Nat) (st : List Value) : ((mj_s ad st).map fun v => v.category).sum = mj_sum st := by
  unfold mj_s mj_sum
  rw [List.map_map]
  congr 1
  exact List.map_congr_left (fun v _ => mj_v_cat ad v)
theorem mj_blind {D : va_G} {cl : List vw_C} {cty : Nat → Nat → FieldType} {cy : Nat → ClassId} {ad : Nat → Nat} {Ns : List Cond} {M : mj_M} {sz : Nat} {av : List Value} (hN : ∀ w ∈ Ns, ∃ a i x h, w = Cond.methodLinkNest a i x h) : FrameBlind (va_Pc av (mj_B D cl cty cy ad Ns M sz)) := by
  intro a U g mk q
  obtain ⟨q0, q1, qK, qP, qD, qN⟩ := q
  refine ⟨q0, q1, va_K.moved (u := U) (U := U.calling g mk a) (Vm.Alike.refl U.vm) qK, qP, qD, fun w hw => ?_⟩
  obtain ⟨a1, i1, x1, h1, rfl⟩ := hN w hw
  exact va_Nw.same rfl rfl (qN _ hw)
theorem mj_pre {s U : State} {H : Heap} {D : va_G} {cl : List vw_C} {cty : Nat → Nat → FieldType} {cy : Nat → ClassId} {ad : Nat → Nat} {Ns : List Cond} {M : mj_M} {A : Nat → Prop} {av : List Value} (hN : ∀ w ∈ Ns, ∃ a i x h, w = Cond.methodLinkNest a i x h) (hK : va_K D cl (mj_tys cy) s) (hP : va_P D cl (mj_ws cty cy ad M) H) (hD : va_D A (mj_ws cty cy ad M)) (hNw : ∀ w ∈ Ns, va_Nw w s) (hU : U.heap = H) (hW : s.WarmedH U.vm) : va_Pc av (mj_B D cl cty cy ad Ns M H.size) av.toArray U := by
  refine ⟨rfl, by rw [hU], va_K.moved hW.alike hK, by rw [hU]; exact hP, hD.weaken (fun _ _ _ _ => trivial), fun w hw => ?_⟩
  obtain ⟨a1, i1, x1, h1, rfl⟩ := hN w hw
  exact va_Nw.warmM hW (hNw _ hw)
theorem mj_sl_len (ad : Nat → Nat) (vs : List Value) : (lg_sl (mj_s ad vs)).length = mj_sum vs := by
  induction vs with
  | nil => rfl
  | cons v r ih =>
    have h1 : lg_sl (mj_s ad (v :: r)) = (if (mj_v ad v).category = 2 then [Slot.val (mj_v ad v), .second] else [Slot.val (mj_v ad v)]) ++ lg_sl (mj_s ad r) := rfl
    have h2 : mj_sum (v :: r) = v.category + mj_sum r := by simp [mj_sum]
    rw [h1, h2, List.length_append, ih, mj_v_cat]
    rcases lv_cat v with e | e <;> simp [e]
theorem mj_stk (ad : Nat → Nat) (As rest : List Value) : mj_s ad (As.reverse ++ rest) = (mj_s ad As).reverse ++ mj_s ad rest := by
  unfold mj_s
  rw [List.map_append, List.map_reverse]
theorem mj_back (ad : Nat → Nat) (v : Option Value) (rest : List Value) : mj_s ad (v.toList ++ rest) = (v.map (mj_v ad)).toList ++ mj_s ad rest := by cases v <;> rfl
theorem mj_room {d' maxL : Nat} (h : maxL ≤ 40) : (mj_rm d').frames + 1 ≤ (mj_rm (d' + 1)).frames ∧ 8 + (maxL + 11) + (mj_rm d').locals ≤ (mj_rm (d' + 1)).locals := by
  refine ⟨Nat.le_refl _, ?_⟩
  show 8 + (maxL + 11) + 64 * d' ≤ 64 * (d' + 1)
  omega
set_option maxHeartbeats 4000000 in
theorem mj_body {l : Launch} {AW Ns : List Cond} {cl : List vw_C} {cty : Nat → Nat → FieldType} {P : mj_P} (hG : mj_Good AW Ns cl cty P) : ∀ (n d j : Nat) (S : mj_S) (u : Option Value × mj_M), mj_run P n d j S = some u → ∀ (Y : mj_Y), P.1 j = some Y →
    ∀ {p : Program} {e : Env} {s : State} {m : MethodId} {args : Array Value} {below : List Frame} {meth : Method} {c : Code} (D : va_G) (cy : Nat → ClassId) (ad : Nat → Nat) (A : Nat → Prop), p.tables.exec = Jvm.exec → c.code = Y.2.1 → c.maxLocals = Y.2.2.1 → meth.sig.returnType = Y.2.2.2.1 → meth.locks = false → s.vm.findClass Y.1.cls = some m.cls → (∀ w ∈ mj_wy AW Y, w.before args s = true) → va_K D cl (mj_tys cy) s → (∀ w ∈ Ns, va_Nw w s) → (∀ q, s.heap.size ≤ q → A q) →
    ∀ (H : Heap) (locs : List Loc) (ls : Array Slot), va_P D cl (mj_ws cty cy ad S.2.2.2) H → va_D A (mj_ws cty cy ad S.2.2.2) → va_S A s.heap H locs → lv_has ls Y.2.2.1 (mj_l ad S.2.1) →
    W p l e (mj_rm d) s m args below meth c H locs 0 0 (MQ below (mj_Qc D cl cty cy ad u.1 u.2 A) args s 0 0 A) (F0 m S.1 ls (mj_s ad S.2.2.1)) := by
  intro n
  induction n with
  | zero => intro d j S u h; cases h
  | succ n ih =>
    intro d j S u h Y hY p e s m args below meth c D cy ad A hx hb hml hr hlocks hown hts hK hNw hA H locs ls hP hD hS hl
    obtain ⟨hCl, hgw, hNs, hGd⟩ := id hG
    obtain ⟨hpl, hmax, hcode, hdec, hFl, hk32, hk64, hcalls⟩ := hGd j Y hY
    have htA : ∀ w ∈ AW, w.before args s = true := fun w hw => hts w (List.mem_cons_of_mem _ hw)
    obtain ⟨Y', i, k, hY', hlk, hh⟩ := mj_run_inv h
    have eY : Y' = Y := Option.some.inj (hY'.symm.trans hY)
    subst eY
    have hdg := hdec _ _ _ hlk
    rcases hh with ⟨v, hv, rfl⟩ | ⟨S', h1, h2⟩ | ⟨j', vs, rest, d', v, M', h1, rfl, h2, h3⟩
    · obtain ⟨hk1, hv⟩ := mj_rt_inv hv
      exact mj_ret_ok hx hb hr hlocks hv hdg hk1 (fun t ht hW => ⟨rfl, by rw [ht]; exact hP, hS.F ht⟩) hS.2.2
    · have go := ih d j S' u h2 Y' hY (p := p) (e := e) (s := s) (m := m) (args := args) (below := below) (meth := meth) (c := c) D cy ad A hx hb hml hr hlocks hown hts hK hNw hA
      unfold mj_one at h1
      rcases mj_or_inv h1 with h1 | h1
      · obtain ⟨st', g9, rfl⟩ := mj_lf_inv h1
        exact mj_op_ok hx hb ad g9 hdg (go H locs ls hP hD hS hl)
      rcases mj_or_inv h1 with h1 | h1
      · obtain ⟨lv', st', g9, rfl⟩ := mj_lfL_inv h1
        exact mj_loc_ok hx hb ad g9 hdg hl (fun ls' hl' => go H locs ls' hP hD hS hl')
      rcases mj_or_inv h1 with h1 | h1
      · obtain ⟨st', g9, rfl⟩ := mj_lf_inv h1
        exact mj_hr_ok hx hb htA hown hCl hFl hK hP g9 hdg (go H locs ls hP hD hS hl)
      rcases mj_or_inv h1 with h1 | h1
      · obtain ⟨pc', st', g9, rfl⟩ := mj_lfB_inv h1
        exact mj_br_ok hx hb ad g9 hdg (go H locs ls hP hD hS hl)
      rcases mj_or_inv h1 with h1 | h1
      · obtain ⟨st', M', g9, rfl⟩ := mj_lfW_inv h1
        exact mj_hw_ok hx hb htA hown hCl hFl hK hP hD hS g9 hdg (fun H1 locs1 g1 g2 g3 => go H1 locs1 ls g1 g2 g3 hl)
      · obtain ⟨st', g9, rfl⟩ := mj_lf_inv h1
        exact mj_ldc_ok hx hb hown (fun ix v q => htA _ (hk32 ix v q)) (fun ix v q => htA _ (hk64 ix v q)) g9 hdg (go H locs ls hP hD hS hl)
    · -- a call: the callee's contract out of the shorter run, then on
      have hsh : M'.1 = S.2.2.2.1 := mj_run_sh h2
      have go := ih (d' + 1) j (S.1 + 3, S.2.1, v.toList ++ rest, M') u h3 Y' hY (p := p) (e := e) (s := s) (m := m) (args := args) (below := below) (meth := meth) (c := c) D cy ad A hx hb hml hr hlocks hown hts hK hNw hA
      have hfree : ∀ q, va_A (mj_ws cty cy ad S.2.2.2) H.size q → A q := by
        intro q hq
        rcases hq with ⟨k9, e9, hq⟩ | hq
        · exact hD.2 k9 _ hq
        · exact hA q (Nat.le_trans hS.1 hq)
      have met : ∀ Y2 : mj_Y, P.1 j' = some Y2 → mj_sum vs ≤ Y2.2.2.1 → Met l Y2.1 (mj_wy AW Y2) (mj_rm d') (va_Pc (mj_s ad vs) (mj_B D cl cty cy ad Ns S.2.2.2 H.size)) (mj_Qc D cl cty cy ad v M' (va_A (mj_ws cty cy ad S.2.2.2) H.size)) 0 0 (va_A (mj_ws cty cy ad S.2.2.2) H.size) := by
        intro Y2 hY2 hlen
        refine Met.ofW (cc := Y2.2.1) (maxL := Y2.2.2.1) (ret := Y2.2.2.2.1) (hGd j' Y2 hY2).1 rfl ?_
        intro p e s m args below meth c s₁ B hml hv
        obtain ⟨rfl, hsz, bK, bP, bD, bN⟩ := hv
        rw [← hsz]
        have hl := lv_entry (mj_s ad vs) (n := Y2.2.2.1) (by rw [mj_sl_len]; exact hlen)
        rw [lg_entry_eq]
        generalize (lg_sl (mj_s ad vs) ++ List.replicate (Y2.2.2.1 - (lg_sl (mj_s ad vs)).length) Slot.unset).toArray = ls at hl ⊢
        rw [← mj_args] at hl
        exact ih d' j' _ _ h2 Y2 hY2 D cy ad (va_A (mj_ws cty cy ad S.2.2.2) s.heap.size) B.exec B.bytes hml B.returns B.notSynchronized (findClass_of_methodNamed B.named) (atoms_spec (ws := mj_wy AW Y2) B.pre) bK bN (fun q hq => Or.inr hq) s.heap [] ls bP bD.self va_S.rf hl
      obtain ⟨h1, Y9, hY9, hsum9⟩ := mj_cl_inv h1
      have met := met Y9 hY9 hsum9
      obtain ⟨-, hmax9, hcode9, -⟩ := hGd j' Y9 hY9
      unfold mj_call at h1
      split at h1
      · rename_i ix
        obtain ⟨n9, ci, o, As, nn, hg9, rfl, hlen, hci, ho, hsum, rfl, hst⟩ := mj_cv_inv h1
        obtain ⟨Y2, hY2, hlink, hini, hd9, hin9, hsel9, q9, hq9, hC9⟩ := hcalls _ _ _ _ hg9
        have eY : Y2 = Y9 := Option.some.inj (hY2.symm.trans hY9)
        subst eY
        have hrec := va_recv hK hP hq9 (q0 := o) (by rw [mj_ws_at ho, mj_cell_obj hci])
        rw [hC9] at hrec
        have hpV : PreV s H Y2.1.cls (ad o) (va_Pc (mj_s ad (.ref o :: As)) (mj_B D cl cty cy ad Ns S.2.2.2 H.size)) (mj_s ad As) := ⟨mj_blind hNs, hrec, fun U hU hW => mj_pre hNs hK hP hD hNw hU hW⟩
        have hstk : (F0 m S.1 ls (mj_s ad S.2.2.1)).stack = (mj_s ad As).reverse ++ .ref (ad o) :: mj_s ad rest := by
          show mj_s ad S.2.2.1 = _
          rw [hst, mj_stk]
          rfl
        have hrun : va_Run p l e (mj_rm (d' + 1)) s m args below meth c H locs 0 0 0 0 (F0 m S.1 ls (mj_s ad S.2.2.1)) (mj_s ad rest) (mj_Qc D cl cty cy ad v M' (va_A (mj_ws cty cy ad S.2.2.2) H.size) (Value.ref (ad o) :: mj_s ad As).toArray) (va_A (mj_ws cty cy ad S.2.2.2) H.size) := by
          rcases hlink with hlk9 | ⟨host, hlk9⟩
          · exact va_runV ⟨hx, hb, hml, hown, hts⟩ met ⟨callB_of n9 hts (mj_good_in hgw hcode9) rfl rfl rfl (htA _ hini) (htA _ hlk9) hd9 (mj_room hmax9), htA _ hin9, htA _ hsel9⟩ hpV rfl (by rw [← hlen]; exact List.length_map _) hl.1 hstk (lv_room (by rw [mj_sum_v]; exact hsum)) hdg ⟨Nat.le_refl 0, Nat.le_refl 0⟩
          · exact va_runVN ⟨hx, hb, hml, hown, hts⟩ met ⟨va_cnB n9 hts (mj_good_in hgw hcode9) rfl rfl rfl (hNw _ hlk9) (htA _ hini) hd9 (mj_room hmax9), htA _ hin9, htA _ hsel9⟩ hpV rfl (by rw [← hlen]; exact List.length_map _) hl.1 hstk (lv_room (by rw [mj_sum_v]; exact hsum)) hdg ⟨Nat.le_refl 0, Nat.le_refl 0⟩
        refine mj_after hrun hS hfree hfree (fun H1 locs1 g1 g2 => ?_)
        rw [← mj_back]
        exact go H1 locs1 ls g1 (mj_D_same hsh hD) g2 hl
      · rename_i ix
        obtain ⟨n9, hg9, rfl, hlen, hsum, hst⟩ := mj_cs_inv h1
        obtain ⟨Y2, hY2, hlink, hini, hd9, hstat9⟩ := hcalls _ _ _ _ hg9
        have eY : Y2 = Y9 := Option.some.inj (hY2.symm.trans hY9)
        subst eY
        have hpS : PreS s H (va_Pc (mj_s ad vs) (mj_B D cl cty cy ad Ns S.2.2.2 H.size)) (mj_s ad vs) := ⟨mj_blind hNs, fun U hU hW => mj_pre hNs hK hP hD hNw hU hW⟩
        have hstk : (F0 m S.1 ls (mj_s ad S.2.2.1)).stack = (mj_s ad vs).reverse ++ mj_s ad rest := by
          show mj_s ad S.2.2.1 = _
          rw [hst, mj_stk]
        have hrun : va_Run p l e (mj_rm (d' + 1)) s m args below meth c H locs 0 0 0 0 (F0 m S.1 ls (mj_s ad S.2.2.1)) (mj_s ad rest) (mj_Qc D cl cty cy ad v M' (va_A (mj_ws cty cy ad S.2.2.2) H.size) (mj_s ad vs).toArray) (va_A (mj_ws cty cy ad S.2.2.2) H.size) := by
          rcases hlink with hlk9 | ⟨host, hlk9⟩
          · exact va_runS ⟨hx, hb, hml, hown, hts⟩ met ⟨callB_of n9 hts (mj_good_in hgw hcode9) rfl rfl rfl (htA _ hini) (htA _ hlk9) hd9 (mj_room hmax9), htA _ hstat9⟩ hpS rfl (by rw [← hlen]; exact List.length_map _) hl.1 hstk (lv_room (by rw [mj_sum_v]; exact hsum)) hdg ⟨Nat.le_refl 0, Nat.le_refl 0⟩
          · exact va_runSN ⟨hx, hb, hml, hown, hts⟩ met ⟨va_cnB n9 hts (mj_good_in hgw hcode9) rfl rfl rfl (hNw _ hlk9) (htA _ hini) hd9 (mj_room hmax9), htA _ hstat9, trivial⟩ hpS rfl (by rw [← hlen]; exact List.length_map _) hl.1 hstk (lv_room (by rw [mj_sum_v]; exact hsum)) hdg ⟨Nat.le_refl 0, Nat.le_refl 0⟩
        refine mj_after hrun hS hfree hfree (fun H1 locs1 g1 g2 => ?_)
        rw [← mj_back]
        exact go H1 locs1 ls g1 (mj_D_same hsh hD) g2 hl
      · cases h1
/-- THE THEOREM: a run of the small machine is a contract of the machine -/
theorem mj_sound {l : Launch} {AW Ns : List Cond} {cl : List vw_C} {cty : Nat → Nat → FieldType} {P : mj_P} (hG : mj_Good AW Ns cl cty P) {n d j : Nat} {vs : List Value} {M : mj_M} {u : Option Value × mj_M} (h : mj_run P n d j (0, lv_args 0 vs, [], M) = some u) {Y : mj_Y} (hY : P.1 j = some Y) (hs : mj_sum vs ≤ Y.2.2.1) : mj_Met l AW Ns cl cty Y d vs M u.1 u.2 := by
  intro D cy ad sz
  refine Met.ofW (cc := Y.2.1) (maxL := Y.2.2.1) (ret := Y.2.2.2.1) (hG.2.2.2 j Y hY).1 rfl ?_
  intro p e s m args below meth c s₁ B hml hv
  obtain ⟨rfl, hsz, bK, bP, bD, bN⟩ := hv
  subst hsz
  have hl := lv_entry (mj_s ad vs) (n := Y.2.2.1) (by rw [mj_sl_len]; exact hs)
  rw [lg_entry_eq]
  generalize (lg_sl (mj_s ad vs) ++ List.replicate (Y.2.2.1 - (lg_sl (mj_s ad vs)).length) Slot.unset).toArray = ls at hl ⊢
  rw [← mj_args] at hl
  exact mj_body hG n d j _ _ h Y hY D cy ad (va_A (mj_ws cty cy ad M) s.heap.size) B.exec B.bytes hml B.returns B.notSynchronized (findClass_of_methodNamed B.named) (atoms_spec (ws := mj_wy AW Y) B.pre) bK bN (fun q hq => Or.inr hq) s.heap [] ls bP bD.self va_S.rf hl

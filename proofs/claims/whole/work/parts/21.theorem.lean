/-! THE SMALL MACHINE, 12: the theorem -/
/-- what holds in a method's body all along -/
def mj_Cx (AW Ns : List Cond) (cl : List vw_C) (P : mj_P) (Y : mj_Y) (d : Nat) (b : Bool) (p : Program) (R : Room) (s : State) (m : MethodId) (args : Array Value) (meth : Method) (c : Code) (D : va_G) (cy : Nat → ClassId) (A : Nat → Prop) : Prop :=
  p.tables.exec = Jvm.exec ∧ c.code = Y.2.1 ∧ c.maxLocals = Y.2.2.1 ∧ meth.name = Y.1.name ∧ s.vm.findClass Y.1.cls = some m.cls ∧ (∀ w ∈ AW, w.before args s = true) ∧ va_K D cl (mj_tys cy) s ∧ (∀ w ∈ Ns, va_Nw w s) ∧ (∀ q, s.heap.size ≤ q → A q) ∧ (b = true → d + 1 ≤ R.frames ∧ 64 * (d + 1) ≤ R.locals)
/-- the contracts of the callees -/
def mj_Rl (l : Launch) (AW Ns : List Cond) (cl : List vw_C) (cty : Nat → Nat → FieldType) (P : mj_P) (d : Nat) (Rel : Nat → List Value → mj_M → Option Value → mj_M → Prop) : Prop := ∀ j vs M r M', Rel j vs M r M' → (∀ v ∈ vs, mj_wv M.1.length v) → mj_wM M → ∃ Y, mj_pY P j = some Y ∧ mj_Met l AW Ns cl cty (mj_pX P) Y d vs M r M'
set_option maxHeartbeats 4000000 in
theorem mj_step_ok {l : Launch} {AW Ns : List Cond} {cl : List vw_C} {cty : Nat → Nat → FieldType} {P : mj_P} (hG : mj_Good AW Ns cl cty P) (hMa : mj_MaOk cl cty AW) {d j : Nat} {b : Bool} {Y : mj_Y} (hY : mj_G0 AW Ns cl cty P j Y) {Rel : Nat → List Value → mj_M → Option Value → mj_M → Prop} (hR : mj_Rl l AW Ns cl cty P d Rel) (hKp : mj_Kp Rel) (hb0 : b = false → ∀ j vs M r M', ¬ Rel j vs M r M')
    {p : Program} {e : Env} {R : Room} {s : State} {m : MethodId} {args : Array Value} {below : List Frame} {meth : Method} {c : Code} {Q : State → Prop} {D : va_G} {cy : Nat → ClassId} {A : Nat → Prop} (hC : mj_Cx AW Ns cl P Y d b p R s m args meth c D cy A)
    {S S' : mj_S} (h : mj_step P Rel b j Y S S') (hw : mj_wS S) {ad : Nat → Nat} {H : Heap} {locs : List Loc} {ls : Array Slot} {cells slots : Nat} (hX : mj_XZ (mj_pX P) ad A s s.heap) (hP : va_P D cl (mj_ws cty cy ad S.2.2.2) H) (hD : va_D A (mj_ws cty cy ad S.2.2.2)) (hS : va_S A s.heap H locs) (hl : lv_has ls Y.2.2.1 (mj_l ad S.2.1))
    (hc1 : cells + (S'.2.2.2.1.length - S.2.2.2.1.length) ≤ R.cells) (hc2 : slots + (mj_slt S'.2.2.2 - mj_slt S.2.2.2) ≤ R.slots)
    (kk : ∀ (ad' : Nat → Nat) (H1 : Heap) (locs1 : List Loc) (ls1 : Array Slot), mj_ag S.2.2.2.1.length ad ad' → va_P D cl (mj_ws cty cy ad' S'.2.2.2) H1 → va_D A (mj_ws cty cy ad' S'.2.2.2) → va_S A s.heap H1 locs1 → lv_has ls1 Y.2.2.1 (mj_l ad' S'.2.1) → W p l e R s m args below meth c H1 locs1 (cells + (S'.2.2.2.1.length - S.2.2.2.1.length)) (slots + (mj_slt S'.2.2.2 - mj_slt S.2.2.2)) Q (F0 m S'.1 ls1 (mj_s ad' S'.2.2.1))) :
    W p l e R s m args below meth c H locs cells slots Q (F0 m S.1 ls (mj_s ad S.2.2.1)) := by
  obtain ⟨hCl, hAr, hgw, hNs, hOv, hGd⟩ := id hG
  obtain ⟨hdec, hFl, hk32, hk64, hcalls, hNw, hGs, hAc, hMt, hIn, hZ⟩ := hY
  obtain ⟨hx, hb, hml, hnm, hown, hts, hK, hNe, hA, hfr⟩ := hC
  have htA : ∀ w ∈ AW, w.before args s = true := hts
  obtain ⟨i, k, hlk, h | ⟨j', vs, rest, v, M', h1, h2, rfl⟩⟩ := h
  · have hdg := hdec _ _ _ hlk
    unfold mj_one at h
    rcases mj_or_inv h with h | h
    · unfold mj_one0 at h
      rcases mj_or_inv h with h | h
      · obtain ⟨lv', st', g, rfl⟩ := mj_lfL_inv h
        simp only [Nat.sub_self, Nat.add_zero] at kk
        exact mj_loc_ok hx hb ad g hdg hl (fun ls' hl' => kk ad H locs ls' mj_ag_rf hP hD hS hl')
      rcases mj_or_inv h with h | h
      · obtain ⟨st', g, rfl⟩ := mj_lf_inv h
        simp only [Nat.sub_self, Nat.add_zero] at kk
        exact mj_hr_ok hx hb htA hown hCl hFl hK hP g hdg (kk ad H locs ls mj_ag_rf hP hD hS hl)
      rcases mj_or_inv h with h | h
      · obtain ⟨st', g, rfl⟩ := mj_lf_inv h
        simp only [Nat.sub_self, Nat.add_zero] at kk
        exact mj_op_ok hx hb ad g hdg (kk ad H locs ls mj_ag_rf hP hD hS hl)
      rcases mj_or_inv h with h | h
      · obtain ⟨pc', st', g, rfl⟩ := mj_lfB_inv h
        simp only [Nat.sub_self, Nat.add_zero] at kk
        exact mj_br_ok hx hb ad g hdg (kk ad H locs ls mj_ag_rf hP hD hS hl)
      rcases mj_or_inv h with h | h
      · obtain ⟨st', M', g, rfl⟩ := mj_lfW_inv h
        have hsh := (mj_hw_w g hw.2.2 hw.2.1).1
        have e2 : mj_slt M' = mj_slt S.2.2.2 := by unfold mj_slt; rw [hsh]
        dsimp only at kk
        rw [hsh, e2] at kk
        simp only [Nat.sub_self, Nat.add_zero] at kk
        exact mj_hw_ok hx hb htA hown hCl hFl hK hP hD hS g hdg (fun H1 locs1 g1 g2 g3 => kk ad H1 locs1 ls mj_ag_rf g1 g2 g3 hl)
      rcases mj_or_inv h with h | h
      · obtain ⟨st', g, rfl⟩ := mj_lf_inv h
        simp only [Nat.sub_self, Nat.add_zero] at kk
        exact mj_ldc_ok hx hb hown (fun ix v q => htA _ (hk32 ix v q)) (fun ix v q => htA _ (hk64 ix v q)) g hdg (kk ad H locs ls mj_ag_rf hP hD hS hl)
      · obtain ⟨st', g, rfl⟩ := mj_lf_inv h
        simp only [Nat.sub_self, Nat.add_zero] at kk
        exact mj_xr_ok hx hb htA hown hGs hX hS g hdg (kk ad H locs ls mj_ag_rf hP hD hS hl)
    · cases b with
      | false => cases h
      | true =>
        dsimp only [cond_true] at h
        obtain ⟨hf1, hf2⟩ := hfr rfl
        unfold mj_one1 at h
        rcases mj_or_inv h with h | h
        · obtain ⟨st', M', g, rfl⟩ := mj_lfW_inv h
          exact mj_al_ok hx hb htA hown hCl hNw hAr hK hP hD hS hA hw.2.2 hw.2.1 g hdg hc1 hc2 (fun ad' H1 g0 g1 g2 g3 => kk ad' H1 locs ls g0 g1 g2 g3 (by rw [mj_l_ag g0 hw.1]; exact hl))
        rcases mj_or_inv h with h | h
        · obtain ⟨st', M', g, rfl⟩ := mj_lfW_inv h
          have hsh := (mj_pz_w g hw.2.2 hw.2.1).1
          have e2 : mj_slt M' = mj_slt S.2.2.2 := by unfold mj_slt; rw [hsh]
          dsimp only at kk
          rw [hsh, e2] at kk
          simp only [Nat.sub_self, Nat.add_zero] at kk
          unfold mj_pz at g
          split at g
          · rename_i ci0 hz
            obtain ⟨z1, z2⟩ := hZ _ hz
            exact mj_putF_ok hx hb htA hown hCl hFl (hnm.trans z1) z2 hK hP hD hS g hdg (fun H1 locs1 g1 g2 g3 => kk ad H1 locs1 ls mj_ag_rf g1 g2 g3 hl)
          · cases g
        rcases mj_or_inv h with h | h
        · obtain ⟨st', M', g, rfl⟩ := mj_lfW_inv h
          have hsh := (mj_cp_w g hw.2.2 hw.2.1).1
          have e2 : mj_slt M' = mj_slt S.2.2.2 := by unfold mj_slt; rw [hsh]
          dsimp only at kk
          rw [hsh, e2] at kk
          simp only [Nat.sub_self, Nat.add_zero] at kk
          exact mj_cp_ok hx hb (hml.trans hl.1.symm) htA hown hAc hX.1 (by omega) (by omega) hK hP hD hS g hdg (fun H1 locs1 g1 g2 g3 => kk ad H1 locs1 ls mj_ag_rf g1 g2 g3 hl)
        rcases mj_or_inv h with h | h
        · obtain ⟨st', g, rfl⟩ := mj_lf_inv h
          simp only [Nat.sub_self, Nat.add_zero] at kk
          exact mj_oi_ok hx hb (hl.1.trans hml.symm) hown htA hIn (by omega) (by omega) g hdg (kk ad H locs ls mj_ag_rf hP hD hS hl)
        · obtain ⟨st', M', g, rfl⟩ := mj_lfW_inv h
          exact hMa hx hb htA hown hMt (hNe _ hOv.1) (hNe _ hOv.2) hK hP hD hS hA hw.2.2 hw.2.1 g hdg hc1 hc2 (fun ad' H1 g0 g1 g2 g3 => kk ad' H1 locs ls g0 g1 g2 g3 (by rw [mj_l_ag g0 hw.1]; exact hl))
  · have hdg := hdec _ _ _ hlk
    obtain ⟨hf1, hf2⟩ := hfr (by
      cases b with
      | true => rfl
      | false => exact absurd h2 (hb0 rfl _ _ _ _ _))
    obtain ⟨wv1, wv2⟩ := mj_call_w h1 hw.2.1
    obtain ⟨Y9, hY9, met⟩ := hR _ _ _ _ _ h2 wv1 hw.2.2
    have met := met D cy ad H.size
    obtain ⟨-, hmax9, hcode9, -⟩ := hGd j' Y9 hY9
    have hfree := mj_free hD hS hA
    have done : ∀ (k9 : Nat) (a9 : Array Value), k9 = S.1 → va_Run p l e R s m args below meth c H locs cells slots (M'.1.length - S.2.2.2.1.length) (mj_slt M' - mj_slt S.2.2.2) (F0 m S.1 ls (mj_s ad S.2.2.1)) (mj_s ad rest) (mj_Qc D cl cty cy ad S.2.2.2.1.length v M' (va_A (mj_ws cty cy ad S.2.2.2) H.size) a9) (va_A (mj_ws cty cy ad S.2.2.2) H.size) → W p l e R s m args below meth c H locs cells slots Q (F0 m S.1 ls (mj_s ad S.2.2.1)) := by
      intro k9 a9 _ hrun
      refine mj_after hrun hS hfree hfree (fun ad' H1 locs1 g0 g1 g2 g3 => ?_)
      have go := kk ad' H1 locs1 ls g0 g1 g2 g3 (by rw [mj_l_ag g0 hw.1]; exact hl)
      dsimp only at go
      rw [mj_back, mj_s_ag g0 wv2] at go
      exact go
    unfold mj_call at h1
    split at h1
    · rename_i ix
      obtain ⟨n9, ci, o, As, hg9, rfl, hlen, hci, hsum, rfl, hst⟩ := mj_cv_inv h1
      obtain ⟨Y2, hY2, ⟨hlink, hini, hd9⟩, hin9, hsel9, hq9⟩ := hcalls _ _ _ _ hg9
      have eY : Y2 = Y9 := Option.some.inj (hY2.symm.trans hY9)
      subst eY
      have hrec : ∃ cell : Cell, H[ad o]? = some cell ∧ cell.vm.isStatics = false ∧ s.vm.findClass Y2.1.cls = some cell.cls := by
        rcases hci with ⟨hci, nn, ho⟩ | ⟨hci, q8, ho⟩
        · rcases hq9 with ⟨-, q9, hq9, hC9⟩ | ⟨e9, -⟩
          · have hrec := va_recv hK hP hq9 (q0 := o) (by rw [mj_ws_at ho, mj_cell_obj hci])
            rw [hC9] at hrec
            exact hrec
          · omega
        · rcases hq9 with ⟨q9, -⟩ | ⟨e9, hC9⟩
          · omega
          · obtain ⟨i9, z9, rfl, hz9, -, hn9⟩ := mj_sb_inv ho
            obtain ⟨cell, r1, r2, r3, -⟩ := (((hX.2.1 _ _ hz9).2 hn9).1).kept hS.2.1
            exact ⟨cell, r1, r2, by rw [hC9]; exact r3⟩
      have hpV : PreV s H Y2.1.cls (ad o) (va_Pc (mj_s ad (.ref o :: As)) (mj_B D cl cty cy ad Ns (mj_pX P) S.2.2.2 H.size)) (mj_s ad As) := ⟨mj_blind hNs, hrec, fun U hU hW => mj_pre hNs hK hP hD hNe hX hS hA hU hW⟩
      have hstk : (F0 m S.1 ls (mj_s ad S.2.2.1)).stack = (mj_s ad As).reverse ++ .ref (ad o) :: mj_s ad rest := by
        show mj_s ad S.2.2.1 = _
        rw [hst, mj_stk]
        rfl
      refine done S.1 (Value.ref (ad o) :: mj_s ad As).toArray rfl ?_
      rcases hlink with hlk9 | ⟨host, hlk9⟩
      · exact va_runV ⟨hx, hb, hml, hown, hts⟩ met ⟨callB_of n9 hts (mj_good_in hgw hcode9) rfl rfl rfl (htA _ hini) (htA _ hlk9) hd9 (mj_room hmax9 hf1 hf2), htA _ hin9, htA _ hsel9⟩ hpV rfl (by rw [← hlen]; exact List.length_map _) hl.1 hstk (lv_room (by rw [mj_sum_v]; exact hsum)) hdg ⟨hc1, hc2⟩
      · exact va_runVN ⟨hx, hb, hml, hown, hts⟩ met ⟨va_cnB n9 hts (mj_good_in hgw hcode9) rfl rfl rfl (hNe _ hlk9) (htA _ hini) hd9 (mj_room hmax9 hf1 hf2), htA _ hin9, htA _ hsel9⟩ hpV rfl (by rw [← hlen]; exact List.length_map _) hl.1 hstk (lv_room (by rw [mj_sum_v]; exact hsum)) hdg ⟨hc1, hc2⟩
    · rename_i ix
      obtain ⟨n9, hg9, rfl, hlen, hsum, hst⟩ := mj_cs_inv h1
      obtain ⟨Y2, hY2, ⟨hlink, hini, hd9⟩, hstat9⟩ := hcalls _ _ _ _ hg9
      have eY : Y2 = Y9 := Option.some.inj (hY2.symm.trans hY9)
      subst eY
      have hpS : PreS s H (va_Pc (mj_s ad vs) (mj_B D cl cty cy ad Ns (mj_pX P) S.2.2.2 H.size)) (mj_s ad vs) := ⟨mj_blind hNs, fun U hU hW => mj_pre hNs hK hP hD hNe hX hS hA hU hW⟩
      have hstk : (F0 m S.1 ls (mj_s ad S.2.2.1)).stack = (mj_s ad vs).reverse ++ mj_s ad rest := by
        show mj_s ad S.2.2.1 = _
        rw [hst, mj_stk]
      refine done S.1 (mj_s ad vs).toArray rfl ?_
      rcases hlink with hlk9 | ⟨host, hlk9⟩
      · exact va_runS ⟨hx, hb, hml, hown, hts⟩ met ⟨callB_of n9 hts (mj_good_in hgw hcode9) rfl rfl rfl (htA _ hini) (htA _ hlk9) hd9 (mj_room hmax9 hf1 hf2), htA _ hstat9⟩ hpS rfl (by rw [← hlen]; exact List.length_map _) hl.1 hstk (lv_room (by rw [mj_sum_v]; exact hsum)) hdg ⟨hc1, hc2⟩
      · exact va_runSN ⟨hx, hb, hml, hown, hts⟩ met ⟨va_cnB n9 hts (mj_good_in hgw hcode9) rfl rfl rfl (hNe _ hlk9) (htA _ hini) hd9 (mj_room hmax9 hf1 hf2), htA _ hstat9, trivial⟩ hpS rfl (by rw [← hlen]; exact List.length_map _) hl.1 hstk (lv_room (by rw [mj_sum_v]; exact hsum)) hdg ⟨hc1, hc2⟩
    · rename_i ix
      obtain ⟨n9, o, As, hg9, rfl, hlen, hsum, rfl, hst⟩ := mj_ci_inv h1
      obtain ⟨Y2, hY2, ⟨hlink, hini, hd9⟩, hy1, hy2, hin9⟩ := hIn _ _ hg9
      have eY : Y2 = Y9 := Option.some.inj (hY2.symm.trans hY9)
      subst eY
      have hpS : PreS s H (va_Pc (mj_s ad (.ref o :: As)) (mj_B D cl cty cy ad Ns (mj_pX P) S.2.2.2 H.size)) (.ref (ad o) :: mj_s ad As) := ⟨mj_blind hNs, fun U hU hW => mj_pre hNs hK hP hD hNe hX hS hA hU hW⟩
      have hstk : (F0 m S.1 ls (mj_s ad S.2.2.1)).stack = (mj_s ad As).reverse ++ .ref (ad o) :: mj_s ad rest := by
        show mj_s ad S.2.2.1 = _
        rw [hst, mj_stk]
        rfl
      have hwy : mj_wy AW Y2 = Cond.code Y2.1 Y2.2.1 Y2.2.2.1 none :: AW := by unfold mj_wy; rw [hy2]
      refine done S.1 (Value.ref (ad o) :: mj_s ad As).toArray rfl ?_
      rcases hlink with hlk9 | ⟨host, hlk9⟩
      · exact va_runI ⟨hx, hb, hml, hown, hts⟩ met (cwI n9 hts (mj_good_in hgw hcode9) hwy rfl rfl (htA _ hini) (htA _ hlk9) (htA _ hin9) hy1 hd9 (mj_room hmax9 hf1 hf2)) hpS rfl (by rw [← hlen]; exact List.length_map _) hl.1 hstk (lv_room (by rw [mj_sum_v]; exact hsum)) hdg ⟨hc1, hc2⟩
      · exact va_runIN ⟨hx, hb, hml, hown, hts⟩ met ⟨va_cnB n9 hts (mj_good_in hgw hcode9) hwy rfl rfl (hNe _ hlk9) (htA _ hini) hd9 (mj_room hmax9 hf1 hf2), hy1, htA _ hin9⟩ hpS rfl (by rw [← hlen]; exact List.length_map _) hl.1 hstk (lv_room (by rw [mj_sum_v]; exact hsum)) hdg ⟨hc1, hc2⟩
    · cases h1

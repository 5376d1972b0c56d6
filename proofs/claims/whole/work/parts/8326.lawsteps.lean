/-! THE LAW'S STEPS: the small machine's, the script's, a wrapper's -/
abbrev ml_WT : Type := Nat → Option (mj_Y × List (Nat × Nat × Nat × Nat) × Nat)
def ml_Wt (own : String) (wt : ml_WT) : Prop := ∀ ix Yw hh nw, wt ix = some (Yw, hh, nw) → Cond.codeWith Yw.1 Yw.2.1 Yw.2.2.1 Yw.2.2.2.1 hh ∈ mj_AW ∧ Cond.methodLink own ix Yw.1 ∈ mj_AW ∧ Cond.static Yw.1 ∈ mj_AW ∧ Cond.initialized Yw.1.cls ∈ mj_AW ∧ Yw.2.2.1 ≤ 40 ∧ (Yw.1.cls ≠ "java/lang/invoke/MethodHandle" ∧ Yw.1.cls ≠ "java/lang/invoke/VarHandle" ∧ (parseMethodDescriptor Yw.1.desc).map (fun d => d.parameters.length) = some nw)
def ml_step (l : Launch) (cl : List vw_C) (cty : Nat → Nat → FieldType) (P : mj_P) (d j : Nat) (Y : mj_Y) (L : Nat) (xs : Nat → Int32) (wt : ml_WT) (S S' : mj_S) (e : Nat) : Prop :=
  (e = 0 ∧ mj_step P (mj_R P d) true j Y S S') ∨
  (e = 0 ∧ ∃ i r, mj_lk Y.2.2.2.2 S.1 = some (.iaload, 1) ∧ S.2.2.1 = .int i :: .ref 4000000 :: r ∧ vp_in i L ∧ S' = (S.1 + 1, S.2.1, .int (xs i.toNatClampNeg) :: r, S.2.2.2)) ∨
  (e = 0 ∧ ∃ r, mj_lk Y.2.2.2.2 S.1 = some (.arraylength, 1) ∧ S.2.2.1 = .ref 4000000 :: r ∧ S' = (S.1 + 1, S.2.1, .int (Int32.ofNat L) :: r, S.2.2.2)) ∨
  (e = 1 ∧ ∃ ix Yw hh nw vs rest r M', mj_lk Y.2.2.2.2 S.1 = some (.invokestatic ix, 3) ∧ wt ix = some (Yw, hh, nw) ∧ vs.length = nw ∧ S.2.2.1 = vs.reverse ++ rest ∧ mj_sum rest ≤ 8 ∧ mw_Met l mj_AW ic_Ns cl cty (mj_pX P) Yw hh d vs S.2.2.2 (some (.int r)) M' ∧ mj_ext S.2.2.2 M' ∧ mj_wM M' ∧ S' = (S.1 + 3, S.2.1, .int r :: rest, M'))
def ml_steps (l : Launch) (cl : List vw_C) (cty : Nat → Nat → FieldType) (P : mj_P) (d j : Nat) (Y : mj_Y) (L : Nat) (xs : Nat → Int32) (wt : ml_WT) : Nat → mj_S → mj_S → Nat → Prop
  | 0, S, S', e => S = S' ∧ e = 0
  | n + 1, S, S', e => ∃ S1 e1 e2, ml_step l cl cty P d j Y L xs wt S S1 e1 ∧ ml_steps l cl cty P d j Y L xs wt n S1 S' e2 ∧ e = e1 + e2
theorem ml_step_w {l : Launch} {cl : List vw_C} {cty : Nat → Nat → FieldType} {P : mj_P} {d j : Nat} {Y : mj_Y} {L : Nat} {xs : Nat → Int32} {wt : ml_WT} {S S' : mj_S} {e : Nat} (h : ml_step l cl cty P d j Y L xs wt S S' e) (hw : mj_wS S) : mj_ext S.2.2.2 S'.2.2.2 ∧ mj_wS S' := by
  rcases h with ⟨-, h⟩ | ⟨-, i, r, -, h2, -, rfl⟩ | ⟨-, r, -, h2, rfl⟩ | ⟨-, ix, Yw, hh, nw, vs, rest, r, M', -, -, -, h2, -, -, h3, h4, rfl⟩
  · exact mj_step_w (mj_R_w d) h hw
  · have hs := hw.2.1
    rw [h2] at hs
    exact ⟨mj_ext_rf, hw.1, mj_all2 (mj_wv_int _) (mj_tl (mj_tl hs)), hw.2.2⟩
  · have hs := hw.2.1
    rw [h2] at hs
    exact ⟨mj_ext_rf, hw.1, mj_all2 (mj_wv_int _) (mj_tl hs), hw.2.2⟩
  · have hs := hw.2.1
    rw [h2] at hs
    exact mj_wS_ext hw h3 h4 (mj_all2 (mj_wv_int _) (fun v hv => mj_wv_mono (hs v (by simp [hv])) (mj_ext_len h3)))
set_option maxHeartbeats 4000000 in
theorem ml_step_ok {l : Launch} {cl : List vw_C} {cty : Nat → Nat → FieldType} {P : mj_P} (hG : mj_Good mj_AW ic_Ns cl cty P) (hMa : mj_MaOk cl cty mj_AW) {d j : Nat} {Y : mj_Y} (hY : mj_G0 mj_AW ic_Ns cl cty P j Y) {L b : Nat} {xs : Nat → Int32} {wt : ml_WT} (hWt : ml_Wt Y.1.cls wt)
    {p : Program} {e : Env} {R : Room} {s : State} {m : MethodId} {args : Array Value} {below : List Frame} {meth : Method} {c : Code} {Q : State → Prop} {D : va_G} {cy : Nat → ClassId} {A : Nat → Prop} (hC : mj_Cx mj_AW ic_Ns cl P Y d true p R s m args meth c D cy A) (hb1 : va_X b L xs s s.heap) (hb2 : b < s.heap.size) (hb3 : ¬ A b)
    {S S' : mj_S} {k9 : Nat} (h : ml_step l cl cty P d j Y L xs wt S S' k9) (hw : mj_wS S) {ad : Nat → Nat} (had : ad 4000000 = b) {H : Heap} {locs : List Loc} {ls : Array Slot} {cells slots : Nat} (hX : mj_XZ (mj_pX P) ad A s s.heap) (hP : va_P D cl (mj_ws cty cy ad S.2.2.2) H) (hD : va_D A (mj_ws cty cy ad S.2.2.2)) (hS : va_S A s.heap H locs) (hl : lv_has ls Y.2.2.1 (mj_l ad S.2.1))
    (hc1 : cells + (S'.2.2.2.1.length - S.2.2.2.1.length + k9) ≤ R.cells) (hc2 : slots + (mj_slt S'.2.2.2 - mj_slt S.2.2.2 + 6 * k9) ≤ R.slots)
    (kk : ∀ (ad' : Nat → Nat) (H1 : Heap) (locs1 : List Loc) (ls1 : Array Slot), mj_ag S.2.2.2.1.length ad ad' → va_P D cl (mj_ws cty cy ad' S'.2.2.2) H1 → va_D A (mj_ws cty cy ad' S'.2.2.2) → va_S A s.heap H1 locs1 → lv_has ls1 Y.2.2.1 (mj_l ad' S'.2.1) → W p l e R s m args below meth c H1 locs1 (cells + (S'.2.2.2.1.length - S.2.2.2.1.length + k9)) (slots + (mj_slt S'.2.2.2 - mj_slt S.2.2.2 + 6 * k9)) Q (F0 m S'.1 ls1 (mj_s ad' S'.2.2.1))) :
    W p l e R s m args below meth c H locs cells slots Q (F0 m S.1 ls (mj_s ad S.2.2.1)) := by
  rcases h with ⟨rfl, h⟩ | ⟨rfl, i, r, h1, h2, hin, rfl⟩ | ⟨rfl, r, h1, h2, rfl⟩ | ⟨rfl, ix, Yw, hh, nw, vs, rest, r, M', h1, hwt, hlen, h2, hsum, met, h3, h4, rfl⟩
  · exact mj_step_ok hG hMa hY (mj_sound hG hMa d) (mj_R_w d) (fun h => by cases h) hC h hw hX hP hD hS hl hc1 hc2 kk
  · obtain ⟨hx, hb, hml, hnm, hown, hts, hK, hNe, hA, hfr⟩ := hC
    rw [h2]
    simp only [Nat.sub_self, Nat.add_zero, Nat.mul_zero] at kk
    show W p l e R s m args below meth c H locs cells slots Q (F0 m S.1 ls (.int i :: .ref (ad 4000000) :: mj_s ad r))
    rw [had]
    exact va_sld hx hb hb1 hb2 hb3 hS hin (hY.1 _ _ _ h1) (kk ad H locs ls mj_ag_rf hP hD hS hl)
  · obtain ⟨hx, hb, hml, hnm, hown, hts, hK, hNe, hA, hfr⟩ := hC
    rw [h2]
    simp only [Nat.sub_self, Nat.add_zero, Nat.mul_zero] at kk
    show W p l e R s m args below meth c H locs cells slots Q (F0 m S.1 ls (.ref (ad 4000000) :: mj_s ad r))
    rw [had]
    exact va_slen hx hb hb1 hb2 hb3 hS (hY.1 _ _ _ h1) (kk ad H locs ls mj_ag_rf hP hD hS hl)
  · obtain ⟨hx, hb, hml, hnm, hown, hts, hK, hNe, hA, hfr⟩ := hC
    obtain ⟨hf1, hf2⟩ := hfr rfl
    obtain ⟨w1, w2, w3, w4, w5, w6⟩ := hWt _ _ _ _ hwt
    have hfree := mj_free hD hS hA
    have wv2 : ∀ v ∈ rest, mj_wv S.2.2.2.1.length v := by
      have hs := hw.2.1
      rw [h2] at hs
      exact fun v hv => hs v (by simp [hv])
    have hpS : PreS s H (va_Pc (mj_s ad vs) (mj_B D cl cty cy ad ic_Ns (mj_pX P) S.2.2.2 H.size)) (mj_s ad vs) := ⟨mj_blind ic_Ns_ok, fun U hU hW => mj_pre ic_Ns_ok hK hP hD hNe hX hS hA hU hW⟩
    have hstk : (F0 m S.1 ls (mj_s ad S.2.2.1)).stack = (mj_s ad vs).reverse ++ mj_s ad rest := by
      show mj_s ad S.2.2.1 = _
      rw [h2, mj_stk]
    have hGI : GoodIn mj_AW (va_wsS Y.1.cls ix Yw.1 (mw_ws mj_AW Yw hh)) := by
      intro w hw9
      have hm : w ∈ mj_AW := by
        simp only [va_wsS, mw_ws, List.mem_append, List.mem_cons, List.not_mem_nil, or_false] at hw9
        rcases hw9 with (rfl | rfl | rfl) | rfl | hw9 <;> assumption
      exact ⟨hm, good_of_word (hG.2.2.1 w hm)⟩
    have hrun := vx_runSW (g := F0 m S.1 ls (mj_s ad S.2.2.1)) (cells := cells) (slots := slots) (locs := locs) (below := below) (meth := meth) (e := e) (R := R) (hh := hh) ⟨hx, hb, hml, hown, hts⟩ (met D cy ad H.size) (vx_cwSW nw hts hGI rfl rfl rfl w6 (mj_room (d' := d) w5 hf1 hf2)) hpS rfl (by rw [← hlen]; exact List.length_map _) hl.1 hstk (lv_room (by rw [mj_sum_v]; exact hsum)) (hY.1 _ _ _ h1) ⟨hc1, hc2⟩
    refine mj_after hrun hS hfree hfree (fun ad' H1 locs1 g0 g1 g2 g3 => ?_)
    have go := kk ad' H1 locs1 ls g0 g1 g2 g3 (by rw [mj_l_ag g0 hw.1]; exact hl)
    dsimp only at go
    have e9 : mj_s ad' (.int r :: rest) = (Option.map (mj_v ad') (some (.int r))).toList ++ mj_s ad rest := by
      show Value.int r :: mj_s ad' rest = Value.int r :: mj_s ad rest
      rw [mj_s_ag g0 wv2]
    rw [e9] at go
    exact go
theorem ml_steps_ok {l : Launch} {cl : List vw_C} {cty : Nat → Nat → FieldType} {P : mj_P} (hG : mj_Good mj_AW ic_Ns cl cty P) (hMa : mj_MaOk cl cty mj_AW) {d j : Nat} {Y : mj_Y} (hY : mj_G0 mj_AW ic_Ns cl cty P j Y) {L b : Nat} {xs : Nat → Int32} {wt : ml_WT} (hWt : ml_Wt Y.1.cls wt)
    {p : Program} {e : Env} {R : Room} {s : State} {m : MethodId} {args : Array Value} {below : List Frame} {meth : Method} {c : Code} {Q : State → Prop} {D : va_G} {cy : Nat → ClassId} {A : Nat → Prop} (hC : mj_Cx mj_AW ic_Ns cl P Y d true p R s m args meth c D cy A) (hb1 : va_X b L xs s s.heap) (hb2 : b < s.heap.size) (hb3 : ¬ A b) : ∀ (n : Nat)
    {S S' : mj_S} {k9 : Nat}, ml_steps l cl cty P d j Y L xs wt n S S' k9 → mj_wS S → ∀ {ad : Nat → Nat}, ad 4000000 = b → ∀ {H : Heap} {locs : List Loc} {ls : Array Slot} {cells slots : Nat}, mj_XZ (mj_pX P) ad A s s.heap → va_P D cl (mj_ws cty cy ad S.2.2.2) H → va_D A (mj_ws cty cy ad S.2.2.2) → va_S A s.heap H locs → lv_has ls Y.2.2.1 (mj_l ad S.2.1) →
    cells + (S'.2.2.2.1.length - S.2.2.2.1.length + k9) ≤ R.cells → slots + (mj_slt S'.2.2.2 - mj_slt S.2.2.2 + 6 * k9) ≤ R.slots →
    (∀ (ad' : Nat → Nat) (H1 : Heap) (locs1 : List Loc) (ls1 : Array Slot), mj_ag S.2.2.2.1.length ad ad' → va_P D cl (mj_ws cty cy ad' S'.2.2.2) H1 → va_D A (mj_ws cty cy ad' S'.2.2.2) → va_S A s.heap H1 locs1 → lv_has ls1 Y.2.2.1 (mj_l ad' S'.2.1) → W p l e R s m args below meth c H1 locs1 (cells + (S'.2.2.2.1.length - S.2.2.2.1.length + k9)) (slots + (mj_slt S'.2.2.2 - mj_slt S.2.2.2 + 6 * k9)) Q (F0 m S'.1 ls1 (mj_s ad' S'.2.2.1))) →
    W p l e R s m args below meth c H locs cells slots Q (F0 m S.1 ls (mj_s ad S.2.2.1)) := by
  intro n
  induction n with
  | zero =>
    intro S S' k9 h hw ad had H locs ls cells slots hX hP hD hS hl hc1 hc2 kk
    obtain ⟨rfl, rfl⟩ := h
    have go := kk ad H locs ls mj_ag_rf hP hD hS hl
    simp only [Nat.sub_self, Nat.add_zero, Nat.mul_zero] at go
    exact go
  | succ n ih =>
    intro S S' k9 h hw ad had H locs ls cells slots hX hP hD hS hl hc1 hc2 kk
    obtain ⟨S1, k1, k2, h1, h2, rfl⟩ := h
    obtain ⟨e1, w1⟩ := ml_step_w h1 hw
    have hx2 : ∀ (n : Nat) {S S' : mj_S} {k : Nat}, ml_steps l cl cty P d j Y L xs wt n S S' k → mj_wS S → mj_ext S.2.2.2 S'.2.2.2 := by
      intro n
      induction n with
      | zero => intro S S' k h _; rw [h.1]; exact mj_ext_rf
      | succ n ih2 =>
        intro S S' k h hw
        obtain ⟨Z, a1, a2, g1, g2, -⟩ := h
        obtain ⟨q1, q2⟩ := ml_step_w g1 hw
        exact mj_ext_tr q1 (ih2 g2 q2)
    have e2 := hx2 n h2 w1
    have l1 := mj_ext_len e1
    have l2 := mj_ext_len e2
    have s1 := mj_ext_slt e1
    have s2 := mj_ext_slt e2
    refine ml_step_ok hG hMa hY hWt hC hb1 hb2 hb3 h1 hw had hX hP hD hS hl (by omega) (by omega) (fun ad' H1 locs1 ls1 g0 g1 g2 g3 g4 => ?_)
    refine ih h2 w1 ((g0 4000000 (Or.inr (by omega))).trans had) (mj_XZ_ag g0 hX) g1 g2 g3 g4 (by omega) (by omega) (fun ad2 H2 locs2 ls2 f0 f1 f2 f3 f4 => ?_)
    have go := kk ad2 H2 locs2 ls2 (mj_ag_tr g0 l1 f0) f1 f2 f3 f4
    have q1 : cells + (S1.2.2.2.1.length - S.2.2.2.1.length + k1) + (S'.2.2.2.1.length - S1.2.2.2.1.length + k2) = cells + (S'.2.2.2.1.length - S.2.2.2.1.length + (k1 + k2)) := by omega
    have q2 : slots + (mj_slt S1.2.2.2 - mj_slt S.2.2.2 + 6 * k1) + (mj_slt S'.2.2.2 - mj_slt S1.2.2.2 + 6 * k2) = slots + (mj_slt S'.2.2.2 - mj_slt S.2.2.2 + 6 * (k1 + k2)) := by omega
    rw [q1, q2]
    exact go

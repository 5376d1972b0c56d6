/-! PURE: BOOT: the pair; the KEY -/
section QKY
variable {s x u s' x' u' : Nat → Int32} {l y v l' y' v' : Nat → Int64} {D E W : Int} {fu f k n : Nat} {t : Int64} {a b d e p r g : Int32}
theorem q_bootR (h14 : q_Of s l u v) (h0 : s 94 = 0) : pf_X12_boot s l u v = pl_X12_boot_85 1000 (q_mq s (pj_u (pj_u (pj_u s 56 (s 56 + 1)) 13 (q_B13 s)) 18 (q_B18 s))) l u v := by
  obtain ⟨e1, e2, e3, e4⟩ := q_offK h14 h0
  have e5 : q_off0 q_rs s = s := by
    have z := q_rs_rz (s := s)
    rw [q_uv h0, e1] at z
    exact z
  have o1 := (h14 h0).1
  have s13 : s 13 = 0 := o1 13 0 rfl
  have s18 : s 18 = 0 := o1 18 0 rfl
  unfold pf_X12_boot po_X12_boot
  rw [q_forget, q_b, e2, e3, e4, e5]
  have k : (if s 12 = 0 then pl_X12_boot_42 1000 (pj_u s 56 (s 56 + 1)) l u v else pl_X12_boot_42 1000 (pj_u (pj_u (pj_u s 56 (s 56 + 1)) 13 1) 18 (((s 56 + 1) * 1103515245) + 12345)) l u v) = pl_X12_boot_42 1000 (pj_u (pj_u (pj_u s 56 (s 56 + 1)) 13 (q_B13 s)) 18 (q_B18 s)) l u v := by
    unfold q_B13 q_B18
    by_cases c : s 12 = 0
    · rw [if_pos c, if_pos c, if_pos c]
      have g1 : pj_u (pj_u s 56 (s 56 + 1)) 13 0 = pj_u s 56 (s 56 + 1) := q_uv (by rw [q_un (by omega)]; exact s13)
      have g2 : pj_u (pj_u s 56 (s 56 + 1)) 18 0 = pj_u s 56 (s 56 + 1) := q_uv (by rw [q_un (by omega)]; exact s18)
      rw [g1, g2]
    · rw [if_neg c, if_neg c, if_neg c]
  rw [k]
  generalize hB : pj_u (pj_u (pj_u s 56 (s 56 + 1)) 13 (q_B13 s)) 18 (q_B18 s) = B
  have vB : q_valB B = q_valB s := (q_valB_c (fun w _ _ => by rw [← hB, q_un (by omega), q_un (by omega), q_un (by omega)])).1
  unfold pl_X12_boot_42 q_mq
  rw [q_validBook, q_b, vB]
  rcases q_valB3 (s := s) with z | ⟨c, hc, z, -⟩
  · rw [z, if_pos rfl, pl_X12_boot_49, if_pos (by decide), if_pos rfl]
  · have n : ¬ q_valB s = -1 := by rw [z]; exact q_encn (by omega)
    have m := q_mpR (fu := 1000) (l := l) (u := u) (v := v) hc 32 0 1000 B (by omega) (by omega)
    have m' : pl_X12_boot_49 1000 1000 (Int32.ofNat c) 0 B l u v = _ := m
    rw [if_neg n, z, m', q_onC (by omega)]
theorem q_fwF {c : Nat} (S : Nat → Int32) (w : Nat) (h : ¬ (10000 ≤ w ∧ w < 10008)) : q_fw c 0 S u w = u w := by
  unfold q_fw
  rw [if_neg (by omega)]
theorem q_tkF {c : Nat} (w : Nat) (h : ¬ (8000 ≤ w ∧ w < 8008)) : q_tkX c s x e w = x w := by
  have z : ∀ S, q_fx c 0 S x w = x w := by
    intro S
    unfold q_fx
    rw [if_neg (by omega)]
  unfold q_tkX
  split
  · exact z _
  · rw [q_un (by omega)]; exact z _
theorem q_bootP (hI : q_I D E W s l x y u v) (h0 : s 94 = 0) : ∃ S X U, pf_X11_boot s l x y = some ((), S, l, X, y) ∧ pf_X12_boot s l u v = some ((), S, l, U, v) ∧ q_R S ∧ (∀ w, w < 97 → ¬ w = 13 → ¬ w = 18 → ¬ w = 56 → ¬ w = 87 → ¬ w = 88 → S w = s w) ∧ (∀ w, 97 ≤ w → w < 40000 → ¬ (9000 ≤ w ∧ w < 9016) → ¬ (12000 ≤ w ∧ w < 12032) → S w = s w) ∧ (∀ w, ¬ (8000 ≤ w ∧ w < 8008) → X w = x w) ∧ (∀ w, ¬ (10000 ≤ w ∧ w < 10008) → U w = u w) ∧ q_Fm S X U := by
  have hr := hI.1
  have h14 := hI.2.2.2.2.2.2.2.2.2.2.2.2.2
  obtain ⟨o1, o2, o3, o4, o5, o6, o7, o8, o9, o10, o11, o12, o13, o14, o15⟩ := h14 h0
  have s87 : s 87 = 0 := o1 87 0 rfl
  have hfm := hI.2.2.2.2.2.2.2.1
  have hv := hI.2.2.2.2.2.2.2.2.2.1
  have x1 : x 1 = 0 := by
    have z := hI.2.2.1.1.1
    rw [o10] at z
    have : (x 1).toInt64 = (0 : Int32).toInt64 := z.symm
    have q := congrArg Int64.toInt32 this
    rw [Int32.toInt32_toInt64, Int32.toInt32_toInt64] at q
    exact q
  have x29 : x 29 = 0 := by
    rcases hI.2.2.2.2.2.2.2.2.1.1 with z | z
    · exact z.1
    · rw [o15] at z; exact absurd z.2 (by decide)
  obtain ⟨hv1, -, hv2, -⟩ := hv
  have r13 : 0 ≤ (q_B13 s).toInt ∧ (q_B13 s).toInt ≤ 1 := by
    unfold q_B13
    split <;> decide
  have hB : q_R (pj_u (pj_u (pj_u s 56 (s 56 + 1)) 13 (q_B13 s)) 18 (q_B18 s)) := q_R_u (q_R_u (q_R_u hr (by exact q_R_any)) r13) (by exact q_R_any)
  have hQ := q_R_mq (s0 := s) hB (fun z _ _ => by rw [q_un (by omega), q_un (by omega), q_un (by omega)])
  rw [q_bootR h14 h0]
  unfold pf_X11_boot
  rw [q_uv x1, hv1]
  unfold pl_X12_boot_85
  rw [q_validCopy, q_b]
  have vC : q_val (q_mq s (pj_u (pj_u (pj_u s 56 (s 56 + 1)) 13 (q_B13 s)) 18 (q_B18 s))) = q_val s := (q_val_c (fun w _ _ => by rw [q_mq_o (by omega), q_un (by omega), q_un (by omega), q_un (by omega)])).1
  rw [vC]
  rcases q_val3 (s := s) with z | ⟨c, hc, z⟩
  · rw [z, if_neg (by decide), if_neg (by decide), if_pos rfl]
    rw [q_b69 (s' := s) hv2 (fun z _ _ => q_un (by omega)), q_un (show ¬ 12 = 56 by omega), q_ua, q_uv x29]
    refine ⟨q_bn2 s (s 56 + 1) (q_B13 s) (q_B18 s), x, u, by rw [← q_bn12]; rfl, rfl, hQ, ?_, ?_, fun _ _ => rfl, fun _ _ => rfl, ?_⟩
    · intro w h1 h2 h3 h4 h5 h6
      unfold q_bn2
      rw [q_mq_o (by omega), q_un h3, q_un h2, q_un h4]
    · intro w h1 h2 h3 h4
      unfold q_bn2
      rw [q_mq_o (by omega), q_un (by omega), q_un (by omega), q_un (by omega)]
    · refine q_Fm_c hfm ?_ (fun _ _ _ => rfl) (fun _ _ _ => rfl)
      unfold q_bn2
      rw [q_mq_o (by omega), q_un (by omega), q_un (by omega), q_un (by omega)]
  · have n : ¬ q_val s = -1 := by rw [z]; exact q_encn (by omega)
    have C : (if q_val s = 0 then pl_X11_boot_37 (q_val s) (pj_u s 56 (s 56 + 1)) l x y else (if q_val s = 1 then pl_X11_boot_37 (q_val s) (pj_u s 56 (s 56 + 1)) l x y else pl_X11_boot_69 (pj_u s 56 (s 56 + 1)) l x y)) = pl_X11_boot_37 (Int32.ofNat c) (pj_u s 56 (s 56 + 1)) l x y := by
      rw [z]
      have c2 : c = 0 ∨ c = 1 := by omega
      rcases c2 with q | q
      · subst q; rw [if_pos (show Int32.ofNat 0 = 0 by decide)]
      · subst q; rw [if_neg (show ¬ Int32.ofNat 1 = 0 by decide), if_pos (show Int32.ofNat 1 = 1 by decide)]
    rw [C, if_neg n, z]
    clear C
    -- the class
    unfold pl_X11_boot_37
    rw [q_g hc (by omega), q_onC (by omega), q_tkC hc, q_b, q_g hc (by omega)]
    have ce : ∀ (S : Nat → Int32) (X : Nat → Int32), pf_X3_takeOver c S l X y = some ((), q_ce c 0 S, l, X, y) := by
      intro S X
      unfold pf_X3_takeOver po_X3_takeOver
      rw [q_r hc]
      exact q_ceC (fu := 1000) hc 16 0 1000 S (by omega) (by omega)
    rw [ce, q_b, q_un (show ¬ 13000 + 55 * c + 29 = 56 by omega), q_un (show ¬ 13000 + 55 * c + 53 = 56 by omega)]
    generalize he : q_b87 (s (13000 + 55 * c + 29)) = e
    have e01 : e = 0 ∨ e = 1 := by rw [← he]; exact q_b87v _
    rw [q_b69 (s' := s) (by rw [q_tkF _ (by omega)]; exact hv2) (fun z _ _ => by rw [q_ce_o (by omega), q_un (by omega), q_un (by omega), q_tm1_o (by omega), q_un (by omega)])]
    rw [q_ce_o (w := 12) (by omega), q_un (show ¬ 12 = 88 by omega), q_un (show ¬ 12 = 87 by omega), q_tm1_o (w := 12) (by omega), q_un (show ¬ 12 = 56 by omega)]
    rw [q_ce_o (w := 56) (by omega), q_un (show ¬ 56 = 88 by omega), q_un (show ¬ 56 = 87 by omega), q_tm1_o (w := 56) (by omega), q_ua]
    rw [q_uv (f := q_tkX c (pj_u s 56 (s 56 + 1)) x e) (by rw [q_tkF _ (by omega)]; exact x29)]
    -- the reference
    have e55 : (55 : Int32) * Int32.ofNat c = Int32.ofNat (55 * c) := (Int32.ofNat_mul 55 c).symm
    generalize hM : q_mq s (pj_u (pj_u (pj_u s 56 (s 56 + 1)) 13 (q_B13 s)) 18 (q_B18 s)) = M at hQ ⊢
    have M13 : ∀ w, 13000 ≤ w → w < 13110 → M w = s w := fun w _ _ => by rw [← hM, q_mq_o (by omega), q_un (by omega), q_un (by omega), q_un (by omega)]
    obtain ⟨f', zz⟩ := q_tk1R (fu := 1000) (l := l) (u := u) (v := v) hc 28 0 1000 M (by omega) (by omega)
    have zz' : pl_X12_boot_104 1000 1000 (Int32.ofNat (55 * c)) 0 M l u v = _ := zz
    have n28 : ¬ Int32.ofNat 28 < 28 := by decide
    have a29 : Int32.ofNat (55 * c) + 29 = Int32.ofNat (55 * c + 29) := q_onaL _ 29
    have q1 : ∀ (w : Int32) (S : Nat → Int32), pf_X12_isIn w.toInt64 1 28 S l u v = some (if w < 1 then 0 else if 28 < w then 0 else 1, S, l, u, v) := fun w S => q_isI w 1 28
    rw [e55, zz', pl_X12_boot_104, if_neg n28, a29, q_g (by omega) (by omega), q_onC (by omega), show 13000 + (55 * c + 29) = 13000 + 55 * c + 29 by omega, q_tm1_o (w := 13000 + 55 * c + 29) (by omega), M13 _ (by omega) (by omega), q1, q_b]
    have he' : (if s (13000 + 55 * c + 29) < 1 then (0 : Int32) else if 28 < s (13000 + 55 * c + 29) then 0 else 1) = e := by rw [← he]; rfl
    rw [he', q_bz e01]
    have fw := q_fwR (s := pj_u (q_tm1 c 0 M) 87 e) (l := l) (v := v) (fu := 1000) hc (by omega) 8 0 1000 u (by omega) (by omega)
    have fw' : pl_X12_boot_222 1000 1000 (Int32.ofNat (55 * c)) 0 (pj_u (q_tm1 c 0 M) 87 e) l u v = _ := fw
    rw [fw', q_un (show ¬ 13000 + 55 * c + 53 = 87 by omega), q_tm1_o (w := 13000 + 55 * c + 53) (by omega), M13 _ (by omega) (by omega)]
    have S2 : pj_u (q_ce c 0 (pj_u (q_tm1 c 0 M) 87 e)) 88 (s (13000 + 55 * c + 53)) = q_bc2 c s (s 56 + 1) (q_B13 s) (q_B18 s) e (s (13000 + 55 * c + 53)) := by
      rw [← hM]; rfl
    rw [S2]
    have r87 : 0 ≤ e.toInt ∧ e.toInt ≤ 1 := by
      rcases e01 with q | q <;> rw [q] <;> decide
    have out : ∀ w, w < 97 → ¬ w = 13 → ¬ w = 18 → ¬ w = 56 → ¬ w = 87 → ¬ w = 88 → q_bc2 c s (s 56 + 1) (q_B13 s) (q_B18 s) e (s (13000 + 55 * c + 53)) w = s w := by
      intro w h1 h2 h3 h4 h5 h6
      rw [← S2, q_un h6, q_ce_o (by omega), q_un h5, q_tm1_o (by omega), ← hM, q_mq_o (by omega), q_un h3, q_un h2, q_un h4]
    refine ⟨q_bc2 c s (s 56 + 1) (q_B13 s) (q_B18 s) e (s (13000 + 55 * c + 53)), q_tkX c (pj_u s 56 (s 56 + 1)) x e, q_fw c 0 (pj_u (q_tm1 c 0 M) 87 e) u, by rw [← q_bc12 hc]; rfl, rfl, ?_, out, ?_, fun w hw => q_tkF w hw, fun w hw => q_fwF _ w hw, ?_⟩
    · rw [← S2]
      refine q_R_u (q_R_ce (q_R_u (q_R_tm1 hQ) r87)) (by exact q_R_any)
    · intro w h1 h2 h3 h4
      rw [← S2, q_un (by omega), q_ce_o (by omega), q_un (by omega), q_tm1_o (by omega), ← hM, q_mq_o (by omega), q_un (by omega), q_un (by omega), q_un (by omega)]
    · have v87 : q_bc2 c s (s 56 + 1) (q_B13 s) (q_B18 s) e (s (13000 + 55 * c + 53)) 87 = e := by
        rw [← S2, q_un (by omega), q_ce_o (by omega), q_ua]
      have rd : ∀ i, i < 8 → (pj_u (q_tm1 c 0 (pj_u s 56 (s 56 + 1))) 87 e) (13000 + 55 * c + (29 + i)) = s (13000 + 55 * c + (29 + i)) := fun i hi => by
        rw [q_un (by omega), q_tm1_o (by omega), q_un (by omega)]
      have rd2 : ∀ i, i < 8 → (pj_u (q_tm1 c 0 M) 87 e) (13000 + 55 * c + (29 + i)) = s (13000 + 55 * c + (29 + i)) := fun i hi => by
        rw [q_un (by omega), q_tm1_o (by omega), M13 _ (by omega) (by omega)]
      have fx : ∀ i, i < 8 → q_fx c 0 (pj_u (q_tm1 c 0 (pj_u s 56 (s 56 + 1))) 87 e) x (8000 + i) = if e = 0 then 0 else s (13000 + 55 * c + (29 + i)) := by
        intro i hi
        unfold q_fx
        rw [if_pos (by omega), show 8000 + i - 8000 = i by omega, rd i hi, q_ua]
      refine ⟨?_, ?_⟩
      · intro hn
        rw [v87] at hn
        have tk : ∀ i, i < 8 → q_tkX c (pj_u s 56 (s 56 + 1)) x e (8000 + i) = s (13000 + 55 * c + (29 + i)) - (if 10000 + i = 10000 then 1 else 0) := by
          intro i hi
          unfold q_tkX
          rw [if_neg hn]
          by_cases i0 : i = 0
          · subst i0
            rw [if_pos rfl, q_ua]
            have := fx 0 (by omega)
            rw [if_neg hn] at this
            rw [show (8000 : Nat) = 8000 + 0 from rfl, this]
          · rw [q_un (by omega), fx i hi, if_neg hn, if_neg (by omega), Int32.sub_zero]
        refine ⟨?_, ?_⟩
        · intro i hi
          rw [tk i hi]
          unfold q_fw
          rw [if_pos (show 10000 + 0 ≤ 10000 + i ∧ 10000 + i < 10008 by omega), show 10000 + i - 10000 = i by omega, rd2 i hi]
        · have t0 := tk 0 (by omega)
          rw [if_pos rfl] at t0
          rw [show (8000 : Nat) = 8000 + 0 from rfl, t0]
          unfold q_b87 at he
          by_cases c1 : s (13000 + 55 * c + 29) < 1
          · rw [if_pos c1] at he; exact absurd he.symm hn
          · rw [if_neg c1] at he
            by_cases c2 : 28 < s (13000 + 55 * c + 29)
            · rw [if_pos c2] at he; exact absurd he.symm hn
            · rw [Int32.lt_iff_toInt_lt] at c1 c2
              have u1 : (1 : Int32).toInt = 1 := rfl
              have u2 : (28 : Int32).toInt = 28 := rfl
              rw [u1] at c1
              rw [u2] at c2
              rw [show 29 + 0 = 29 from rfl, q_sub (by rw [u1]; omega) (by rw [u1]; omega), u1]
              omega
      · intro hz i hi
        rw [v87] at hz
        unfold q_tkX
        rw [if_pos hz, fx i hi, if_pos hz]
theorem q_bootI (hI : q_I D E W s l x y u v) (h0 : s 94 = 0) {S X U : Nat → Int32} (hr : q_R S) (g : ∀ w, q_Ss w → ¬ w = 87 → ¬ w = 94 → S w = s w) (g94 : S 94 = 1) (kx : ∀ w, q_Xs w → ¬ (8000 ≤ w ∧ w < 8008) → X w = x w) (m : ∀ w, q_Us w → ¬ (10000 ≤ w ∧ w < 10008) → U w = u w) (hfm : q_Fm S X U) : q_I D E W S l X y U (pj_u v 13 0) := by
  obtain ⟨-, h2, h3, h4, h5, h6, h7, h8, h9, h10, h11, h12, h13, h14⟩ := hI
  obtain ⟨o1, -⟩ := h14 h0
  have s19 : s 19 = 0 := o1 19 0 rfl
  obtain ⟨⟨n, ev, tm⟩, hx⟩ := h13
  have hn := ev.2.1
  have G : ∀ w, (w = 37000 ∨ (39000 ≤ w ∧ w < 39016) ∨ w = 6 ∨ w = 19 ∨ w = 40 ∨ w = 44 ∨ w = 3 ∨ w = 4 ∨ w = 7 ∨ w = 8 ∨ w = 54 ∨ w = 63 ∨ w = 65 ∨ w = 95 ∨ w = 57 ∨ w = 62 ∨ w = 67 ∨ w = 70 ∨ (10000 ≤ w ∧ w < 10024) ∨ (11000 ≤ w ∧ w < 11016) ∨ (13000 ≤ w ∧ w < 15000) ∨ (17000 ≤ w ∧ w < 17064) ∨ (26000 ≤ w ∧ w < 29000)) → S w = s w := fun w hw => g w (by unfold q_Ss; omega) (by omega) (by omega)
  have K : ∀ w, (w = 1 ∨ (3 ≤ w ∧ w ≤ 7) ∨ w = 10 ∨ w = 11 ∨ w = 13 ∨ w = 16 ∨ w = 17 ∨ w = 19 ∨ (21 ≤ w ∧ w ≤ 24) ∨ (27 ≤ w ∧ w ≤ 29) ∨ (2000 ≤ w ∧ w < 8000) ∨ (11000 ≤ w ∧ w < 11512)) → X w = x w := fun w hw => kx w (by unfold q_Xs; omega) (by omega)
  have M : ∀ w, (w = 1 ∨ (4 ≤ w ∧ w ≤ 18) ∨ (21 ≤ w ∧ w ≤ 23) ∨ w = 25 ∨ w = 29 ∨ (1000 ≤ w ∧ w < 10000) ∨ (13000 ≤ w ∧ w < 14600)) → U w = u w := fun w hw => m w (by unfold q_Us; omega) (by omega)
  have V : ∀ w, ¬ w = 13 → pj_u v 13 0 w = v w := fun w h => q_un h
  refine ⟨hr, q_Ln_c h2 (fun w _ _ => G w (by omega)) (fun w _ _ => G w (by omega)), q_Ct_c h3 rfl (K _ (by omega)) (K _ (by omega)) (K _ (by omega)) (K _ (by omega)) (V _ (by omega)) (V _ (by omega)) (V _ (by omega)) (V _ (by omega)), ?_, q_Pl_c h5 rfl (K _ (by omega)) rfl rfl (M _ (by omega)) (M _ (by omega)) (M _ (by omega)) (V _ (by omega)) (V _ (by omega)), q_Wt_c h6 (G _ (by omega)) (G _ (by omega)) (fun w _ _ => K w (by omega)) (fun w _ _ => M w (by omega)), q_Fg_c h7 (G _ (by omega)) (G _ (by omega)) (G _ (by omega)) (G _ (by omega)) rfl (K _ (by omega)) (K _ (by omega)) (K _ (by omega)) (K _ (by omega)) (K _ (by omega)) (K _ (by omega)) rfl (M _ (by omega)) (M _ (by omega)) (M _ (by omega)) (M _ (by omega)) (M _ (by omega)) (M _ (by omega)) (M _ (by omega)) (V _ (by omega)), hfm, q_Rc_c h9 rfl (K _ (by omega)) (K _ (by omega)) (K _ (by omega)) (M _ (by omega)) (V _ (by omega)), q_Vd_c h10 (fun w _ _ => G w (by omega)) (fun w _ _ => K w (by omega)), q_Kn_c h11 (fun w _ _ => M w (by omega)), q_Pg_c h12 (K _ (by omega)) (fun w _ _ => K w (by omega)) (M _ (by omega)) (fun w _ _ => M w (by omega)), ⟨⟨n, q_Ev_c ev (G _ (by omega)) (fun i _ => G _ (by omega)) (fun _ _ => K _ (by omega)) (fun _ _ => K _ (by omega)) (fun _ _ => M _ (by omega)) (fun _ _ => M _ (by omega)) (fun c _ => by rw [K _ (by omega), M _ (by omega), Int32.sub_self, Int32.sub_self]), tm⟩, ?_⟩, ?_⟩
  · unfold q_Wl q_wh at h4 ⊢
    rw [q_sp_c (G 19 (by omega)) (K 4 (by omega)), G 19 (by omega), G 10002 (by omega), K 4 (by omega), K 5 (by omega), K 6 (by omega), K 7 (by omega), M 4 (by omega), M 5 (by omega), V 6 (by omega)]
    exact ⟨h4.1, h4.2.1, h4.2.2.1, h4.2.2.2.1, h4.2.2.2.2.1, h4.2.2.2.2.2.1, h4.2.2.2.2.2.2.1, h4.2.2.2.2.2.2.2.1, h4.2.2.2.2.2.2.2.2.1, h4.2.2.2.2.2.2.2.2.2.1, fun _ z => absurd s19 z⟩
  · unfold q_Ex at hx ⊢
    rw [g94, G 54 (by omega), G 7 (by omega), G 8 (by omega), G 6 (by omega), G 95 (by omega), G 63 (by omega), G 65 (by omega), G 3 (by omega), G 4 (by omega), G 44 (by omega), G 62 (by omega), G 37000 (by omega), q_Ld_c (x' := X) (x := x) (G 70 (by omega)) (fun j _ => G _ (by omega)) (K 21 (by omega))]
    exact ⟨hx.1, hx.2.1, fun z => absurd z (by decide), hx.2.2.2.1, hx.2.2.2.2.1, hx.2.2.2.2.2⟩
  · intro z
    rw [g94] at z
    exact absurd z (by decide)
end QKY

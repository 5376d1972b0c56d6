/-! PURE: the face: a FRAME comes -/
section QFR
variable {s x u s' x' u' : Nat → Int32} {l y v l' y' v' : Nat → Int64} {D E W : Int} {fu f k n : Nat} {t : Int64} {a b d e p r g : Int32}
theorem q_s16b (a : Int32) : (a >>> (16 : Int32)).toBitVec = a.toBitVec.sshiftRight 16 := rfl
theorem q_s24b (a : Int32) : (a >>> (24 : Int32)).toBitVec = a.toBitVec.sshiftRight 24 := rfl
theorem q_by8 (a : Int32) : (a >>> (8 : Int32)) &&& (255 : Int32) = pj_shr a 8 &&& (255 : Int32) := by
  apply q_inj
  simp only [Int32.toBitVec_and, q_s8, q_u8, q_c255]
  apply BitVec.eq_of_getLsbD_eq
  intro i hi
  rcases q_32c hi with rfl | rfl | rfl | rfl | rfl | rfl | rfl | rfl | rfl | rfl | rfl | rfl | rfl | rfl | rfl | rfl | rfl | rfl | rfl | rfl | rfl | rfl | rfl | rfl | rfl | rfl | rfl | rfl | rfl | rfl | rfl | rfl
  all_goals simp [BitVec.getLsbD_and, BitVec.getLsbD_sshiftRight, BitVec.getElem_sshiftRight, BitVec.getLsbD_ushiftRight]
theorem q_by16 (a : Int32) : (a >>> (16 : Int32)) &&& (255 : Int32) = pj_shr a 16 &&& (255 : Int32) := by
  apply q_inj
  simp only [Int32.toBitVec_and, q_s16b, q_u16, q_c255]
  apply BitVec.eq_of_getLsbD_eq
  intro i hi
  rcases q_32c hi with rfl | rfl | rfl | rfl | rfl | rfl | rfl | rfl | rfl | rfl | rfl | rfl | rfl | rfl | rfl | rfl | rfl | rfl | rfl | rfl | rfl | rfl | rfl | rfl | rfl | rfl | rfl | rfl | rfl | rfl | rfl | rfl
  all_goals simp [BitVec.getLsbD_and, BitVec.getLsbD_sshiftRight, BitVec.getElem_sshiftRight, BitVec.getLsbD_ushiftRight]
theorem q_by24 (a : Int32) : (a >>> (24 : Int32)) &&& (255 : Int32) = pj_shr a 24 &&& (255 : Int32) := by
  apply q_inj
  simp only [Int32.toBitVec_and, q_s24b, q_u24, q_c255]
  apply BitVec.eq_of_getLsbD_eq
  intro i hi
  rcases q_32c hi with rfl | rfl | rfl | rfl | rfl | rfl | rfl | rfl | rfl | rfl | rfl | rfl | rfl | rfl | rfl | rfl | rfl | rfl | rfl | rfl | rfl | rfl | rfl | rfl | rfl | rfl | rfl | rfl | rfl | rfl | rfl | rfl
  all_goals simp [BitVec.getLsbD_and, BitVec.getLsbD_sshiftRight, BitVec.getElem_sshiftRight, BitVec.getLsbD_ushiftRight]
theorem q_topb (a : Int32) : pj_shr a 24 &&& (255 : Int32) = pj_shr a 24 := by
  apply q_inj
  simp only [Int32.toBitVec_and, q_u24, q_c255]
  apply BitVec.eq_of_getLsbD_eq
  intro i hi
  rcases q_32c hi with rfl | rfl | rfl | rfl | rfl | rfl | rfl | rfl | rfl | rfl | rfl | rfl | rfl | rfl | rfl | rfl | rfl | rfl | rfl | rfl | rfl | rfl | rfl | rfl | rfl | rfl | rfl | rfl | rfl | rfl | rfl | rfl
  all_goals simp [BitVec.getLsbD_and, BitVec.getLsbD_ushiftRight, BitVec.getLsbD_of_ge]
theorem q_sh88 (a : Int32) : pj_shr (pj_shr a 8) 8 = pj_shr a 16 := by
  apply q_inj
  simp only [q_u8, q_u16]
  rw [← BitVec.shiftRight_add]
theorem q_sh816 (a : Int32) : pj_shr (pj_shr a 8) 16 = pj_shr a 24 := by
  apply q_inj
  simp only [q_u8, q_u16, q_u24]
  rw [← BitVec.shiftRight_add]
theorem q_byI (a : Int32) : 0 ≤ (a &&& (255 : Int32)).toInt ∧ (a &&& (255 : Int32)).toInt ≤ 255 := by
  have e : (a &&& (255 : Int32)).toBitVec.toNat = a.toBitVec.toNat % 256 := by
    rw [Int32.toBitVec_and, BitVec.toNat_and]
    show a.toBitVec.toNat &&& 255 = _
    rw [show (255 : Nat) = 2 ^ 8 - 1 by rfl, Nat.and_two_pow_sub_one_eq_mod]
  have e2 : (a &&& (255 : Int32)).toInt = (a &&& (255 : Int32)).toBitVec.toInt := rfl
  rw [e2, BitVec.toInt_eq_toNat_cond, e]
  split <;> omega
/-- the bytes that came, as the reference lays them -/
def q_fb (a b : Int32) (u : Nat → Int32) : Nat → Int32 := pj_u (pj_u (pj_u (pj_u (pj_u (pj_u (pj_u (pj_u u 12000 (pj_shr a 24)) 12004 (pj_shr b 24)) 12001 (pj_shr a 16 &&& (255 : Int32))) 12005 (pj_shr b 16 &&& (255 : Int32))) 12002 (pj_shr a 8 &&& (255 : Int32))) 12006 (pj_shr b 8 &&& (255 : Int32))) 12003 (a &&& (255 : Int32))) 12007 (b &&& (255 : Int32))
theorem q_fbR (i : Int32) (hf : 10 < fu) : pl_X12_frameComes_47 fu fu i a b 0 s l u v = (if i = 336 then pj_b (pf_X12_percentage s l (q_fb a b u) v) (fun r1 s1 l1 x1 y1 => pj_bz r1 (some (r1, s1, l1, x1, y1))) else (if i = 1281 then pj_b (pf_X12_opens a s l (q_fb a b u) v) (fun r2 s2 l2 x2 y2 => (if r2 = 0 then some (0, s2, l2, x2, y2) else some (1, s2, l2, x2, y2))) else some (0, s, l, q_fb a b u, v))) := by
  obtain ⟨f, hf'⟩ : ∃ f, fu = f + 1 + 1 + 1 + 1 + 1 := ⟨fu - 5, by omega⟩
  have st : ∀ (k : Nat) (f : Nat) (u : Nat → Int32), k < 4 → pl_X12_frameComes_47 fu (f + 1) i a b (Int32.ofNat k) s l u v = pl_X12_frameComes_47 fu f i a b (Int32.ofNat (k + 1)) s l (pj_u (pj_u u (12000 + k) ((a >>> ((24 - (8 * Int32.ofNat k)) &&& (31 : Int32))) &&& (255 : Int32))) (12000 + (4 + k)) ((b >>> ((24 - (8 * Int32.ofNat k)) &&& (31 : Int32))) &&& (255 : Int32))) v := by
    intro k f u hk
    have e : Int32.ofNat k < 4 := by rw [q_onltL (by omega) (by omega)]; omega
    have e4 : (4 : Int32) + Int32.ofNat k = Int32.ofNat (4 + k) := q_onR (m := 4)
    have ej : Int32.ofNat k + 1 = Int32.ofNat (k + 1) := q_onaL k 1
    rw [pl_X12_frameComes_47, if_pos e, e4, q_g (by omega) (by omega), q_g (by omega) (by omega), q_onC (by omega), q_onC (by omega), ej]
  have z : pl_X12_frameComes_47 fu fu i a b 0 s l u v = pl_X12_frameComes_47 fu (f + 1 + 1 + 1 + 1 + 1) i a b (Int32.ofNat 0) s l u v := by
    rw [← hf']; rfl
  rw [z, st 0 _ _ (by omega), st 1 _ _ (by omega), st 2 _ _ (by omega), st 3 _ _ (by omega)]
  have n : ¬ Int32.ofNat (3 + 1) < 4 := by decide
  have c0 : (24 - (8 * Int32.ofNat 0)) &&& (31 : Int32) = 24 := by decide
  have c1 : (24 - (8 * Int32.ofNat 1)) &&& (31 : Int32) = 16 := by decide
  have c2 : (24 - (8 * Int32.ofNat 2)) &&& (31 : Int32) = 8 := by decide
  have c3 : (24 - (8 * Int32.ofNat 3)) &&& (31 : Int32) = 0 := by decide
  have s0 : ∀ w : Int32, w >>> (0 : Int32) = w := by
    intro w
    apply q_inj
    show w.toBitVec.sshiftRight 0 = _
    rw [BitVec.sshiftRight_zero]
  rw [pl_X12_frameComes_47, if_neg n, c0, c1, c2, c3, s0, s0, q_by24, q_by24, q_by16, q_by16, q_by8, q_by8, q_topb, q_topb]
  rfl
theorem q_ckb (a b : Int32) : q_ck a (pj_shr b 8) = q_x7 (q_fb a b u) := by
  unfold q_ck
  have z : (165 : Int32) &&& (255 : Int32) = 165 := rfl
  rw [q_xa, q_xa, q_xa, q_xa, q_xa, q_xa, q_xa, q_sh88, q_sh816, z, q_topb, q_topb]
  have v7 : q_x7 (q_fb a b u) = ((((((165 ^^^ pj_shr a 24) ^^^ (pj_shr a 16 &&& (255 : Int32))) ^^^ (pj_shr a 8 &&& (255 : Int32))) ^^^ (a &&& (255 : Int32))) ^^^ pj_shr b 24) ^^^ (pj_shr b 16 &&& (255 : Int32))) ^^^ (pj_shr b 8 &&& (255 : Int32)) := by
    unfold q_x7 q_fb
    simp (disch := omega) only [q_un, q_ua]
  rw [v7]
  generalize a &&& (255 : Int32) = c0
  generalize pj_shr a 8 &&& (255 : Int32) = c1
  generalize pj_shr a 16 &&& (255 : Int32) = c2
  generalize pj_shr a 24 = c3
  generalize pj_shr b 8 &&& (255 : Int32) = c4
  generalize pj_shr b 16 &&& (255 : Int32) = c5
  generalize pj_shr b 24 = c6
  simp only [q_xs, q_xc, q_xl]
theorem q_I_23 (hI : q_I D E W s l x y u v) (h0 : ¬ s 94 = 0) (h1 : 0 ≤ a.toInt) (h2 : a.toInt ≤ 15) : q_I D E W s l (pj_u x 23 a) y (pj_u (pj_u u 21 1) 22 a) v := by
  obtain ⟨hr, h2', h3, h4, h5, h6, h7, h8, h9, h10, h11, h12, h13, h14⟩ := hI
  have K : ∀ w, ¬ w = 23 → pj_u x 23 a w = x w := fun w h => q_un h
  have M : ∀ w, ¬ w = 21 → ¬ w = 22 → pj_u (pj_u u 21 1) 22 a w = u w := fun w p q => by rw [q_un q, q_un p]
  refine ⟨hr, h2', q_Ct_c h3 rfl (K _ (by omega)) (K _ (by omega)) (K _ (by omega)) (K _ (by omega)) rfl rfl rfl rfl, q_Wl_c h4 rfl rfl rfl rfl rfl (K _ (by omega)) (K _ (by omega)) (K _ (by omega)) (K _ (by omega)) (M _ (by omega) (by omega)) (M _ (by omega) (by omega)) rfl, q_Pl_c h5 rfl (K _ (by omega)) rfl rfl (M _ (by omega) (by omega)) (M _ (by omega) (by omega)) (M _ (by omega) (by omega)) rfl rfl, q_Wt_c h6 rfl rfl (fun w _ _ => K w (by omega)) (fun w _ _ => M w (by omega) (by omega)), ?_, q_Fm_c h8 rfl (fun w _ _ => K w (by omega)) (fun w _ _ => M w (by omega) (by omega)), q_Rc_c h9 rfl (K _ (by omega)) (K _ (by omega)) (K _ (by omega)) (M _ (by omega) (by omega)) rfl, q_Vd_c h10 (fun _ _ _ => rfl) (fun w _ _ => K w (by omega)), q_Kn_c h11 (fun w _ _ => M w (by omega) (by omega)), q_Pg_c h12 (K _ (by omega)) (fun w _ _ => K w (by omega)) (M _ (by omega) (by omega)) (fun w _ _ => M w (by omega) (by omega)), q_Es_c h13 rfl (fun _ _ => rfl) (fun _ _ _ => rfl) rfl (fun _ _ _ => rfl) (fun w _ _ => K w (by omega)) (fun w _ _ => M w (by omega) (by omega)) (q_Ld_i rfl (fun _ _ => rfl) (K 21 (by omega))), fun z => absurd z h0⟩
  obtain ⟨f1, f2, f3, f4, f5, f6, f7⟩ := h7
  refine ⟨?_, ?_, ?_, ?_, f5, f6, Or.inr ⟨by rw [q_un (by omega), q_ua], by rw [q_ua, q_ua], by rw [q_ua]; exact h1, by rw [q_ua]; exact h2⟩⟩
  · rw [K 13 (by omega), M 14 (by omega) (by omega)]; exact f1
  · rw [K 16 (by omega), K 17 (by omega), M 15 (by omega) (by omega), M 16 (by omega) (by omega)]; exact f2
  · rw [K 19 (by omega), M 18 (by omega) (by omega)]; exact f3
  · rw [K 21 (by omega), M 23 (by omega) (by omega)]; exact f4
/-- a frame of the PERCENTAGE -/
theorem q_percP (hI : q_I D E W s l x y u v) (h0 : ¬ s 94 = 0) (a b : Int32) : ∃ r s' x' u', pf_X1_hearAllowed a b s l x y = some (r, s', l, x', y) ∧ pf_X12_percentage s l (q_fb a b u) v = some (r, s', l, u', v) ∧ (r = 0 ∨ r = 1) ∧ q_I D E W s' l x' y u' v ∧ s' 94 = s 94 ∧ s' 95 = s 95 ∧ x' 1 = x 1 ∧ x' 2 = x 2 := by
  have hr := hI.1
  have hu := q_I_f (s' := s) (x' := x) (u' := q_fb a b u) hI h0 hr (fun _ _ => rfl) (fun _ _ => rfl) (fun w hw => by unfold q_fb; unfold q_Us at hw; simp (disch := omega) only [q_un])
  have v0 : q_fb a b u 12000 = pj_shr a 24 := by unfold q_fb; simp (disch := omega) only [q_un, q_ua]
  have v6 : q_fb a b u 12006 = (pj_shr b 8) &&& (255 : Int32) := by unfold q_fb; simp (disch := omega) only [q_un, q_ua]
  have v7 : q_fb a b u 12007 = b &&& (255 : Int32) := by unfold q_fb; simp (disch := omega) only [q_un, q_ua]
  have v21 : q_fb a b u 21 = u 21 := by unfold q_fb; simp (disch := omega) only [q_un, q_ua]
  have v22 : q_fb a b u 22 = u 22 := by unfold q_fb; simp (disch := omega) only [q_un, q_ua]
  have ck := q_ckb (u := u) a b
  have i6 := q_byI (pj_shr b 8)
  have i0 : 0 ≤ (pj_shr a 24).toInt ∧ (pj_shr a 24).toInt ≤ 255 := by rw [← q_topb]; exact q_byI _
  have C : ∀ b0 : Int32, (b0 = 0 ∨ b0 = 1) → pl_X1_hearAllowed_51 a b (pj_shr a 24) ((pj_shr b 8) &&& (255 : Int32)) b0 s l x y = (if 100 < pj_shr a 24 ∨ 15 < ((pj_shr b 8) &&& (255 : Int32)) ∨ ¬ (b &&& (255 : Int32)) = q_ck a (pj_shr b 8) ∨ b0 = 0 then some (0, pj_u s 11 (s 11 + 1), l, x, y) else some (1, pj_u (pj_u s 9 (10 * pj_shr a 24)) 10 0, l, pj_u x 23 ((pj_shr b 8) &&& (255 : Int32)), y)) := by
    intro b0 hb
    unfold pl_X1_hearAllowed_51 pl_X1_hearAllowed_87 pf_X1_checkOf
    rw [q_b]
    by_cases c1 : 100 < pj_shr a 24
    · rw [if_pos c1, if_pos (Or.inl c1)]
    · rw [if_neg c1]
      by_cases c2 : 15 < ((pj_shr b 8) &&& (255 : Int32))
      · rw [if_pos c2, if_pos (Or.inr (Or.inl c2))]
      · rw [if_neg c2]
        by_cases c3 : (b &&& (255 : Int32)) = q_ck a (pj_shr b 8)
        · have c3' := c3
          unfold q_ck at c3'
          rw [if_pos c3']
          by_cases c4 : b0 = 0
          · rw [if_pos c4, if_pos (Or.inr (Or.inr (Or.inr c4)))]
          · rw [if_neg c4, if_neg (by intro z; rcases z with z | z | z | z; exact c1 z; exact c2 z; exact z c3; exact c4 z)]
        · have c3' := c3
          unfold q_ck at c3'
          rw [if_neg c3', if_pos (Or.inr (Or.inr (Or.inl c3)))]
  have R : ∀ b0 : Int32, (b0 = 0 ∨ b0 = 1) → pl_X12_percentage_42 ((pj_shr b 8) &&& (255 : Int32)) b0 s l (q_fb a b u) v = (if 100 < pj_shr a 24 ∨ 15 < ((pj_shr b 8) &&& (255 : Int32)) ∨ ¬ (b &&& (255 : Int32)) = q_ck a (pj_shr b 8) ∨ b0 = 0 then some (0, pj_u s 11 (s 11 + 1), l, q_fb a b u, v) else some (1, pj_u (pj_u s 9 (10 * pj_shr a 24)) 10 0, l, pj_u (pj_u (q_fb a b u) 21 1) 22 ((pj_shr b 8) &&& (255 : Int32)), v)) := by
    intro b0 hb
    unfold pl_X12_percentage_42 pl_X12_percentage_78
    rw [q_check, q_b, v0, v7, ← ck]
    by_cases c1 : 100 < pj_shr a 24
    · rw [if_pos c1, if_pos (Or.inl c1)]
    · rw [if_neg c1]
      by_cases c2 : 15 < ((pj_shr b 8) &&& (255 : Int32))
      · rw [if_pos c2, if_pos (Or.inr (Or.inl c2))]
      · rw [if_neg c2]
        by_cases c3 : (b &&& (255 : Int32)) = q_ck a (pj_shr b 8)
        · rw [if_pos c3]
          by_cases c4 : b0 = 0
          · rw [if_pos c4, if_pos (Or.inr (Or.inr (Or.inr c4)))]
          · rw [if_neg c4, if_neg (by intro z; rcases z with z | z | z | z; exact c1 z; exact c2 z; exact z c3; exact c4 z)]
        · rw [if_neg c3, if_pos (Or.inr (Or.inr (Or.inl c3)))]
  have fin : ∀ b0 : Int32, (b0 = 0 ∨ b0 = 1) → ∃ r s' x' u', pl_X1_hearAllowed_51 a b (pj_shr a 24) ((pj_shr b 8) &&& (255 : Int32)) b0 s l x y = some (r, s', l, x', y) ∧ pl_X12_percentage_42 ((pj_shr b 8) &&& (255 : Int32)) b0 s l (q_fb a b u) v = some (r, s', l, u', v) ∧ (r = 0 ∨ r = 1) ∧ q_I D E W s' l x' y u' v ∧ s' 94 = s 94 ∧ s' 95 = s 95 ∧ x' 1 = x 1 ∧ x' 2 = x 2 := by
    intro b0 hb
    rw [C b0 hb, R b0 hb]
    by_cases c : 100 < pj_shr a 24 ∨ 15 < ((pj_shr b 8) &&& (255 : Int32)) ∨ ¬ (b &&& (255 : Int32)) = q_ck a (pj_shr b 8) ∨ b0 = 0
    · rw [if_pos c, if_pos c]
      refine ⟨_, _, _, _, rfl, rfl, Or.inl rfl, q_I_s hu h0 (q_R_u hr (by exact q_R_any)) (fun w hw => q_un (by unfold q_Ss at hw; omega)), q_un (by omega), q_un (by omega), rfl, rfl⟩
    · rw [if_neg c, if_neg c]
      have c1 : ¬ 100 < pj_shr a 24 := fun z => c (Or.inl z)
      have c2 : ¬ 15 < ((pj_shr b 8) &&& (255 : Int32)) := fun z => c (Or.inr (Or.inl z))
      rw [Int32.lt_iff_toInt_lt] at c1 c2
      have o1 : (100 : Int32).toInt = 100 := rfl
      have o2 : (15 : Int32).toInt = 15 := rfl
      have o3 : (10 : Int32).toInt = 10 := rfl
      rw [o1] at c1
      rw [o2] at c2
      have m : (10 * pj_shr a 24).toInt = 10 * (pj_shr a 24).toInt := by rw [q_mul (by rw [o3]; omega) (by rw [o3]; omega), o3]
      have rr : q_R (pj_u (pj_u s 9 (10 * pj_shr a 24)) 10 0) := q_R_u (q_R_u hr (by exact (show (0 : Int) ≤ (10 * pj_shr a 24).toInt ∧ (10 * pj_shr a 24).toInt ≤ 1000 by omega))) (by exact (show (0 : Int) ≤ 0 ∧ (0 : Int) ≤ 20 by decide))
      have J := q_I_s (s' := pj_u (pj_u s 9 (10 * pj_shr a 24)) 10 0) hu h0 rr (fun w hw => by unfold q_Ss at hw; rw [q_un (by omega), q_un (by omega)])
      refine ⟨_, _, _, _, rfl, rfl, Or.inr rfl, q_I_23 J (by rw [q_un (by omega), q_un (by omega)]; exact h0) i6.1 (by omega), by rw [q_un (by omega), q_un (by omega)], by rw [q_un (by omega), q_un (by omega)], q_un (by omega), q_un (by omega)⟩
  unfold pf_X1_hearAllowed pf_X12_percentage pl_X1_hearAllowed_46 pl_X12_percentage_37
  rw [v21, v22, v6]
  have hf := hI.2.2.2.2.2.2.1.2.2.2.2.2.2
  rcases hf with ⟨p1, p2⟩ | ⟨p1, p2, p3, p4⟩
  · rw [if_pos p1, if_pos p2]; exact fin 1 (Or.inr rfl)
  · have n1 : ¬ u 21 = 0 := by rw [p1]; decide
    have n2 : ¬ x 23 = -1 := by intro z; rw [z] at p3; exact absurd p3 (by decide)
    rw [if_neg n1, if_neg n2, ← p2]
    by_cases c1 : s 10 = 20
    · rw [if_pos c1, if_pos c1]; exact fin 1 (Or.inr rfl)
    · rw [if_neg c1, if_neg c1]
      by_cases c2 : ((pj_shr b 8) &&& (255 : Int32)) = pj_rem (x 23 + 1) 16
      · rw [if_pos c2, if_pos c2]; exact fin 1 (Or.inr rfl)
      · rw [if_neg c2, if_neg c2]; exact fin 0 (Or.inl rfl)
theorem q_opensP (hr : q_R s) (a : Int32) : ∃ r S, pf_X1_hearUnlock a s l x y = some (r, S, l, x, y) ∧ pf_X12_opens a s l u v = some (r, S, l, u, v) ∧ q_R S ∧ ∀ w, ¬ w = 13 → ¬ w = 14 → ¬ w = 15 → S w = s w := by
  unfold pf_X1_hearUnlock pf_X12_opens
  by_cases c1 : s 13 = 0
  · rw [if_pos c1, if_pos c1]; exact ⟨_, _, rfl, rfl, hr, fun _ _ _ _ => rfl⟩
  · rw [if_neg c1, if_neg c1]
    by_cases c2 : 0 < s 15
    · rw [if_pos c2, if_pos c2]; exact ⟨_, _, rfl, rfl, hr, fun _ _ _ _ => rfl⟩
    · rw [if_neg c2, if_neg c2]
      generalize (((s 18 ^^^ s 12) * (-1640531535)) ^^^ (pj_shr ((s 18 ^^^ s 12) * (-1640531535)) 15)) = key
      by_cases c3 : a = key
      · rw [if_pos c3, if_pos c3]
        exact ⟨_, _, rfl, rfl, q_R_u hr (by exact (show (0 : Int) ≤ 0 ∧ (0 : Int) ≤ 1 by decide)), fun _ h _ _ => q_un h⟩
      · rw [if_neg c3, if_neg c3]
        have r14 := q_R14 hr
        have e : (s 14 + 1).toInt = (s 14).toInt + 1 := q_one (by omega) (by omega)
        by_cases c4 : s 14 + 1 < 5
        · have n : ¬ s 14 + 1 = 5 := by intro z; rw [z] at c4; exact absurd c4 (by decide)
          rw [if_pos c4, if_neg n]
          rw [Int32.lt_iff_toInt_lt] at c4
          have o : (5 : Int32).toInt = 5 := rfl
          exact ⟨_, _, rfl, rfl, q_R_u hr (by exact (show (0 : Int) ≤ (s 14 + 1).toInt ∧ (s 14 + 1).toInt ≤ 4 by omega)), fun _ _ h _ => q_un h⟩
        · have z : s 14 + 1 = 5 := by
            rw [Int32.lt_iff_toInt_lt] at c4
            have o : (5 : Int32).toInt = 5 := rfl
            rw [← Int32.toInt_inj, o]
            omega
          rw [if_neg c4, if_pos z, z, q_uu]
          exact ⟨_, _, rfl, rfl, q_R_u (q_R_u hr (by exact (show (0 : Int) ≤ 0 ∧ (0 : Int) ≤ 4 by decide))) (by exact (show (0 : Int) ≤ 1000 ∧ (1000 : Int) ≤ 1000 by decide)), fun _ _ h h' => by rw [q_un h', q_un h]⟩
theorem q_F_frameComes (hV : q_V k s l x y u v) (h1 : ¬ a < 0) (h2 : ¬ 2047 < a) : q_Fa (k + 1) (pf_X11_frameComes a b d s l x y) (pf_X12_frameComes a b d s l u v) := by
  have q1 : pf_X12_isIn a.toInt64 0 2047 s l u v = some (if a < 0 then 0 else if 2047 < a then 0 else 1, s, l, u, v) := q_isI a 0 2047
  unfold pf_X11_frameComes pf_X12_frameComes po_X12_frameComes pl_X12_frameComes_18
  rw [if_neg h1, if_neg h2, q1, q_b, q_in1 h1 h2, if_neg q_n10, if_neg q_l00]
  by_cases c0 : s 94 = 0
  · rw [if_pos c0, if_pos c0]
    exact q_Fa_s 0 s rfl rfl (q_V_s hV)
  · rw [if_neg c0, if_neg c0]
    by_cases c7 : s 7 = 0
    · rw [if_pos c7, if_pos c7, q_fbR a (by omega)]
      have hI := hV.1
      generalize hu : pj_u u 1 0 = u0 at hI
      have hJ := q_I_f (s' := s) (x' := x) (u' := q_fb b d u0) hI c0 hI.1 (fun _ _ => rfl) (fun _ _ => rfl) (fun w hw => by unfold q_fb; unfold q_Us at hw; simp (disch := omega) only [q_un])
      have fin : ∀ {S X U : Nat → Int32}, q_I 0 (500000 * k) (200000 * k) S l X y U v → S 94 = s 94 → S 95 = s 95 → X 1 = x 1 → X 2 = x 2 → U 1 = 0 ∧ q_V (k + 1) S l X y U v := by
        intro S X U J g4 g5 k1 k2
        refine q_V_L (k := k + 1) J ?_ ?_ (by omega) (by omega) (by have := hV.2.2.2; omega)
        · have hK := hV.2.1
          unfold q_Kl at hK ⊢
          rw [k1, k2]; exact hK
        · have hA := hV.2.2.1
          unfold q_Af at hA ⊢
          rw [g4, g5]; exact hA
      by_cases c3 : a = 336
      · rw [if_pos c3, if_pos c3]
        obtain ⟨r, s', x', u', e1, e2, r01, J, g4, g5, k1, k2⟩ := q_percP hI c0 b d
        rw [e1, e2, q_b, q_b, q_bz r01, q_bz r01]
        obtain ⟨z1, z2⟩ := fin J g4 g5 k1 k2
        exact ⟨_, _, _, _, _, _, _, rfl, rfl, z1, z2⟩
      · rw [if_neg c3, if_neg c3]
        by_cases c4 : a = 1281
        · rw [if_pos c4, if_pos c4]
          obtain ⟨r, S, e1, e2, rS, g⟩ := q_opensP (l := l) (x := x) (y := y) (u := q_fb b d u0) (v := v) hI.1 b
          rw [e1, e2, q_b, q_b]
          have J := q_I_s (s' := S) hJ c0 rS (fun w hw => g w (by unfold q_Ss at hw; omega) (by unfold q_Ss at hw; omega) (by unfold q_Ss at hw; omega))
          obtain ⟨z1, z2⟩ := fin J (g 94 (by omega) (by omega) (by omega)) (g 95 (by omega) (by omega) (by omega)) rfl rfl
          by_cases c5 : r = 0
          · rw [if_pos c5, if_pos c5]
            exact ⟨_, _, _, _, _, _, _, rfl, rfl, z1, z2⟩
          · rw [if_neg c5, if_neg c5]
            exact ⟨_, _, _, _, _, _, _, rfl, rfl, z1, z2⟩
        · rw [if_neg c4, if_neg c4]
          obtain ⟨z1, z2⟩ := fin hJ rfl rfl rfl rfl
          exact ⟨_, _, _, _, _, _, _, rfl, rfl, z1, z2⟩
    · rw [if_neg c7, if_neg c7]
      exact q_Fa_s 0 s rfl rfl (q_V_s hV)
theorem q_F_frameComes0 (hV : q_V k s l x y u v) (h : a < 0 ∨ 2047 < a) : q_Rf (k + 1) 1 s l x y (pf_X12_frameComes a b d s l u v) := by
  have q1 : pf_X12_isIn a.toInt64 0 2047 s l u v = some (if a < 0 then 0 else if 2047 < a then 0 else 1, s, l, u, v) := q_isI a 0 2047
  unfold pf_X12_frameComes po_X12_frameComes pl_X12_frameComes_18
  rw [q1, q_b, q_in0 h, if_pos rfl, if_pos q_l01]
  exact q_Rf_s 0 1 rfl hV
end QFR

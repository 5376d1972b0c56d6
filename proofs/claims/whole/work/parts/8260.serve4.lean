/-! PURE: the TESTER: what is written; codes, names -/
section QSU
variable {s x u s' x' u' x2 u2 : Nat → Int32} {l y v l' y' v' : Nat → Int64} {D E W : Int} {fu f k n m : Nat} {t : Int64} {a b d e p r : Int32}
/-- behind a writing: the power went, or something is said -/
theorem q_Sv_wr {F : Option (Int32 × pj_Z)} {G : Option (Unit × pj_Z)} {S X : Nat → Int32} {V : Nat → Int64} (c b : Int32) (hr : r = 0 ∨ r = 1) (J : q_I 0 E W S l X y u V) (h0 : ¬ S 94 = 0) (hK : q_Kl X V) (hA : q_Af S) (hS : q_Sy 0 X u) (hc : S 37003 = c) (hF : F = if r = 0 then pj_b (pf_X11_goOff S l X y) (fun r3 s3 l3 x3 y3 => some ((-1), s3, l3, x3, y3)) else pf_X8_say b S l X y) (hG : G = if r = 0 then some ((), q_off0 q_rz S, pj_u (pj_u l 20 0) 61 0, q_off0 q_ru u, pj_u (pj_u (pj_u (pj_u V 6 0) 12 0) 13 0) 20 0) else pf_X12_say b S l u V) : q_Sv E W c (l 93) F G := by
  rcases hr with z | z
  · rw [if_pos z] at hF hG
    rw [q_goOff, q_b] at hF
    obtain ⟨jI, jK⟩ := q_offJ J
    have u19 : q_off0 q_ru u 19 = 0 := by
      rw [q_of0 (by decide)]
      exact hS.2.2.1
    exact ⟨-1, _, _, _, _, _, _, hF, hG, jI, jK, (fun z => absurd z (by rw [q_off_94]; decide)), by rw [q_un (by omega), q_un (by omega)], Or.inl ⟨rfl, u19⟩⟩
  · have n : ¬ r = 0 := by rw [z]; decide
    rw [if_neg n] at hF hG
    obtain ⟨x1, u1, f1, g1, s1, a1, b1⟩ := q_say (s := S) (l := l) (y := y) (v := V) (a := b) (b := b) hS (by omega) rfl
    have q := q_Sv_ok (F := F) (G := G) J h0 hK hA a1 b1 s1 (by omega) (by rw [hF, f1]) (by rw [hG, g1])
    rw [hc] at q
    exact q
-- 55
def q_cm (k i : Nat) (s : Nat → Int32) : Nat → Int32 := fun w => if 12000 + 16 * k + i ≤ w ∧ w < 12000 + 16 * k + 16 then s (39000 + (w - (12000 + 16 * k))) else s w
theorem q_cm_step {k i : Nat} (hk : k < 2) (hi : i < 16) : q_cm k (i + 1) (pj_u s (12000 + (16 * k + i)) (s (39000 + i))) = q_cm k i s := by
  funext w
  unfold q_cm
  by_cases c1 : 12000 + 16 * k + (i + 1) ≤ w ∧ w < 12000 + 16 * k + 16
  · rw [if_pos c1, if_pos (by omega), q_un (by omega)]
  · rw [if_neg c1]
    by_cases d : w = 12000 + (16 * k + i)
    · rw [if_pos (by omega), d, q_ua, show 12000 + (16 * k + i) - (12000 + 16 * k) = i by omega]
    · rw [if_neg (by omega), q_un d]
theorem q_cm_end {k : Nat} : q_cm k 16 s = s := by
  funext w
  unfold q_cm
  rw [if_neg (by omega)]
theorem q_ld112 {k : Nat} (hk : k < 2) : ∀ (m i f : Nat) (s : Nat → Int32), i + m = 16 → m < f → pl_X12_loaded_112 fu f (Int32.ofNat k) (Int32.ofNat i) s l u v = pj_b (pf_X12_writeBook (q_cm k i s) l u v) (fun r1 s1 l1 x1 y1 => (if r1 = 0 then some ((), s1, l1, x1, y1) else pf_X12_say 119 s1 l1 x1 y1)) := by
  intro m
  induction m with
  | zero =>
    intro i f s hi hf
    have : i = 16 := by omega
    subst this
    obtain ⟨f, rfl⟩ : ∃ f9, f = f9 + 1 := ⟨f - 1, by omega⟩
    have e : ¬ Int32.ofNat 16 < 16 := by decide
    rw [pl_X12_loaded_112, if_neg e, q_cm_end]
    simp only [q_bU]
  | succ m ih =>
    intro i f s hi hf
    obtain ⟨f, rfl⟩ : ∃ f9, f = f9 + 1 := ⟨f - 1, by omega⟩
    have e : Int32.ofNat i < 16 := by rw [q_onltL (by omega) (by omega)]; omega
    have e1 : (16 : Int32) * Int32.ofNat k + Int32.ofNat i = Int32.ofNat (16 * k + i) := by
      rw [show (16 : Int32) * Int32.ofNat k = Int32.ofNat (16 * k) from (Int32.ofNat_mul 16 k).symm, q_onR]
    rw [pl_X12_loaded_112, if_pos e, e1, q_g (by omega) (by omega), q_g (by omega) (by omega), q_onC (by omega), q_onC (by omega), show Int32.ofNat i + 1 = Int32.ofNat (i + 1) from q_onaL i 1, ih (i + 1) f _ (by omega) (by omega), q_cm_step hk (by omega)]
theorem q_ld44 {L : Nat → Int32} (hL : ∀ j, j < 16 → L j = s (39000 + j)) : ∀ (m i f : Nat), i + m = 16 → m < f → pl_X12_loaded_44 fu f (q_osu L i) (Int32.ofNat i) s l u v = (if (q_osu L 16 &&& (65535 : Int32)) = ((256 * s 37004) + s 37005) then pl_X12_loaded_112 fu fu (s 70) 0 (pj_u s 70 (-1)) l u v else pf_X12_refuse 55 114 (pj_u s 70 (-1)) l u v) := by
  intro m
  induction m with
  | zero =>
    intro i f hi hf
    have : i = 16 := by omega
    subst this
    obtain ⟨f, rfl⟩ : ∃ f9, f = f9 + 1 := ⟨f - 1, by omega⟩
    have e : ¬ Int32.ofNat 16 < 16 := by decide
    rw [pl_X12_loaded_44, if_neg e, q_bU]
  | succ m ih =>
    intro i f hi hf
    obtain ⟨f, rfl⟩ : ∃ f9, f = f9 + 1 := ⟨f - 1, by omega⟩
    have e : Int32.ofNat i < 16 := by rw [q_onltL (by omega) (by omega)]; omega
    rw [pl_X12_loaded_44, if_pos e, q_g (by omega) (by omega), q_onC (by omega), show Int32.ofNat i + 1 = Int32.ofNat (i + 1) from q_onaL i 1, ← hL i (by omega)]
    exact ih (i + 1) f (by omega) (by omega)
theorem q_sr4 {L : Nat → Int32} (hL : ∀ j, j < 16 → L j = s (39000 + j)) : ∀ (m i f : Nat), i + m = 16 → m < f → pl_X8_sumIsRight_4 fu f (q_osu L i) (Int32.ofNat i) s l x y = some ((if (q_osu L 16 &&& (65535 : Int32)) = ((s 37004 <<< (8 : Int32)) ||| s 37005) then 1 else 0), s, l, x, y) := by
  intro m
  induction m with
  | zero =>
    intro i f hi hf
    have : i = 16 := by omega
    subst this
    obtain ⟨f, rfl⟩ : ∃ f9, f = f9 + 1 := ⟨f - 1, by omega⟩
    have e : ¬ Int32.ofNat 16 < 16 := by decide
    rw [pl_X8_sumIsRight_4, if_neg e]
    split <;> rfl
  | succ m ih =>
    intro i f hi hf
    obtain ⟨f, rfl⟩ : ∃ f9, f = f9 + 1 := ⟨f - 1, by omega⟩
    have e : Int32.ofNat i < 16 := by rw [q_onltL (by omega) (by omega)]; omega
    rw [pl_X8_sumIsRight_4, if_pos e, q_g (by omega) (by omega), q_onC (by omega), show Int32.ofNat i + 1 = Int32.ofNat (i + 1) from q_onaL i 1, ← hL i (by omega)]
    exact ih (i + 1) f (by omega) (by omega)
theorem q_S55 (h : q_S0 E W s l x y u v) (hc : s 37003 = 55) (hW : W + 60 < 2147483647) : q_Sv E (W + 60) (s 37003) (l 93) (pf_X11_serveBook s l x y) (pf_X12_loaded 3 s l u v) := by
  obtain ⟨hI, h0, hK, hA, hS, h65⟩ := h
  have hr := hI.1
  have f4 := hI.2.2.2.2.2.2.1.2.2.2.1
  have ld := hI.2.2.2.2.2.2.2.2.2.2.2.2.1.2.2.2.2.2.2.2.2
  have hI60 : q_I 0 E (W + 60) s l x y u v := q_I_mono hI (by omega) (by omega)
  have no : ∀ r : Int32, ¬ r = -1 → ¬ r = 0 → q_Sv E (W + 60) (s 37003) (l 93) (some (r, s, l, x, y)) (pf_X12_refuse 55 r s l u v) := fun r p q => q_Sv_no (r := r) hI60 h0 hK hA q_Fx0 q_Fu0 p q rfl (by rw [hc])
  have r70 : -1 ≤ (s 70).toInt ∧ (s 70).toInt ≤ 1 := hr 70
  unfold pf_X11_serveBook pf_X12_loaded po_X12_loaded pl_X11_serveBook_29 pl_X12_loaded_31
  rw [if_pos rfl]
  simp only [q_bU]
  by_cases c1 : s 70 = -1
  · have n : s 70 < 0 := by rw [c1]; decide
    rw [if_pos n, if_pos c1]; exact no 36 (by decide) (by decide)
  have k1 : ¬ (s 70).toInt = -1 := fun z => c1 (by rw [← Int32.toInt_inj, z]; rfl)
  obtain ⟨k, ek, hk, -⟩ := q_nat (a := s 70) (by omega)
  have k2 : k < 2 := by omega
  have n0 : ¬ s 70 < 0 := by rw [ek]; exact q_onnn (by omega)
  have n1 : ¬ 1 < s 70 := by rw [ek, q_onltR (by omega) (by omega)]; omega
  obtain ⟨p1, p2, p3⟩ := f4 c1
  rw [if_neg n0, if_neg n1, if_neg c1, ← p1]
  by_cases c2 : x 21 < 16
  · rw [if_pos c2, if_pos c2]; exact no 36 (by decide) (by decide)
  rw [if_neg c2, if_neg c2]
  have c2' := c2
  rw [Int32.lt_iff_toInt_lt] at c2'
  have o16 : (16 : Int32).toInt = 16 := rfl
  have sR : pf_X8_sumIsRight (pj_u s 70 (-1)) l x y = some ((if (q_osu (fun j => s (39000 + j)) 16 &&& (65535 : Int32)) = ((s 37004 <<< (8 : Int32)) ||| s 37005) then 1 else 0), pj_u s 70 (-1), l, x, y) := by
    have z := q_sr4 (fu := 1000) (s := pj_u s 70 (-1)) (l := l) (x := x) (y := y) (L := fun j => s (39000 + j)) (fun j hj => by rw [q_un (by omega)]) 16 0 1000 (by omega) (by omega)
    rw [q_un (show ¬ 37004 = 70 by omega), q_un (show ¬ 37005 = 70 by omega)] at z
    exact z
  have sL := q_ld44 (fu := 1000) (s := s) (l := l) (u := u) (v := v) (L := fun j => s (39000 + j)) (fun j hj => rfl) 16 0 1000 (by omega) (by omega)
  have sL' : pl_X12_loaded_44 1000 1000 0 0 s l u v = _ := sL
  rw [sR, q_b, sL', q_2b (q_row (i := 4) hr (by omega)) (q_row (i := 5) hr (by omega))]
  clear sR sL sL'
  have J0 := q_I_70 (s' := pj_u s 70 (-1)) (x' := x) (u' := u) hI h0 (q_R_u hr (by decide)) (fun w hw n _ => q_un n) (fun z => absurd q_ua z) (fun z => absurd q_ua z) (fun _ _ => rfl) (fun _ _ => rfl)
  have S94 : pj_u s 70 (-1) 94 = s 94 := q_un (by omega)
  by_cases c3 : (q_osu (fun j => s (39000 + j)) 16 &&& (65535 : Int32)) = 256 * s (37000 + 4) + s (37000 + 5)
  · have c3' : (q_osu (fun j => s (39000 + j)) 16 &&& (65535 : Int32)) = 256 * s 37004 + s 37005 := c3
    rw [if_pos c3, if_neg q_n10, if_pos c3', ek, q_g k2 (by omega), q_onC (by omega), q_r k2]
    have cc : ∀ {A : Type} (K : Option A), pj_c 0 0 16 16 16 K = K := fun K => q_c (sp := 0) (dp := 0) (m := 16) (by omega) (by omega) (by omega) (by omega)
    have ce : pj_y (pj_u s 70 (-1)) (12000 + 16 * k + 0) 16 (pj_u s 70 (-1)) 39000 = q_cm k 0 (pj_u s 70 (-1)) := by
      funext w
      unfold q_cm
      by_cases d : 12000 + 16 * k + 0 ≤ w ∧ w < 12000 + 16 * k + 0 + 16
      · rw [q_y_at d, if_pos (by omega)]
        exact congrArg _ (by omega)
      · rw [q_y_out d, if_neg (by omega)]
    have sM := q_ld112 (fu := 1000) (l := l) (u := u) (v := v) k2 16 0 1000 (pj_u s 70 (-1)) (by omega) (by omega)
    have sM' : pl_X12_loaded_112 1000 1000 (Int32.ofNat k) 0 (pj_u s 70 (-1)) l u v = _ := sM
    rw [cc, ce, sM']
    clear sM sM' ce
    have out : ∀ w, ¬ w = 70 → ¬ (12000 ≤ w ∧ w < 12032) → q_cm k 0 (pj_u s 70 (-1)) w = s w := by
      intro w a1 a2
      unfold q_cm
      rw [if_neg (by omega), q_un a1]
    have m70 : q_cm k 0 (pj_u s 70 (-1)) 70 = -1 := by
      unfold q_cm
      rw [if_neg (by omega), q_ua]
    have rM : q_R (q_cm k 0 (pj_u s 70 (-1))) := by
      intro w
      unfold q_cm
      by_cases d : 12000 + 16 * k + 0 ≤ w ∧ w < 12000 + 16 * k + 16
      · rw [if_pos d, q_un (by omega)]
        have lj := ld c1 (w - (12000 + 16 * k)) (by omega) (by omega)
        have ic := q_icI lj
        have rg : q_rg w = if w < 12016 then (0, 20000) else (-100, 450) := by
          unfold q_rg
          rw [show w / 1000 = 12 by omega]
          rfl
        rw [rg]
        have kk : k = 0 ∨ k = 1 := by omega
        rcases kk with z | z
        · rw [if_pos (by omega)]
          exact ic.1 (by rw [ek, z]; rfl)
        · rw [if_neg (by omega)]
          exact ic.2 (by rw [ek, z]; decide)
      · rw [if_neg d]; exact q_R_u hr (by decide) w
    have J := q_I_70 (s' := q_cm k 0 (pj_u s 70 (-1))) (x' := x) (u' := u) hI h0 rM (fun w hw n _ => out w n (by unfold q_Ss at hw; omega)) (fun z => absurd m70 z) (fun z => absurd m70 z) (fun _ _ => rfl) (fun _ _ => rfl)
    generalize q_cm k 0 (pj_u s 70 (-1)) = M at out m70 rM J ⊢
    obtain ⟨r, S, X, V, hr01, e1, e2, I2, gS, gX1, gX2, gV, gX9, gX20⟩ := q_bookP J (by rw [out 94 (by omega) (by omega)]; exact h0) hW
    have S94' : S 94 = s 94 := by rw [gS 94 (by omega) (by omega), out 94 (by omega) (by omega)]
    have S95' : S 95 = s 95 := by rw [gS 95 (by omega) (by omega), out 95 (by omega) (by omega)]
    have S37 : S 37003 = s 37003 := by rw [gS _ (by omega) (by omega), out _ (by omega) (by omega)]
    have hKX : q_Kl X V := by
      unfold q_Kl at hK ⊢
      rw [gX1, gX2, gV]; exact hK
    have hSX : q_Sy 0 X u := ⟨by omega, by rw [gX20]; exact hS.2.1, hS.2.2.1, fun i hi => by omega⟩
    refine q_Sv_wr (r := r) (b := 119) (s 37003) hr01 I2 (by rw [S94']; exact h0) hKX (q_Af_s hA S94' S95') hSX S37 ?_ ?_
    · rw [e1, q_b]
      simp only [q_bI]
    · rw [e2]
      rcases hr01 with z | z
      · rw [if_pos z, if_pos z, q_b, if_pos rfl]
      · have n : ¬ r = 0 := by rw [z]; decide
        rw [if_neg n, if_neg n, q_b, if_neg q_n10]
  · have c3' : ¬ (q_osu (fun j => s (39000 + j)) 16 &&& (65535 : Int32)) = 256 * s 37004 + s 37005 := c3
    rw [if_neg c3, if_pos rfl, if_neg c3']
    have z := q_Sv_no (r := 114) (F := some (114, pj_u s 70 (-1), l, x, y)) (G := pf_X12_refuse 55 114 (pj_u s 70 (-1)) l u v) (q_I_mono J0 (show E ≤ E by omega) (show W ≤ W + 60 by omega)) (by rw [S94]; exact h0) hK (q_Af_s hA S94 (q_un (by omega))) q_Fx0 q_Fu0 (by decide) (by decide) rfl (by rw [q_un (by omega), hc])
    rw [q_un (show ¬ 37003 = 70 by omega)] at z
    exact z
-- 4
theorem q_S4 (h : q_S0 E W s l x y u v) (hc : s 37003 = 4) (hW : W + 60 < 2147483647) : q_Sv E (W + 60) (s 37003) (l 93) (pf_X11_serveClear s l x y) (pf_X12_plain 4 s l u v) := by
  obtain ⟨hI, h0, hK, hA, hS, h65⟩ := h
  have hr := hI.1
  have hI60 : q_I 0 E (W + 60) s l x y u v := q_I_mono hI (show E ≤ E by omega) (by omega)
  have sp := q_spd (s2 := s) (l2 := l) (u2 := u) (v2 := v) hI.2.2.2.1 rfl rfl
  unfold pf_X11_serveClear pf_X12_plain po_X12_plain pf_X12_wipe
  rw [if_neg (show ¬ (4 : Int32) = 129 by decide), if_neg (show ¬ (4 : Int32) = 130 by decide), if_neg (show ¬ (4 : Int32) = 62 by decide), if_pos rfl, q_bU, sp, q_b]
  simp only [q_bU]
  by_cases c1 : 0 < x 5
  · rw [if_pos c1, if_pos c1]
    exact q_Sv_no (r := 34) hI60 h0 hK hA q_Fx0 q_Fu0 (by decide) (by decide) rfl (by rw [hc])
  rw [if_neg c1, if_neg c1]
  -- the class
  obtain ⟨S1, X1, e1, z1, zx⟩ := q_rows8 (fu := 1000) (l := l) (y := y) 8 0 1000 s x (by omega) (by omega)
  have e1' : pf_X10_clearMarks s l x y = some ((), pj_u S1 87 0, l, X1, y) := e1
  obtain ⟨S2, e2, z2⟩ := q_fill5 (fu := 1000) (l := l) (x := X1) (y := y) 16 0 1000 (pj_u (pj_u S1 87 0) 43 0) (by omega) (by omega)
  have e2' : pf_J7_fill_53178_v5 0 (pj_u (pj_u S1 87 0) 43 0) l X1 y = some ((), S2, l, X1, y) := e2
  -- the reference
  obtain ⟨T1, g1, w1⟩ := q_t2 (fu := 1000) (l := l) (u := u) (v := v) 28 0 1000 s (by omega) (by omega)
  obtain ⟨T2, g2, w2⟩ := q_t82 (fu := 1000) (l := l) (u := u) (v := v) 16 0 1000 (pj_u (pj_u T1 87 0) 43 0) (by omega) (by omega)
  have g2' : pf_X12_forgetTrouble s l u v = some ((), T2, l, u, v) := g1.trans g2
  have ST : T1 = S1 := by
    funext w
    rw [w1 w, z1 w]
    by_cases d : 40000 ≤ w ∧ w < 40224
    · rw [if_pos (by simp; omega), if_pos (by simp; omega)]
    · rw [if_neg (by simp; omega), if_neg (by simp; omega)]
  have ST2 : T2 = S2 := by
    funext w
    rw [w2 w, z2 w, ST]
  have v2 : ∀ w, S2 w = if 9000 ≤ w ∧ w < 9016 then 0 else if w = 43 then 0 else if w = 87 then 0 else if 40000 ≤ w ∧ w < 40224 then 0 else s w := by
    intro w
    rw [z2 w]
    by_cases d : 9000 ≤ w ∧ w < 9016
    · rw [if_pos (by simp; omega), if_pos d]
      obtain ⟨i, rfl⟩ : ∃ i, w = 9000 + i := ⟨w - 9000, by omega⟩
      rw [q_rz_9000 (by omega)]
      rfl
    · rw [if_neg (by simp; omega), if_neg d]
      by_cases d2 : w = 43
      · rw [if_pos d2, d2, q_ua]
      · rw [if_neg d2, q_un d2]
        by_cases d3 : w = 87
        · rw [if_pos d3, d3, q_ua]
        · rw [if_neg d3, q_un d3, z1 w]
          by_cases d4 : 40000 ≤ w ∧ w < 40224
          · rw [if_pos (by simp; omega), if_pos d4]
            unfold q_rz q_rs
            rw [if_neg (by omega), if_neg (by omega), if_neg (by omega), if_neg (by omega), if_neg (by omega), if_neg (by omega), if_neg (by omega), if_neg (by omega), if_neg (by omega), if_neg (by omega), if_neg (by omega), if_pos (by omega)]
            rfl
          · rw [if_neg (by simp; omega), if_neg d4]
  rw [e1', q_b, e2', q_b, g2', q_b, ST2]
  clear e1 e1' e2 e2' g1 g2 g2' ST ST2 w1 w2 z1 z2
  have out : ∀ w, ¬ (9000 ≤ w ∧ w < 9016) → ¬ w = 43 → ¬ w = 87 → ¬ (40000 ≤ w ∧ w < 40224) → S2 w = s w := by
    intro w a1 a2 a3 a4
    rw [v2 w, if_neg a1, if_neg a2, if_neg a3, if_neg a4]
  have s87 : S2 87 = 0 := by rw [v2 87, if_neg (by omega), if_neg (by omega), if_pos rfl]
  have rS : q_R S2 := by
    intro w
    rw [v2 w]
    by_cases d : 9000 ≤ w ∧ w < 9016
    · rw [if_pos d]
      have g : q_rg w = (-100, 100) := by
        unfold q_rg
        rw [show w / 1000 = 9 by omega]
        rfl
      rw [g]; decide
    · rw [if_neg d]
      by_cases d2 : w = 43
      · rw [if_pos d2, d2]; decide
      · rw [if_neg d2]
        by_cases d3 : w = 87
        · rw [if_pos d3, d3]; decide
        · rw [if_neg d3]
          by_cases d4 : 40000 ≤ w ∧ w < 40224
          · rw [if_pos d4]
            obtain ⟨r, k, h8, h28, ew⟩ : ∃ r k, r < 8 ∧ k < 28 ∧ w = 40000 + 28 * r + k := ⟨(w - 40000) / 28, (w - 40000) % 28, by omega, by omega, by omega⟩
            rw [ew, q_rgT h8 h28]
            split
            · decide
            · split <;> decide
          · rw [if_neg d4]; exact hr w
  have xo : ∀ w, (w < 8000 ∨ 8008 ≤ w) → X1 w = x w := by
    intro w hw
    rw [zx w, if_neg (by simp; omega)]
  have xi : ∀ i, i < 8 → X1 (8000 + i) = 0 := by
    intro i hi
    rw [zx _, if_pos (by simp; omega), q_zx_8000 hi]
    rfl
  have J := q_I_fm (s' := S2) (x' := X1) (u' := u) hI h0 rS ⟨fun z => absurd s87 z, fun _ i hi => xi i hi⟩ (fun w hw n => out w (by unfold q_Ss at hw; omega) (by unfold q_Ss at hw; omega) n (by unfold q_Ss at hw; omega)) (fun w _ hw => xo w hw) (fun _ _ _ => rfl)
  obtain ⟨r, S, X, V, hr01, e1, e2, I2, gS, gX1, gX2, gV, gX9, gX20⟩ := q_storeP J (by rw [out 94 (by omega) (by omega) (by omega) (by omega)]; exact h0) hW
  have S94' : S 94 = s 94 := by rw [gS 94 (by omega) (by omega), out 94 (by omega) (by omega) (by omega) (by omega)]
  have S95' : S 95 = s 95 := by rw [gS 95 (by omega) (by omega), out 95 (by omega) (by omega) (by omega) (by omega)]
  have S37 : S 37003 = s 37003 := by rw [gS _ (by omega) (by omega), out _ (by omega) (by omega) (by omega) (by omega)]
  have hKX : q_Kl X V := by
    unfold q_Kl at hK ⊢
    rw [gX1, gX2, gV, xo 1 (by omega), xo 2 (by omega)]; exact hK
  have hSX : q_Sy 0 X u := ⟨by omega, by rw [gX20, xo 20 (by omega)]; exact hS.2.1, hS.2.2.1, fun i hi => by omega⟩
  refine q_Sv_wr (r := r) (b := 68) (s 37003) hr01 I2 (by rw [S94']; exact h0) hKX (q_Af_s hA S94' S95') hSX S37 ?_ ?_
  · rw [e1, q_b]
    simp only [q_bI]
  · rw [e2]
    rcases hr01 with z | z
    · rw [if_pos z, if_pos z, q_b, if_pos rfl]
    · have n : ¬ r = 0 := by rw [z]; decide
      rw [if_neg n, if_neg n, q_b, if_neg q_n10]
-- 3, 7
theorem q_codeL {c : Nat} {a1 : Int32} (hc : (c = 3 ∧ a1 = 3) ∨ (c = 2 ∧ a1 = 7)) : ∀ (m i f n : Nat) (x u : Nat → Int32), i + m = 28 → m < f → n ≤ 1 + 2 * i → q_Sy n x u → ∃ n' x' u', pl_X11_serveCodes_11 fu f (Int32.ofNat c) (Int32.ofNat i) s l x y = some (0, s, l, x', y) ∧ pl_X12_plain_115 fu f a1 (Int32.ofNat i) s l u v = some ((), s, l, u', v) ∧ n ≤ n' ∧ q_Sy n' x' u' ∧ q_Fx x x' ∧ q_Fu u u' := by
  intro m
  induction m with
  | zero =>
    intro i f n x u hi hf hn hS
    have : i = 28 := by omega
    subst this
    obtain ⟨f, rfl⟩ : ∃ f9, f = f9 + 1 := ⟨f - 1, by omega⟩
    have e : ¬ Int32.ofNat 28 < 28 := by decide
    exact ⟨n, x, u, by rw [pl_X11_serveCodes_11, if_neg e], by rw [pl_X12_plain_115, if_neg e], by omega, hS, q_Fx0, q_Fu0⟩
  | succ m ih =>
    intro i f n x u hi hf hn hS
    obtain ⟨f, rfl⟩ : ∃ f9, f = f9 + 1 := ⟨f - 1, by omega⟩
    have e : Int32.ofNat i < 28 := by rw [q_onltL (by omega) (by omega)]; omega
    have c8 : c < 8 := by omega
    have ej : Int32.ofNat i + 1 = Int32.ofNat (i + 1) := q_onaL i 1
    have R : pl_X12_plain_115 fu (f + 1) a1 (Int32.ofNat i) s l u v = (if s (40000 + 28 * c + i) = 0 then pl_X12_plain_115 fu f a1 (Int32.ofNat (i + 1)) s l u v else pl_X12_plain_147 fu (pl_X12_plain_115 fu f) a1 (Int32.ofNat i) s l u v) := by
      rw [pl_X12_plain_115, if_pos e]
      unfold pl_X12_plain_155
      rw [ej]
      rcases hc with ⟨z1, z2⟩ | ⟨z1, z2⟩
      · subst z1; subst z2
        rw [if_pos rfl, q_g (by omega) (by omega), q_onC (by omega)]
      · subst z1; subst z2
        rw [if_neg (by decide), q_g (by omega) (by omega), q_onC (by omega)]
    rw [R, pl_X11_serveCodes_11, if_pos e, q_g c8 (by omega), q_onC (show c < 2147483648 by omega), q_r c8, q_g (by omega) (by omega), q_onC (show i < 2147483648 by omega)]
    unfold pl_X11_serveCodes_44
    rw [ej]
    by_cases d : s (40000 + 28 * c + i) = 0
    · rw [if_pos d, if_pos d]
      exact ih (i + 1) f n x u (by omega) (by omega) (by omega) hS
    · rw [if_neg d, if_neg d]
      unfold pl_X12_plain_147 pl_X12_plain_155 pf_X10_codeOf pf_X12_codeOf
      have K : ∀ q : Int32, ∃ n' x' u', pj_b (some (q, s, l, x, y)) (fun r1 s1 l1 x1 y1 => pj_b (pf_X8_sayTwo r1.toInt64 s1 l1 x1 y1) (fun r2 s2 l2 x2 y2 => pl_X11_serveCodes_11 fu f (Int32.ofNat c) (Int32.ofNat (i + 1)) s2 l2 x2 y2)) = some (0, s, l, x', y) ∧ pj_b (some (q, s, l, u, v)) (fun r1 s1 l1 x1 y1 => pj_b (pf_X12_two r1 s1 l1 x1 y1) (fun r2 s2 l2 x2 y2 => pl_X12_plain_115 fu f a1 (Int32.ofNat i + 1) s2 l2 x2 y2)) = some ((), s, l, u', v) ∧ n ≤ n' ∧ q_Sy n' x' u' ∧ q_Fx x x' ∧ q_Fu u u' := by
        intro q
        obtain ⟨x1, u1, f1, g1, s1, a1', b1⟩ := q_two2 (s := s) (l := l) (y := y) (v := v) (q := q.toInt64) (b := q) hS (by omega) (q_64and _)
        obtain ⟨n', x2, u2, f2, g2, hn', s2, a2, b2⟩ := ih (i + 1) f (n + 2) x1 u1 (by omega) (by omega) (by omega) s1
        refine ⟨n', x2, u2, ?_, ?_, by omega, s2, q_Fx_t a1' a2, q_Fu_t b1 b2⟩
        · rw [q_b, f1, q_b, f2]
        · rw [q_b, g1, q_b, ej, g2]
      by_cases d2 : Int32.ofNat i < 20
      · rw [if_pos d2, if_pos d2]
        exact K _
      · rw [if_neg d2, if_neg d2]
        exact K _
theorem q_S37 (h : q_S0 E W s l x y u v) {c : Nat} {a1 b : Int32} (hc : (c = 3 ∧ a1 = 3) ∨ (c = 2 ∧ a1 = 7)) (hb : b = a1 + 64) : q_Sv E W (s 37003) (l 93) (pf_X11_serveCodes b (Int32.ofNat c) s l x y) (pf_X12_plain a1 s l u v) := by
  obtain ⟨hI, h0, hK, hA, hS, h65⟩ := h
  obtain ⟨x1, u1, f1, g1, s1, a2, b1⟩ := q_say (s := s) (l := l) (y := y) (v := v) (a := b) (b := a1 + 64) hS (by omega) (by rw [hb])
  obtain ⟨n', x2, u2, f2, g2, hn, s2, a3, b2⟩ := q_codeL (fu := 1000) (s := s) (l := l) (y := y) (v := v) hc 28 0 1000 1 x1 u1 (by omega) (by omega) (by omega) s1
  have f2' : pl_X11_serveCodes_11 1000 1000 (Int32.ofNat c) 0 s l x1 y = some (0, s, l, x2, y) := f2
  have g2' : pl_X12_plain_115 1000 1000 a1 0 s l u1 v = some ((), s, l, u2, v) := g2
  refine q_Sv_ok hI h0 hK hA (q_Fx_t a2 a3) (q_Fu_t b1 b2) s2 (by omega) ?_ ?_
  · unfold pf_X11_serveCodes po_X11_serveCodes
    rw [f1, q_b, f2']
  · unfold pf_X12_plain po_X12_plain
    have n1 : ¬ a1 = 129 ∧ ¬ a1 = 130 ∧ ¬ a1 = 62 ∧ ¬ a1 = 4 := by
      rcases hc with ⟨-, z⟩ | ⟨-, z⟩ <;> rw [z] <;> decide
    rw [if_neg n1.1, if_neg n1.2.1, if_neg n1.2.2.1, if_neg n1.2.2.2, g1, q_b, g2']
end QSU

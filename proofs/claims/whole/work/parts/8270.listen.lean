/-! PURE: the TESTER: bytes are heard -/
section QLI
variable {s x u s' x' u' x2 u2 : Nat → Int32} {l y v l' y' v' : Nat → Int64} {D E W : Int} {fu f k n m : Nat} {t : Int64} {a b d e p r c : Int32}
theorem q_sayC (h : x 20 = Int32.ofNat n) (hn : n < 63) : pf_X8_say a s l x y = some (0, s, l, pj_u (pj_u x (9000 + n) (a &&& (255 : Int32))) 20 (Int32.ofNat (n + 1)), y) := by
  unfold pf_X8_say
  have c : x 20 < 63 := by rw [h, q_onltL (by omega) (by omega)]; omega
  rw [if_pos c, h, q_g (by omega) (by omega), q_onC (by omega), q_un (by omega), h, show Int32.ofNat n + 1 = Int32.ofNat (n + 1) from q_onaL n 1]
/-- what was served goes out -/
theorem q_sentP {F : Option (Int32 × pj_Z)} {G : Option (Unit × pj_Z)} (h : q_Sv E W c t F G) : q_Lp E W t (pj_b F (fun r3 s3 l3 x3 y3 => (if r3 = (-1) then some ((), s3, l3, x3, y3) else pj_b (pf_X8_reply r3 s3 l3 x3 y3) (fun r4 s4 l4 x4 y4 => some ((), s4, l4, x4, y4))))) (pj_b G (fun _ s l x y => pl_X12_handle_348 s l x y)) := by
  obtain ⟨r, s', l', x', y', u', v', hF, hG, hI, hK, hA, ht, hc⟩ := h
  rw [hF, hG, q_b, q_b]
  unfold pl_X12_handle_348
  simp only [q_bU]
  rcases hc with ⟨z, u19⟩ | ⟨n1, h0, h37, hz⟩
  · rw [if_pos z]
    have e : pf_X12_send s' l' u' v' = some ((), s', l', u', v') := by
      unfold pf_X12_send po_X12_send
      rw [if_pos u19]
    rw [e]
    exact ⟨_, _, _, _, _, _, rfl, rfl, hI, hK, hA, ht⟩
  · rw [if_neg n1]
    have fin : ∀ (X : Nat → Int32) (n : Nat), 1 ≤ n → q_Sy n X u' → q_Fx x' X → q_Lp E W t (pl_X8_reply_33 1000 s' l' X y') (pf_X12_send s' l' u' v') := by
      intro X n hn hS fx
      obtain ⟨S, e1, e2, rS, out⟩ := q_answP (l := l') (y := y') (v := v') hI.1 hS hn
      rw [e1, e2]
      have J := q_I_sy hI h0 fx q_Fu0
      have J2 := q_I_s (s' := S) J h0 rS (fun w hw => out w (by unfold q_Ss at hw; omega) (by unfold q_Ss at hw; omega))
      exact ⟨_, _, _, _, _, _, rfl, rfl, J2, q_Kl_x hK fx, q_Af_s hA (out _ (by omega) (by omega)) (out _ (by omega) (by omega)), ht⟩
    unfold pf_X8_reply po_X8_reply
    rcases hz with ⟨z, n, hn, hS⟩ | ⟨z, hZ⟩
    · rw [if_pos z]
      exact fin x' n hn hS q_Fx0
    · have z0 : pj_u x' 20 0 20 = Int32.ofNat 0 := q_ua
      rw [if_neg z, q_sayC (n := 0) z0 (by omega), q_b, q_sayC (n := 1) q_ua (by omega), q_b, q_sayC (n := 2) q_ua (by omega), q_b]
      refine fin _ 3 (by omega) ⟨by omega, q_ua, hZ.1, ?_⟩ ?_
      · intro i hi
        have b0 : (127 : Int32) &&& (255 : Int32) = 127 := rfl
        have i3 : i = 0 ∨ i = 1 ∨ i = 2 := by omega
        rcases i3 with w | w | w
        · subst w
          simp (disch := omega) only [q_un, q_ua]
          rw [b0]
          exact ⟨hZ.2.1.symm, by decide, by decide⟩
        · subst w
          simp (disch := omega) only [q_un, q_ua]
          rw [h37]
          exact ⟨hZ.2.2.1.symm, (q_byI _).1, (q_byI _).2⟩
        · subst w
          simp (disch := omega) only [q_un, q_ua]
          exact ⟨hZ.2.2.2.symm, (q_byI _).1, (q_byI _).2⟩
      · intro w p q r
        simp (disch := omega) only [q_un]
-- the row
theorem q_hrC {L : Nat → Int32} (hm : m < 67) (hL : ∀ j, j < 67 → L j = s (37000 + j)) : ∀ (j i f : Nat), i + j = m → j < f → pl_X8_hasRequest_16 fu f (Int32.ofNat m) (q_osu L i) (Int32.ofNat i) s l x y = pl_X8_hasRequest_45 fu (Int32.ofNat m) (q_osu L m) s l x y := by
  intro j
  induction j with
  | zero =>
    intro i f hi hf
    have : i = m := by omega
    subst this
    obtain ⟨f, rfl⟩ : ∃ f9, f = f9 + 1 := ⟨f - 1, by omega⟩
    have e : ¬ Int32.ofNat i < Int32.ofNat i := by rw [q_onlt (by omega) (by omega)]; omega
    rw [pl_X8_hasRequest_16, if_neg e]
  | succ j ih =>
    intro i f hi hf
    obtain ⟨f, rfl⟩ : ∃ f9, f = f9 + 1 := ⟨f - 1, by omega⟩
    have e : Int32.ofNat i < Int32.ofNat m := by rw [q_onlt (by omega) (by omega)]; omega
    have e2 : Int32.ofNat i < 67 := by rw [q_onltL (by omega) (by omega)]; omega
    rw [pl_X8_hasRequest_16, if_pos e, if_pos e2, q_g (by omega) (by omega), q_onC (by omega), ← hL i (by omega), show Int32.ofNat i + 1 = Int32.ofNat (i + 1) from q_onaL i 1]
    exact ih (i + 1) f (by omega) (by omega)
theorem q_hdR {L : Nat → Int32} {k : Nat} (hk : k < 64) (hL : ∀ j, j < 67 → L j = s (37000 + j)) : ∀ (j i f : Nat), i + j = k + 3 → j < f → pl_X12_heard_122 fu f (Int32.ofNat k) (q_osu L i) (Int32.ofNat i) s l u v = (if (q_osu L (k + 3) &&& (255 : Int32)) = s (37000 + (k + 3)) then (if s 37000 < 192 then pl_X12_heard_205 fu (Int32.ofNat k) (s 37001) 17 (pj_u s 62 0) l u v else pl_X12_heard_205 fu (Int32.ofNat k) (s 37001) 51 (pj_u s 62 0) l u v) else some ((), (pj_u (pj_u s 62 0) 66 (s 66 + 1)), l, u, v)) := by
  have ek : Int32.ofNat k + 3 = Int32.ofNat (k + 3) := q_onaL k 3
  intro j
  induction j with
  | zero =>
    intro i f hi hf
    have : i = k + 3 := by omega
    subst this
    obtain ⟨f, rfl⟩ : ∃ f9, f = f9 + 1 := ⟨f - 1, by omega⟩
    have e : ¬ Int32.ofNat (k + 3) < Int32.ofNat (k + 3) := by rw [q_onlt (by omega) (by omega)]; omega
    rw [pl_X12_heard_122, ek, if_neg e, q_g (by omega) (by omega), q_onC (by omega), q_un (by omega)]
  | succ j ih =>
    intro i f hi hf
    obtain ⟨f, rfl⟩ : ∃ f9, f = f9 + 1 := ⟨f - 1, by omega⟩
    have e : Int32.ofNat i < Int32.ofNat (k + 3) := by rw [q_onlt (by omega) (by omega)]; omega
    rw [pl_X12_heard_122, ek, if_pos e, q_g (by omega) (by omega), q_onC (by omega), ← hL i (by omega), show Int32.ofNat i + 1 = Int32.ofNat (i + 1) from q_onaL i 1]
    exact ih (i + 1) f (by omega) (by omega)
theorem q_rem8 (h : 0 ≤ a.toInt) : pj_rem a 256 = a &&& (255 : Int32) := by
  have e := q_remI (a := a) (b := 256) h (by decide)
  have o : (256 : Int32).toInt = 256 := rfl
  rw [o] at e
  have e2 : (a &&& (255 : Int32)).toBitVec.toNat = a.toBitVec.toNat % 256 := by
    rw [Int32.toBitVec_and, BitVec.toNat_and]
    show a.toBitVec.toNat &&& 255 = _
    rw [show (255 : Nat) = 2 ^ 8 - 1 by rfl, Nat.and_two_pow_sub_one_eq_mod]
  have e3 : (a &&& (255 : Int32)).toInt = (a &&& (255 : Int32)).toBitVec.toInt := rfl
  have e4 : a.toInt = a.toBitVec.toInt := rfl
  rw [← Int32.toInt_inj, e, e3, BitVec.toInt_eq_toNat_cond, e2]
  rw [e4, BitVec.toInt_eq_toNat_cond] at h ⊢
  split at h <;> split <;> omega
theorem q_osuI {L : Nat → Int32} (hL : ∀ j, j < 67 → 0 ≤ (L j).toInt ∧ (L j).toInt ≤ 255) : ∀ m : Nat, m ≤ 67 → 0 ≤ (q_osu L m).toInt ∧ (q_osu L m).toInt ≤ 255 * m := by
  intro m
  induction m with
  | zero => intro _; show 0 ≤ (0 : Int32).toInt ∧ (0 : Int32).toInt ≤ 255 * ((0 : Nat) : Int); decide
  | succ m ih =>
    intro hm
    have i := ih (by omega)
    have j := hL m (by omega)
    have e : (q_osu L m + L m).toInt = (q_osu L m).toInt + (L m).toInt := q_add (by omega) (by omega)
    show 0 ≤ (q_osu L m + L m).toInt ∧ (q_osu L m + L m).toInt ≤ 255 * ((m + 1 : Nat) : Int)
    rw [e]
    omega
theorem q_nz (h1 : 0 ≤ b.toInt) (h2 : b.toInt ≤ 255) : (b < 128 ∨ b &&& (63 : Int32) = 0) ↔ (¬ 128 < b ∨ b = 192) := by
  have H : ∀ i : Nat, i < 256 → ((Int32.ofNat i < 128 ∨ Int32.ofNat i &&& (63 : Int32) = 0) ↔ (¬ 128 < Int32.ofNat i ∨ Int32.ofNat i = 192)) := by decide +kernel
  obtain ⟨i, rfl, hi, -⟩ := q_nat h1
  exact H i (by omega)
theorem q_and63 (a : Int32) : ∃ k : Nat, k < 64 ∧ a &&& (63 : Int32) = Int32.ofNat k := by
  refine ⟨a.toBitVec.toNat % 64, by omega, ?_⟩
  apply q_inj
  apply BitVec.eq_of_toNat_eq
  have e2 : (a &&& (63 : Int32)).toBitVec.toNat = a.toBitVec.toNat % 64 := by
    rw [Int32.toBitVec_and, BitVec.toNat_and]
    show a.toBitVec.toNat &&& 63 = _
    rw [show (63 : Nat) = 2 ^ 6 - 1 by rfl, Nat.and_two_pow_sub_one_eq_mod]
  rw [e2]
  show _ = a.toBitVec.toNat % 64 % 2 ^ 32
  omega
/-- the row's size is put to 0 -/
theorem q_I_62 (hI : q_I 0 E W s l x y u v) (h0 : ¬ s 94 = 0) : q_I 0 E W (pj_u s 62 0) l x y u v := by
  have hx := hI.2.2.2.2.2.2.2.2.2.2.2.2.1.2
  have hf := hI.2.2.2.2.2.2.1
  obtain ⟨f1, f2, f3, f4, f5, f6, f7⟩ := hf
  refine q_I_x hI h0 (q_R_u hI.1 (by decide)) ?_ ⟨f1, by rw [q_un (by omega)]; exact f2, by rw [q_un (by omega)]; exact f3, by rw [q_un (by omega)]; exact f4, (fun z => absurd z (by rw [q_ua]; decide)), f6, f7⟩ (fun w _ n => q_un (by omega))
  unfold q_Ex at hx ⊢
  rw [q_ua, q_Ld_c (s := s) (x' := x) (x := x) (q_un (by omega)) (fun j _ => q_un (by omega)) rfl]
  simp (disch := omega) only [q_un]
  exact ⟨hx.1, hx.2.1, hx.2.2.1, hx.2.2.2.1, hx.2.2.2.2.1, hx.2.2.2.2.2.1, fun z => absurd z (by decide), hx.2.2.2.2.2.2.2⟩
/-- a byte comes now -/
theorem q_I_18 (hI : q_I 0 E W s l x y u v) (h0 : ¬ s 94 = 0) : q_I 0 E W s l x (pj_u y 18 (l 93)) u (pj_u v 17 (l 93)) := by
  obtain ⟨f1, f2, f3, f4, f5, f6, f7⟩ := hI.2.2.2.2.2.2.1
  have ht := hI.2.2.1.2.2.2.2
  exact q_I_g hI h0 hI.1 ⟨f1, f2, f3, f4, (fun _ => by rw [q_ua, q_ua]; exact ⟨rfl, ht.1, by omega⟩), (by rw [q_ua]; exact ⟨ht.1, by omega⟩), f7⟩ (fun _ _ _ => rfl) (fun _ _ _ => rfl) (fun w n => q_un n) (fun _ _ _ => rfl) (fun w n => q_un n) id
theorem q_rg37 {i : Nat} (hi : i < 1000) : q_rg (37000 + i) = (0, 255) := by
  unfold q_rg
  rw [show (37000 + i) / 1000 = 37 by omega]
  rfl
/-- the row has one byte more (or none at all) -/
theorem q_I_rw (hI : q_I 0 E W s l x y u v) (h0 : ¬ s 94 = 0) (hm : m < 67) (hb : 0 ≤ b.toInt ∧ b.toInt ≤ 255) {k : Nat} (hk : k ≤ 66) (hkk : 0 < k → (k : Int) < ((pj_u s (37000 + m) b) 37000 &&& (63 : Int32)).toInt + 4) (hy : y 18 = v 17) : q_I 0 E W (pj_u (pj_u s (37000 + m) b) 62 (Int32.ofNat k)) l x y u v := by
  have hx := hI.2.2.2.2.2.2.2.2.2.2.2.2.1.2
  obtain ⟨f1, f2, f3, f4, f5, f6, f7⟩ := hI.2.2.2.2.2.2.1
  have g : ∀ w, ¬ w = 62 → ¬ (37000 ≤ w ∧ w < 37067) → pj_u (pj_u s (37000 + m) b) 62 (Int32.ofNat k) w = s w := fun w p q => by rw [q_un p, q_un (by omega)]
  refine q_I_x hI h0 (q_R_u (q_R_u hI.1 (by rw [q_rg37 (by omega)]; exact hb)) (by rw [q_onI (by omega)]; exact (show (0 : Int) ≤ ((k : Nat) : Int) ∧ ((k : Nat) : Int) ≤ 66 by omega))) ?_ ⟨f1, by rw [g 40 (by omega) (by omega)]; exact f2, by rw [g 67 (by omega) (by omega)]; exact f3, by rw [g 70 (by omega) (by omega)]; exact f4, fun _ => ⟨hy, f6.1, f6.2⟩, f6, f7⟩ (fun w hw n => g w (by omega) (by unfold q_Ss at hw; omega))
  unfold q_Ex at hx ⊢
  rw [q_Ld_c (s := s) (x' := x) (x := x) (g 70 (by omega) (by omega)) (fun j _ => g _ (by omega) (by omega)) rfl, g 54 (by omega) (by omega), g 7 (by omega) (by omega), g 8 (by omega) (by omega), g 6 (by omega) (by omega), g 94 (by omega) (by omega), g 95 (by omega) (by omega), g 63 (by omega) (by omega), g 65 (by omega) (by omega), g 3 (by omega) (by omega), g 4 (by omega) (by omega), g 44 (by omega) (by omega), q_ua, q_un (show ¬ 37000 = 62 by omega), q_onI (by omega)]
  exact ⟨hx.1, hx.2.1, hx.2.2.1, hx.2.2.2.1, hx.2.2.2.2.1, hx.2.2.2.2.2.1, fun z => hkk (by omega), hx.2.2.2.2.2.2.2⟩
theorem q_Lp_m {F G : Option (Unit × pj_Z)} (h : q_Lp E W t F G) : q_Lp E (W + 60) t F G := by
  obtain ⟨s', l', x', y', u', v', a, b, hI, z⟩ := h
  exact ⟨s', l', x', y', u', v', a, b, q_I_mono hI (by omega) (by omega), z⟩
/-- a REQUEST's last byte -/
theorem q_heardP (hI : q_I 0 E W s l x y u v) (h0 : ¬ s 94 = 0) (hK : q_Kl x v) (hA : q_Af s) (hW : W + 60 < 2147483647) {k : Nat} (hk : k < 64) (ek : s 37000 &&& (63 : Int32) = Int32.ofNat k) (R : Nat → Int32) (hR : ∀ w, ¬ w = 62 → R w = s w) (h62 : R 62 = Int32.ofNat (k + 4)) (hs62 : s 62 = 0) : q_Lp E (W + 60) (l 93) (pj_b (pf_X8_hasRequest R l x y) (fun r2 s2 l2 x2 y2 => (if r2 = 0 then some ((), s2, l2, x2, y2) else pj_b (pf_X11_serve (pj_u s2 65 0) l2 (pj_u x2 20 0) y2) (fun r3 s3 l3 x3 y3 => (if r3 = (-1) then some ((), s3, l3, x3, y3) else pj_b (pf_X8_reply r3 s3 l3 x3 y3) (fun r4 s4 l4 x4 y4 => some ((), s4, l4, x4, y4))))))) (pl_X12_heard_122 1000 1000 (Int32.ofNat k) 0 0 R l u v) := by
  have hr := hI.1
  have R62 : pj_u R 62 0 = s := by
    funext w
    by_cases c : w = 62
    · rw [c, q_ua, hs62]
    · rw [q_un c, hR w c]
  have Lr : ∀ j, j < 67 → 0 ≤ ((fun j => s (37000 + j)) j).toInt ∧ ((fun j => s (37000 + j)) j).toInt ≤ 255 := fun j hj => q_row hr (by omega)
  have e1 : Int32.ofNat (k + 4) - 1 = Int32.ofNat (k + 3) := by
    rw [← show Int32.ofNat (k + 3) + 1 = Int32.ofNat (k + 4) from q_onaL (k + 3) 1, Int32.add_sub_cancel]
  have hC : pf_X8_hasRequest R l x y = pl_X8_hasRequest_45 1000 (Int32.ofNat (k + 3)) (q_osu (fun j => s (37000 + j)) (k + 3)) s l x y := by
    unfold pf_X8_hasRequest po_X8_hasRequest
    rw [h62, e1, R62]
    exact q_hrC (fu := 1000) (L := fun j => s (37000 + j)) (by omega) (fun j hj => rfl) (k + 3) 0 1000 (by omega) (by omega)
  have hD := q_hdR (fu := 1000) (s := R) (l := l) (u := u) (v := v) (L := fun j => s (37000 + j)) hk (fun j hj => (hR _ (by omega)).symm) (k + 3) 0 1000 (by omega) (by omega)
  have hD' : pl_X12_heard_122 1000 1000 (Int32.ofNat k) 0 0 R l u v = _ := hD
  rw [hC, hD', hR _ (show ¬ 37000 + (k + 3) = 62 by omega), hR _ (show ¬ 37000 = 62 by omega), hR _ (show ¬ 37001 = 62 by omega), hR _ (show ¬ 66 = 62 by omega), R62]
  clear hC hD hD'
  have su := q_osuI Lr (k + 3) (by omega)
  unfold pl_X8_hasRequest_45 pl_X8_hasRequest_72
  have a1 : ¬ Int32.ofNat (k + 3) < 0 := q_onnn (by omega)
  have a2 : Int32.ofNat (k + 3) < 67 := by rw [q_onltL (by omega) (by omega)]; omega
  rw [if_neg a1, if_pos a2, q_g (by omega) (by omega), q_onC (by omega), q_rem8 su.1]
  by_cases c1 : s (37000 + (k + 3)) = q_osu (fun j => s (37000 + j)) (k + 3) &&& (255 : Int32)
  · rw [if_pos c1, if_pos c1.symm]
    unfold pl_X8_hasRequest_109 pl_X8_hasRequest_131 pl_X12_heard_205 pf_X12_handle
    simp only [q_bU]
    obtain ⟨G, g1, g2⟩ := q_handle hI h0 hK hA hW
    rw [ek] at g1
    have sent := q_sentP g2
    rw [← g1] at sent
    have idle : q_Lp E (W + 60) (l 93) (some ((), s, l, x, y)) (some ((), s, l, u, v)) := ⟨_, _, _, _, _, _, rfl, rfl, q_I_mono hI (by omega) (by omega), hK, hA, rfl⟩
    have T : ∀ q : Int32, q_Lp E (W + 60) (l 93) (pj_b (if s 37001 = q then (if s 63 = 0 then (if s 37003 = 129 then some ((1 : Int32), s, l, x, y) else some (0, s, l, x, y)) else some (1, s, l, x, y)) else some (0, s, l, x, y)) (fun r2 s2 l2 x2 y2 => (if r2 = 0 then some ((), s2, l2, x2, y2) else pj_b (pf_X11_serve (pj_u s2 65 0) l2 (pj_u x2 20 0) y2) (fun r3 s3 l3 x3 y3 => (if r3 = (-1) then some ((), s3, l3, x3, y3) else pj_b (pf_X8_reply r3 s3 l3 x3 y3) (fun r4 s4 l4 x4 y4 => some ((), s4, l4, x4, y4))))))) (if s 37001 = q then (if s 63 = 0 then (if s 37003 = 129 then pl_X12_handle_22 (Int32.ofNat k) (s 37003) s l u v else some ((), s, l, u, v)) else pl_X12_handle_22 (Int32.ofNat k) (s 37003) s l u v) else some ((), s, l, u, v)) := by
      intro q
      by_cases c2 : s 37001 = q
      · rw [if_pos c2, if_pos c2]
        by_cases c3 : s 63 = 0
        · rw [if_pos c3, if_pos c3]
          by_cases c4 : s 37003 = 129
          · rw [if_pos c4, if_pos c4, q_b, if_neg q_n10]; exact sent
          · rw [if_neg c4, if_neg c4, q_b, if_pos rfl]; exact idle
        · rw [if_neg c3, if_neg c3, q_b, if_neg q_n10]; exact sent
      · rw [if_neg c2, if_neg c2, q_b, if_pos rfl]; exact idle
    simp only [q_bU] at T
    by_cases c5 : s 37000 < 192
    · rw [if_pos c5, if_pos c5]; exact T 17
    · rw [if_neg c5, if_neg c5]; exact T 51
  · rw [if_neg c1, if_neg (fun z => c1 z.symm), q_b, if_pos rfl]
    refine ⟨_, _, _, _, _, _, rfl, rfl, q_I_mono (q_I_s hI h0 (q_R_u hr q_R_any) (fun w hw => q_un (by unfold q_Ss at hw; omega))) (show E ≤ E by omega) (show W ≤ W + 60 by omega), hK, q_Af_s hA (q_un (by omega)) (q_un (by omega)), rfl⟩
/-- one byte is heard -/
theorem q_listenP (hI : q_I 0 E W s l x y u v) (hK : q_Kl x v) (hA : q_Af s) (hb : 0 ≤ b.toInt ∧ b.toInt ≤ 255) (hW : W + 60 < 2147483647) : q_Lp E (W + 60) (l 93) (pf_X11_listen b s l x y) (pf_X12_heard b s l u v) := by
  unfold pf_X11_listen pf_X12_heard po_X12_heard
  by_cases h0 : s 94 = 0
  · rw [if_pos h0, if_pos h0]
    exact ⟨_, _, _, _, _, _, rfl, rfl, q_I_mono hI (by omega) (by omega), hK, hA, rfl⟩
  rw [if_neg h0, if_neg h0]
  have r62 : 0 ≤ (s 62).toInt ∧ (s 62).toInt ≤ 66 := hI.1 62
  have o0 : (0 : Int32).toInt = 0 := rfl
  -- the same row on both sides
  obtain ⟨S, eC, eR, J, gS⟩ : ∃ S, pf_X8_take b (l 93) s l x y = pl_X8_take_18 b (l 93) S l x y ∧ (if 0 < s 62 then (if 20000 < (l 93 - v 17) then pl_X12_heard_36 1000 b (pj_u s 62 0) l u v else pl_X12_heard_36 1000 b s l u v) else pl_X12_heard_36 1000 b s l u v) = pl_X12_heard_36 1000 b S l u v ∧ q_I 0 E W S l x y u v ∧ ∀ w, ¬ w = 62 → S w = s w := by
    unfold pf_X8_take
    by_cases c : 0 < s 62
    · rw [if_pos c]
      have c' := c
      rw [Int32.lt_iff_toInt_lt, o0] at c'
      have yv := (hI.2.2.2.2.2.2.1.2.2.2.2.1 c').1
      rw [yv]
      by_cases d : 20000 < l 93 - v 17
      · rw [if_pos d, if_pos d]
        exact ⟨pj_u s 62 0, rfl, rfl, q_I_62 hI h0, fun w n => q_un n⟩
      · rw [if_neg d, if_neg d]
        exact ⟨s, rfl, rfl, hI, fun _ _ => rfl⟩
    · have z : s 62 = 0 := by
        rw [Int32.lt_iff_toInt_lt, o0] at c
        rw [← Int32.toInt_inj, o0]
        omega
      rw [if_neg c, q_uv z]
      refine ⟨s, ?_, rfl, hI, fun _ _ => rfl⟩
      split <;> rfl
  rw [eC, eR]
  clear eC eR
  have S94 : ¬ S 94 = 0 := by rw [gS 94 (by omega)]; exact h0
  have AS : q_Af S := q_Af_s hA (gS 94 (by omega)) (gS 95 (by omega))
  have J2 := q_I_18 J S94
  have hK2 : q_Kl x (pj_u v 17 (l 93)) := by
    unfold q_Kl at hK ⊢
    rw [q_un (by omega)]; exact hK
  have hy : pj_u y 18 (l 93) 18 = pj_u v 17 (l 93) 17 := by rw [q_ua, q_ua]
  have rS : 0 ≤ (S 62).toInt ∧ (S 62).toInt ≤ 66 := J.1 62
  obtain ⟨m, em, hm, -⟩ := q_nat rS.1
  have m66 : m ≤ 66 := by omega
  generalize hY : pj_u y 18 (l 93) = Y at J2 hy
  generalize hV : pj_u v 17 (l 93) = V at J2 hK2 hy
  -- a byte goes into the row
  have main : (m = 0 → ¬ (b < 128 ∨ b &&& (63 : Int32) = 0)) → q_Lp E (W + 60) (l 93) (pj_b (pl_X8_take_56 b S l x Y) (fun r1 s1 l1 x1 y1 => (if r1 = 0 then some ((), s1, l1, x1, y1) else pj_b (pf_X8_hasRequest s1 l1 x1 y1) (fun r2 s2 l2 x2 y2 => (if r2 = 0 then some ((), s2, l2, x2, y2) else pj_b (pf_X11_serve (pj_u s2 65 0) l2 (pj_u x2 20 0) y2) (fun r3 s3 l3 x3 y3 => (if r3 = (-1) then some ((), s3, l3, x3, y3) else pj_b (pf_X8_reply r3 s3 l3 x3 y3) (fun r4 s4 l4 x4 y4 => some ((), s4, l4, x4, y4))))))))) (pl_X12_heard_76 1000 b S l u V) := by
    intro hm0
    have c67 : S 62 < 67 := by rw [em, q_onltL (by omega) (by omega)]; omega
    unfold pl_X8_take_56 pl_X8_take_78 pl_X8_take_88 pl_X12_heard_76 pl_X12_heard_86
    rw [if_pos c67, em, q_g (by omega) (by omega), q_g (by omega) (by omega), q_onC (by omega)]
    have T62 : pj_u S (37000 + m) b 62 = Int32.ofNat m := by rw [q_un (by omega), em]
    rw [T62, show Int32.ofNat m + 1 = Int32.ofNat (m + 1) from q_onaL m 1, q_ua, q_un (show ¬ 37000 = 62 by omega)]
    obtain ⟨k, hk, ek⟩ := q_and63 (pj_u S (37000 + m) b 37000)
    rw [ek, show Int32.ofNat k + 4 = Int32.ofNat (k + 4) from q_onaL k 4]
    by_cases c : Int32.ofNat (m + 1) < Int32.ofNat (k + 4)
    · have c' := c
      rw [q_onlt (by omega) (by omega)] at c'
      rw [if_pos c, if_pos c, q_b, if_pos rfl]
      have J3 := q_I_rw (m := m) (b := b) (k := m + 1) J2 S94 (by omega) hb (by omega) (fun _ => by rw [ek, q_onI (by omega)]; omega) hy
      refine ⟨_, _, _, _, _, _, rfl, rfl, q_I_mono J3 (by omega) (by omega), hK2, q_Af_s AS (by rw [q_un (by omega), q_un (by omega)]) (by rw [q_un (by omega), q_un (by omega)]), rfl⟩
    · have c' := c
      rw [q_onlt (by omega) (by omega)] at c'
      -- it is whole
      have mk : m = k + 3 := by
        by_cases m0 : m = 0
        · omega
        · have hx := J.2.2.2.2.2.2.2.2.2.2.2.2.1.2.2.2.2.2.2.2.1
          rw [em, q_onI (by omega)] at hx
          have := hx (by omega)
          rw [q_un (show ¬ 37000 = 37000 + m by omega)] at ek
          rw [ek, q_onI (by omega)] at this
          omega
      rw [if_neg c, if_neg c, q_b, if_neg q_n10]
      have J3 := q_I_rw (m := m) (b := b) (k := 0) J2 S94 (by omega) hb (by omega) (fun z => by omega) hy
      refine q_heardP (s := pj_u (pj_u S (37000 + m) b) 62 (Int32.ofNat 0)) J3 (by rw [q_un (by omega), q_un (by omega)]; exact S94) hK2 (q_Af_s AS (by rw [q_un (by omega), q_un (by omega)]) (by rw [q_un (by omega), q_un (by omega)])) hW hk (by rw [q_un (by omega)]; exact ek) _ (fun w n => by rw [q_un n, q_un n]) (by rw [q_ua, mk]) q_ua
  unfold pl_X8_take_18 pl_X12_heard_36
  rw [hY, hV]
  by_cases z : S 62 = 0
  · have m0 : m = 0 := by
      rw [z, o0] at hm
      omega
    rw [if_pos z, if_pos z]
    have nz := q_nz hb.1 hb.2
    have noise : q_Lp E (W + 60) (l 93) (pj_b (pl_X8_take_44 S l x Y) (fun r1 s1 l1 x1 y1 => (if r1 = 0 then some ((), s1, l1, x1, y1) else pj_b (pf_X8_hasRequest s1 l1 x1 y1) (fun r2 s2 l2 x2 y2 => (if r2 = 0 then some ((), s2, l2, x2, y2) else pj_b (pf_X11_serve (pj_u s2 65 0) l2 (pj_u x2 20 0) y2) (fun r3 s3 l3 x3 y3 => (if r3 = (-1) then some ((), s3, l3, x3, y3) else pj_b (pf_X8_reply r3 s3 l3 x3 y3) (fun r4 s4 l4 x4 y4 => some ((), s4, l4, x4, y4))))))))) (pl_X12_heard_65 1000 S l u V) := by
      unfold pl_X8_take_44 pl_X12_heard_65
      rw [q_b, if_pos rfl]
      exact ⟨_, _, _, _, _, _, rfl, rfl, q_I_mono (q_I_s J2 S94 (q_R_u J2.1 q_R_any) (fun w hw => q_un (by unfold q_Ss at hw; omega))) (show E ≤ E by omega) (show W ≤ W + 60 by omega), hK2, q_Af_s AS (q_un (by omega)) (q_un (by omega)), rfl⟩
    by_cases d : b < 128 ∨ b &&& (63 : Int32) = 0
    · have C : (if b < 128 then pl_X8_take_44 S l x Y else if b &&& (63 : Int32) = 0 then pl_X8_take_44 S l x Y else pl_X8_take_56 b S l x Y) = pl_X8_take_44 S l x Y := by
        by_cases d1 : b < 128
        · rw [if_pos d1]
        · rw [if_neg d1, if_pos (d.resolve_left d1)]
      have R : (if 128 < b then (if b = 192 then pl_X12_heard_65 1000 S l u V else pl_X12_heard_76 1000 b S l u V) else pl_X12_heard_65 1000 S l u V) = pl_X12_heard_65 1000 S l u V := by
        rcases nz.mp d with q | q
        · rw [if_neg q]
        · by_cases d1 : 128 < b
          · rw [if_pos d1, if_pos q]
          · rw [if_neg d1]
      rw [C, R]
      exact noise
    · have C : (if b < 128 then pl_X8_take_44 S l x Y else if b &&& (63 : Int32) = 0 then pl_X8_take_44 S l x Y else pl_X8_take_56 b S l x Y) = pl_X8_take_56 b S l x Y := by
        rw [if_neg (fun q => d (Or.inl q)), if_neg (fun q => d (Or.inr q))]
      have d' : ¬ (¬ 128 < b ∨ b = 192) := fun q => d (nz.mpr q)
      have R : (if 128 < b then (if b = 192 then pl_X12_heard_65 1000 S l u V else pl_X12_heard_76 1000 b S l u V) else pl_X12_heard_65 1000 S l u V) = pl_X12_heard_76 1000 b S l u V := by
        rw [if_pos (Decidable.byContradiction fun q => d' (Or.inl q)), if_neg (fun q => d' (Or.inr q))]
      rw [C, R]
      exact main (fun _ => d)
  · rw [if_neg z, if_neg z]
    exact main (fun m0 => absurd (by rw [em, m0]; rfl) z)
end QLI

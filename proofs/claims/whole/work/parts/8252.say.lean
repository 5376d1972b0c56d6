/-! PURE: the TESTER: what is said, and sent -/
section QSY
variable {s x u s' x' u' x2 u2 : Nat → Int32} {l y v l' y' v' : Nat → Int64} {D E W : Int} {fu f k n m : Nat} {t : Int64} {a b d e p r : Int32}
/-- n bytes are said, the same on both sides -/
def q_Sy (n : Nat) (x u : Nat → Int32) : Prop := n ≤ 63 ∧ x 20 = Int32.ofNat n ∧ u 19 = Int32.ofNat n ∧ ∀ i, i < n → x (9000 + i) = u (11000 + i) ∧ 0 ≤ (x (9000 + i)).toInt ∧ (x (9000 + i)).toInt ≤ 255
def q_Fx (x x' : Nat → Int32) : Prop := ∀ w, ¬ w = 20 → ¬ (9000 ≤ w ∧ w < 9064) → ¬ (10000 ≤ w ∧ w < 10008) → x' w = x w
def q_Fu (u u' : Nat → Int32) : Prop := ∀ w, ¬ w = 19 → ¬ (11000 ≤ w ∧ w < 11064) → u' w = u w
theorem q_Fx0 : q_Fx x x := fun _ _ _ _ => rfl
theorem q_Fu0 : q_Fu u u := fun _ _ _ => rfl
theorem q_Fx_t (h : q_Fx x x') (h2 : q_Fx x' x2) : q_Fx x x2 := fun w p q r => by rw [h2 w p q r, h w p q r]
theorem q_Fu_t (h : q_Fu u u') (h2 : q_Fu u' u2) : q_Fu u u2 := fun w p q => by rw [h2 w p q, h w p q]
theorem q_I_sy (h : q_I D E W s l x y u v) (h0 : ¬ s 94 = 0) (fx : q_Fx x x') (fu : q_Fu u u') : q_I D E W s l x' y u' v := q_I_f h h0 h.1 (fun _ _ => rfl) (fun w hw => fx w (by unfold q_Xs at hw; omega) (by unfold q_Xs at hw; omega) (by unfold q_Xs at hw; omega)) (fun w hw => fu w (by unfold q_Us at hw; omega) (by unfold q_Us at hw; omega))
theorem q_Sy0 : q_Sy 0 (pj_u x 20 0) (pj_u u 19 0) := ⟨by omega, q_ua, q_ua, fun i hi => by omega⟩
theorem q_say (h : q_Sy n x u) (hn : n < 63) (e : a &&& (255 : Int32) = b &&& (255 : Int32)) : ∃ x' u', pf_X8_say a s l x y = some (0, s, l, x', y) ∧ pf_X12_say b s l u v = some ((), s, l, u', v) ∧ q_Sy (n + 1) x' u' ∧ q_Fx x x' ∧ q_Fu u u' := by
  obtain ⟨h1, h2, h3, h4⟩ := h
  have c : x 20 < 63 := by rw [h2, q_onltL (by omega) (by omega)]; omega
  have e1 : Int32.ofNat n + 1 = Int32.ofNat (n + 1) := q_onaL n 1
  refine ⟨pj_u (pj_u x (9000 + n) (a &&& (255 : Int32))) 20 (Int32.ofNat (n + 1)), pj_u (pj_u u (11000 + n) (a &&& (255 : Int32))) 19 (Int32.ofNat (n + 1)), ?_, ?_, ?_, ?_, ?_⟩
  · unfold pf_X8_say
    rw [if_pos c, h2, q_g (by omega) (by omega), q_onC (by omega), q_un (by omega), h2, e1]
  · unfold pf_X12_say
    rw [h3, q_g (by omega) (by omega), q_onC (by omega), q_un (by omega), h3, e1, e]
  · refine ⟨by omega, q_ua, q_ua, ?_⟩
    intro i hi
    rw [q_un (show ¬ 9000 + i = 20 by omega), q_un (show ¬ 11000 + i = 19 by omega)]
    by_cases c : i = n
    · subst c
      rw [q_ua, q_ua]
      have := q_byI a
      exact ⟨rfl, this.1, this.2⟩
    · rw [q_un (show ¬ 9000 + i = 9000 + n by omega), q_un (show ¬ 11000 + i = 11000 + n by omega)]
      exact h4 i (by omega)
  · intro w p q r
    rw [q_un p, q_un (by omega)]
  · intro w p q
    rw [q_un p, q_un (by omega)]
/-- two bytes: an int's low half -/
theorem q_sh8L (q : Int64) : (q >>> (8 : Int64)).toInt32 &&& (255 : Int32) = (q.toInt32 >>> (8 : Int32)) &&& (255 : Int32) := by
  apply q_inj
  have e1 : ((q >>> (8 : Int64)).toInt32).toBitVec = (q.toBitVec.sshiftRight 8).signExtend 32 := rfl
  have e2 : ((q.toInt32 >>> (8 : Int32))).toBitVec = (q.toBitVec.signExtend 32).sshiftRight 8 := rfl
  rw [Int32.toBitVec_and, Int32.toBitVec_and, e1, e2, q_c255]
  apply BitVec.eq_of_getLsbD_eq
  intro i hi
  rcases q_32c hi with rfl | rfl | rfl | rfl | rfl | rfl | rfl | rfl | rfl | rfl | rfl | rfl | rfl | rfl | rfl | rfl | rfl | rfl | rfl | rfl | rfl | rfl | rfl | rfl | rfl | rfl | rfl | rfl | rfl | rfl | rfl | rfl
  all_goals simp [BitVec.getLsbD_and, BitVec.getLsbD_sshiftRight, BitVec.getElem_sshiftRight, BitVec.getElem_signExtend, BitVec.getLsbD_signExtend]
theorem q_two2 (h : q_Sy n x u) (hn : n < 62) {q : Int64} (e : q.toInt32 &&& (65535 : Int32) = b &&& (65535 : Int32)) : ∃ x' u', pf_X8_sayTwo q s l x y = some (0, s, l, x', y) ∧ pf_X12_two b s l u v = some ((), s, l, u', v) ∧ q_Sy (n + 2) x' u' ∧ q_Fx x x' ∧ q_Fu u u' := by
  have e1 : (q >>> (8 : Int64)).toInt32 &&& (255 : Int32) = (b >>> (8 : Int32)) &&& (255 : Int32) := by
    rw [q_sh8L, ← q_mid q.toInt32, e, q_mid b]
  have e2 : q.toInt32 &&& (255 : Int32) = b &&& (255 : Int32) := by
    rw [← q_m255 q.toInt32, e, q_m255 b]
  obtain ⟨x1, u1, f1, g1, s1, a1, b1⟩ := q_say (s := s) (l := l) (y := y) (v := v) h (by omega) e1
  obtain ⟨x2, u2, f2, g2, s2, a2, b2⟩ := q_say (s := s) (l := l) (y := y) (v := v) s1 (by omega) e2
  refine ⟨x2, u2, ?_, ?_, s2, q_Fx_t a1 a2, q_Fu_t b1 b2⟩
  · unfold pf_X8_sayTwo
    rw [f1, q_b, f2, q_b]
  · unfold pf_X12_two
    rw [g1, q_b, g2, q_b]
theorem q_64and (a : Int32) : a.toInt64.toInt32 &&& (65535 : Int32) = a &&& (65535 : Int32) := by rw [Int32.toInt32_toInt64]
/-- a byte that is cut to its range -/
theorem q_byteP (h : q_Sy n x u) (hn : n < 63) (q : Int64) : ∃ x' u', pf_X8_sayByte q s l x y = some (0, s, l, x', y) ∧ pf_X12_byteOr q s l u v = some ((), s, l, u', v) ∧ q_Sy (n + 1) x' u' ∧ q_Fx x x' ∧ q_Fu u u' := by
  have cl : (q_ct q 0 255).toInt32 = q_cl q 0 255 := q_cut_cl q 0 255
  obtain ⟨x1, u1, f1, g1, s1, a1, b1⟩ := q_say (s := s) (l := l) (y := y) (v := v) (a := q_cl q 0 255) (b := q_cl q 0 255) h hn rfl
  refine ⟨x1, u1, ?_, ?_, s1, a1, b1⟩
  · unfold pf_X8_sayByte
    rw [q_clip, q_b, f1, q_b]
  · unfold pf_X12_byteOr
    rw [q_cut, q_b, cl, g1, q_b]
theorem q_wordP (h : q_Sy n x u) (hn : n < 62) (q : Int64) : ∃ x' u', pj_b (pf_X11_clip q 0 65535 s l x y) (fun r8 s8 l8 x8 y8 => pf_X8_sayTwo r8.toInt64 s8 l8 x8 y8) = some (0, s, l, x', y) ∧ pf_X12_wordOr q s l u v = some ((), s, l, u', v) ∧ q_Sy (n + 2) x' u' ∧ q_Fx x x' ∧ q_Fu u u' := by
  have cl : (q_ct q 0 65535).toInt32 = q_cl q 0 65535 := q_cut_cl q 0 65535
  obtain ⟨x1, u1, f1, g1, s1, a1, b1⟩ := q_two2 (s := s) (l := l) (y := y) (v := v) (q := (q_cl q 0 65535).toInt64) (b := q_cl q 0 65535) h hn (q_64and _)
  refine ⟨x1, u1, ?_, ?_, s1, a1, b1⟩
  · rw [q_clip, q_b, f1]
  · unfold pf_X12_wordOr
    rw [q_cut, q_b, cl, g1, q_b]
/-- a REFUSAL, as the reference says it -/
def q_Rz (a b : Int32) (u : Nat → Int32) : Prop := u 19 = 3 ∧ u 11000 = 127 ∧ u 11001 = a &&& (255 : Int32) ∧ u 11002 = b &&& (255 : Int32)
theorem q_sayR (h : u 19 = Int32.ofNat n) (hn : n < 63) : pf_X12_say a s l u v = some ((), s, l, pj_u (pj_u u (11000 + n) (a &&& (255 : Int32))) 19 (Int32.ofNat (n + 1)), v) := by
  unfold pf_X12_say
  rw [h, q_g (by omega) (by omega), q_onC (by omega), q_un (by omega), h, show Int32.ofNat n + 1 = Int32.ofNat (n + 1) from q_onaL n 1]
theorem q_refuse (a b : Int32) : ∃ u', pf_X12_refuse a b s l u v = some ((), s, l, u', v) ∧ q_Rz a b u' ∧ q_Fu u u' := by
  have z0 : (pj_u u 19 0) 19 = Int32.ofNat 0 := q_ua
  refine ⟨pj_u (pj_u (pj_u (pj_u (pj_u (pj_u (pj_u u 19 0) (11000 + 0) (127 &&& (255 : Int32))) 19 (Int32.ofNat (0 + 1))) (11000 + 1) (a &&& (255 : Int32))) 19 (Int32.ofNat (1 + 1))) (11000 + 2) (b &&& (255 : Int32))) 19 (Int32.ofNat (2 + 1)), ?_, ?_, ?_⟩
  · unfold pf_X12_refuse
    rw [q_sayR (n := 0) z0 (by omega), q_b, q_sayR (n := 1) q_ua (by omega), q_b, q_sayR (n := 2) q_ua (by omega), q_b]
  · refine ⟨q_ua, ?_, ?_, ?_⟩
    · simp (disch := omega) only [q_un, q_ua]
      rfl
    · simp (disch := omega) only [q_un, q_ua]
    · simp (disch := omega) only [q_un, q_ua]
  · intro w p q
    rw [q_un p, q_un (by omega), q_un p, q_un (by omega), q_un p, q_un (by omega), q_un p]
-- the row of what is sent
def q_osu (L : Nat → Int32) : Nat → Int32
  | 0 => 0
  | k + 1 => q_osu L k + L k
def q_oc (L : Nat → Int32) (m k : Nat) (s : Nat → Int32) : Nat → Int32 := fun w => if 38000 + m ≤ w ∧ w < 38000 + m + k then L (w - (38000 + m)) else s w
def q_kb (m : Nat) (b : Int32) (s : Nat → Int32) : Nat → Int32 := pj_u (pj_u s (38000 + m) b) 69 (Int32.ofNat (m + 1))
def q_ob (L : Nat → Int32) (m k : Nat) (s : Nat → Int32) : Nat → Int32 := pj_u (q_oc L m k s) 69 (Int32.ofNat (m + k))
theorem q_oc0 {L : Nat → Int32} : q_oc L m 0 s = s := by
  funext w
  unfold q_oc
  rw [if_neg (by omega)]
theorem q_oc_s {L : Nat → Int32} : pj_u (q_oc L m k s) (38000 + (m + k)) (L k) = q_oc L m (k + 1) s := by
  funext w
  unfold q_oc
  by_cases c : w = 38000 + (m + k)
  · subst c
    rw [q_ua, if_pos (by omega), show 38000 + (m + k) - (38000 + m) = k by omega]
  · rw [q_un c]
    by_cases d : 38000 + m ≤ w ∧ w < 38000 + m + k
    · rw [if_pos d, if_pos (by omega)]
    · rw [if_neg d, if_neg (by omega)]
theorem q_ob_s {L : Nat → Int32} : q_kb (m + k) (L k) (q_ob L m k s) = q_ob L m (k + 1) s := by
  unfold q_kb q_ob
  rw [← q_oc_s, q_u2 (show ¬ 69 = 38000 + (m + k) by omega), q_uu]
  rfl
theorem q_keep (h : s 69 = Int32.ofNat m) (hm : m < 600) : pf_X8_keepByte b s l x y = some (b, q_kb m b s, l, x, y) := by
  unfold pf_X8_keepByte q_kb
  have c : s 69 < 600 := by rw [h, q_onltL (by omega) (by omega)]; omega
  rw [if_pos c, h, q_g (by omega) (by omega), q_onC (by omega), q_un (by omega), h, show Int32.ofNat m + 1 = Int32.ofNat (m + 1) from q_onaL m 1]
theorem q_repL {L : Nat → Int32} (hm : m + 3 + n < 600) (hx : x 20 = Int32.ofNat n) (hn : n ≤ 63) (hL : ∀ i, i < n → L (3 + i) = x (9000 + i)) : ∀ (j i f : Nat), i + j = n → j < f → pl_X8_reply_84 fu f (q_osu L (3 + i)) (Int32.ofNat i) (q_ob L m (3 + i) s) l x y = some ((), q_kb (m + (3 + n)) (q_osu L (3 + n) &&& (255 : Int32)) (q_ob L m (3 + n) s), l, x, y) := by
  intro j
  induction j with
  | zero =>
    intro i f hi hf
    have : i = n := by omega
    subst this
    obtain ⟨f, rfl⟩ : ∃ f9, f = f9 + 1 := ⟨f - 1, by omega⟩
    have c : ¬ Int32.ofNat i < x 20 := by rw [hx, q_onlt (by omega) (by omega)]; omega
    rw [pl_X8_reply_84, if_neg c]
    unfold pl_X8_reply_120
    rw [q_keep (m := m + (3 + i)) (by unfold q_ob; rw [q_ua]) (by omega), q_b]
  | succ j ih =>
    intro i f hi hf
    obtain ⟨f, rfl⟩ : ∃ f9, f = f9 + 1 := ⟨f - 1, by omega⟩
    have c : Int32.ofNat i < x 20 := by rw [hx, q_onlt (by omega) (by omega)]; omega
    have c2 : Int32.ofNat i < 64 := by rw [q_onltL (by omega) (by omega)]; omega
    rw [pl_X8_reply_84, if_pos c, if_pos c2, q_g (by omega) (by omega), q_onC (by omega), q_keep (m := m + (3 + i)) (by unfold q_ob; rw [q_ua]) (by omega), q_b, ← hL i (by omega), q_ob_s, show Int32.ofNat i + 1 = Int32.ofNat (i + 1) from q_onaL i 1]
    have e : q_osu L (3 + i) + L (3 + i) = q_osu L (3 + i + 1) := rfl
    rw [e]
    exact ih (i + 1) f (by omega) (by omega)
def q_oL (n : Nat) (b : Int32) (x : Nat → Int32) : Nat → Int32 := fun j => if j = 0 then 128 + Int32.ofNat n else if j = 1 then b else if j = 2 then 17 else x (9000 + (j - 3))
theorem q_repC (h69 : s 69 = Int32.ofNat m) (hx : x 20 = Int32.ofNat n) (hn : n ≤ 63) (hm : m + n + 4 ≤ 600) (hf : 100 < fu) : pl_X8_reply_33 fu s l x y = some ((), q_kb (m + (3 + n)) (q_osu (q_oL n (s 37002) x) (3 + n) &&& (255 : Int32)) (q_ob (q_oL n (s 37002) x) m (3 + n) s), l, x, y) := by
  have e1 : s 69 + x 20 + 4 = Int32.ofNat (m + n + 4) := by
    rw [h69, hx, q_onR, show Int32.ofNat (m + n) + 4 = Int32.ofNat (m + n + 4) from q_onaL _ 4]
  have c : ¬ 600 < s 69 + x 20 + 4 := by rw [e1, q_onltR (by omega) (by omega)]; omega
  unfold pl_X8_reply_33
  rw [if_neg c, hx]
  have s0 : s = q_ob (q_oL n (s 37002) x) m 0 s := by
    unfold q_ob
    rw [q_oc0, show m + 0 = m from rfl, ← h69, q_ui]
  have k1 : pf_X8_keepByte (128 + Int32.ofNat n) s l x y = some (128 + Int32.ofNat n, q_ob (q_oL n (s 37002) x) m 1 s, l, x, y) := by
    rw [q_keep (m := m) h69 (by omega)]
    have := q_ob_s (L := q_oL n (s 37002) x) (m := m) (k := 0) (s := s)
    rw [← s0] at this
    rw [← this]
    rfl
  have r2 : q_ob (q_oL n (s 37002) x) m 1 s 37002 = s 37002 := by
    unfold q_ob q_oc
    rw [q_un (by omega), if_neg (by omega)]
  have k2 : pf_X8_keepByte (s 37002) (q_ob (q_oL n (s 37002) x) m 1 s) l x y = some (s 37002, q_ob (q_oL n (s 37002) x) m 2 s, l, x, y) := by
    rw [q_keep (m := m + 1) (by unfold q_ob; rw [q_ua]) (by omega)]
    rw [← q_ob_s (L := q_oL n (s 37002) x) (m := m) (k := 1) (s := s)]
    rfl
  have k3 : pf_X8_keepByte 17 (q_ob (q_oL n (s 37002) x) m 2 s) l x y = some (17, q_ob (q_oL n (s 37002) x) m 3 s, l, x, y) := by
    rw [q_keep (m := m + 2) (by unfold q_ob; rw [q_ua]) (by omega)]
    rw [← q_ob_s (L := q_oL n (s 37002) x) (m := m) (k := 2) (s := s)]
    rfl
  rw [k1, q_b, r2, k2, q_b, k3, q_b]
  have os : 128 + Int32.ofNat n + s 37002 + 17 = q_osu (q_oL n (s 37002) x) (3 + 0) := by
    show _ = ((0 + (128 + Int32.ofNat n)) + s 37002) + 17
    rw [Int32.zero_add]
  rw [os]
  exact q_repL (L := q_oL n (s 37002) x) (m := m) (s := s) (by omega) hx hn (fun i hi => by unfold q_oL; rw [if_neg (by omega), if_neg (by omega), if_neg (by omega), show 3 + i - 3 = i by omega]) n 0 fu (by omega) (by omega)
theorem q_repC0 (h69 : s 69 = Int32.ofNat m) (hx : x 20 = Int32.ofNat n) (hn : n ≤ 63) (hm0 : m ≤ 600) (hm : ¬ m + n + 4 ≤ 600) : pl_X8_reply_33 fu s l x y = some ((), s, l, x, y) := by
  have e1 : s 69 + x 20 + 4 = Int32.ofNat (m + n + 4) := by
    rw [h69, hx, q_onR, show Int32.ofNat (m + n) + 4 = Int32.ofNat (m + n + 4) from q_onaL _ 4]
  have c : 600 < s 69 + x 20 + 4 := by rw [e1, q_onltR (by omega) (by omega)]; omega
  unfold pl_X8_reply_33
  rw [if_pos c]
-- the reference sends
theorem q_sndL {L : Nat → Int32} (h69 : s 69 = Int32.ofNat (m + (3 + n))) (hm : m + n + 4 ≤ 600) (hs : ∀ j, j < 3 + n → s (38000 + (m + j)) = L j) : ∀ (j i f : Nat), i + j = 3 + n → j < f → pl_X12_send_131 fu f (q_osu L i) (Int32.ofNat (m + i)) s l u v = some ((), q_kb (m + (3 + n)) (q_osu L (3 + n) &&& (255 : Int32)) s, l, u, v) := by
  intro j
  induction j with
  | zero =>
    intro i f hi hf
    have : i = 3 + n := by omega
    subst this
    obtain ⟨f, rfl⟩ : ∃ f9, f = f9 + 1 := ⟨f - 1, by omega⟩
    have c : ¬ Int32.ofNat (m + (3 + n)) < s 69 := by rw [h69, q_onlt (by omega) (by omega)]; omega
    rw [pl_X12_send_131, if_neg c, h69, q_g (by omega) (by omega), q_onC (by omega), q_un (by omega), h69]
    unfold q_kb
    rw [show Int32.ofNat (m + (3 + n)) + 1 = Int32.ofNat (m + (3 + n) + 1) from q_onaL _ 1]
  | succ j ih =>
    intro i f hi hf
    obtain ⟨f, rfl⟩ : ∃ f9, f = f9 + 1 := ⟨f - 1, by omega⟩
    have c : Int32.ofNat (m + i) < s 69 := by rw [h69, q_onlt (by omega) (by omega)]; omega
    rw [pl_X12_send_131, if_pos c, q_g (by omega) (by omega), q_onC (by omega), hs i (by omega), show Int32.ofNat (m + i) + 1 = Int32.ofNat (m + (i + 1)) from q_onaL _ 1]
    have e : q_osu L i + L i = q_osu L (i + 1) := rfl
    rw [e]
    exact ih (i + 1) f (by omega) (by omega)
theorem q_sndC {L : Nat → Int32} (h69 : s 69 = Int32.ofNat m) (hu : u 19 = Int32.ofNat n) (hn : n ≤ 63) (hm : m + n + 4 ≤ 600) (hL : ∀ i, i < n → L (3 + i) = u (11000 + i)) (hf9 : 100 < fu) : ∀ (j i f : Nat), i + j = n → j < f → pl_X12_send_79 fu f (Int32.ofNat m) (Int32.ofNat i) (q_oc L m (3 + i) s) l u v = some ((), q_kb (m + (3 + n)) (q_osu L (3 + n) &&& (255 : Int32)) (q_ob L m (3 + n) s), l, u, v) := by
  have r69 : ∀ k, q_oc L m k s 69 = Int32.ofNat m := by
    intro k
    unfold q_oc
    rw [if_neg (by omega), h69]
  intro j
  induction j with
  | zero =>
    intro i f hi hf
    have : i = n := by omega
    subst this
    obtain ⟨f, rfl⟩ : ∃ f9, f = f9 + 1 := ⟨f - 1, by omega⟩
    have c : ¬ Int32.ofNat i < u 19 := by rw [hu, q_onlt (by omega) (by omega)]; omega
    rw [pl_X12_send_79, if_neg c, r69, hu, q_onR, show Int32.ofNat (m + i) + 3 = Int32.ofNat (m + i + 3) from q_onaL _ 3, show m + i + 3 = m + (3 + i) by omega]
    have z := q_sndL (fu := fu) (L := L) (s := q_ob L m (3 + i) s) (l := l) (u := u) (v := v) (m := m) (n := i) (by unfold q_ob; rw [q_ua]) (by omega) (fun j hj => by unfold q_ob q_oc; rw [q_un (by omega), if_pos (by omega), show 38000 + (m + j) - (38000 + m) = j by omega]) (3 + i) 0 fu (by omega) (by omega)
    exact z
  | succ j ih =>
    intro i f hi hf
    obtain ⟨f, rfl⟩ : ∃ f9, f = f9 + 1 := ⟨f - 1, by omega⟩
    have c : Int32.ofNat i < u 19 := by rw [hu, q_onlt (by omega) (by omega)]; omega
    have e3 : Int32.ofNat m + 3 + Int32.ofNat i = Int32.ofNat (m + (3 + i)) := by
      rw [show Int32.ofNat m + 3 = Int32.ofNat (m + 3) from q_onaL _ 3, q_onR, show m + 3 + i = m + (3 + i) by omega]
    rw [pl_X12_send_79, if_pos c, r69, e3, q_g (by omega) (by omega), q_g (by omega) (by omega), q_onC (by omega), q_onC (by omega), ← hL i (by omega), q_oc_s, show Int32.ofNat i + 1 = Int32.ofNat (i + 1) from q_onaL i 1]
    exact ih (i + 1) f (by omega) (by omega)
theorem q_sndR (h69 : s 69 = Int32.ofNat m) (hu : u 19 = Int32.ofNat n) (hn0 : 1 ≤ n) (hn : n ≤ 63) (hm : m + n + 4 ≤ 600) {L : Nat → Int32} (h0 : L 0 = 128 + Int32.ofNat n) (h1 : L 1 = s 37002) (h2 : L 2 = 17) (hL : ∀ i, i < n → L (3 + i) = u (11000 + i)) : pf_X12_send s l u v = some ((), q_kb (m + (3 + n)) (q_osu L (3 + n) &&& (255 : Int32)) (q_ob L m (3 + n) s), l, u, v) := by
  have e1 : s 69 + u 19 + 4 = Int32.ofNat (m + n + 4) := by
    rw [h69, hu, q_onR, show Int32.ofNat (m + n) + 4 = Int32.ofNat (m + n + 4) from q_onaL _ 4]
  have c : ¬ 600 < s 69 + u 19 + 4 := by rw [e1, q_onltR (by omega) (by omega)]; omega
  have c0 : ¬ u 19 = 0 := by
    rw [hu]
    intro z
    have : (Int32.ofNat n).toInt = 0 := by rw [z]; rfl
    rw [q_onI (by omega)] at this
    omega
  have r69 : ∀ k, q_oc L m k s 69 = Int32.ofNat m := by
    intro k
    unfold q_oc
    rw [if_neg (by omega), h69]
  have st0 : pj_u s (38000 + m) (128 + Int32.ofNat n) = q_oc L m 1 s := by
    have := q_oc_s (L := L) (m := m) (k := 0) (s := s)
    rw [q_oc0, h0] at this
    exact this
  unfold pf_X12_send po_X12_send
  rw [if_neg c0, if_neg c, h69, q_g (by omega) (by omega), q_onC (by omega), hu, st0]
  unfold pl_X12_send_47
  have r2 : q_oc L m 1 s 37002 = L 1 := by
    unfold q_oc
    rw [if_neg (by omega), h1]
  rw [r69, show Int32.ofNat m + 1 = Int32.ofNat (m + 1) from q_onaL _ 1, q_g (by omega) (by omega), q_onC (by omega), r2, q_oc_s]
  unfold pl_X12_send_64
  rw [r69, show Int32.ofNat m + 2 = Int32.ofNat (m + 2) from q_onaL _ 2, q_g (by omega) (by omega), q_onC (by omega), ← h2, q_oc_s]
  unfold pl_X12_send_77
  exact q_sndC (fu := 1000) h69 hu hn hm hL (by omega) n 0 1000 (by omega) (by omega)
theorem q_snd0 (h69 : s 69 = Int32.ofNat m) (hu : u 19 = Int32.ofNat n) (hn : n ≤ 63) (hm0 : m ≤ 600) (hm : ¬ m + n + 4 ≤ 600) : pf_X12_send s l u v = some ((), s, l, u, v) := by
  have e1 : s 69 + u 19 + 4 = Int32.ofNat (m + n + 4) := by
    rw [h69, hu, q_onR, show Int32.ofNat (m + n) + 4 = Int32.ofNat (m + n + 4) from q_onaL _ 4]
  have c : 600 < s 69 + u 19 + 4 := by rw [e1, q_onltR (by omega) (by omega)]; omega
  unfold pf_X12_send po_X12_send
  by_cases z : u 19 = 0
  · rw [if_pos z]
  · rw [if_neg z, if_pos c]
/-- the ANSWER, on both sides -/
theorem q_answP (hr : q_R s) (hS : q_Sy n x u) (hn : 1 ≤ n) : ∃ S, pl_X8_reply_33 1000 s l x y = some ((), S, l, x, y) ∧ pf_X12_send s l u v = some ((), S, l, u, v) ∧ q_R S ∧ ∀ w, ¬ w = 69 → ¬ (38000 ≤ w ∧ w < 38600) → S w = s w := by
  obtain ⟨h1, h2, h3, h4⟩ := hS
  have r69 := q_R69 hr
  obtain ⟨m, e, hm, -⟩ := q_nat r69.1
  have hm2 : m ≤ 600 := by omega
  by_cases c : m + n + 4 ≤ 600
  · have hL : ∀ i, i < n → q_oL n (s 37002) x (3 + i) = u (11000 + i) := fun i hi => by
      unfold q_oL
      rw [if_neg (by omega), if_neg (by omega), if_neg (by omega), show 3 + i - 3 = i by omega]
      exact (h4 i hi).1
    refine ⟨_, q_repC e h2 h1 c (by omega), q_sndR e h3 hn h1 c rfl rfl rfl hL, ?_, ?_⟩
    · have r37 : 0 ≤ (s 37002).toInt ∧ (s 37002).toInt ≤ 255 := hr 37002
      have rg : ∀ w, 38000 ≤ w → w < 39000 → q_rg w = (0, 255) := by
        intro w p q
        unfold q_rg
        rw [show w / 1000 = 38 by omega]
        rfl
      have o128 : (128 : Int32).toInt = 128 := rfl
      have Lr : ∀ j, j < 3 + n → 0 ≤ (q_oL n (s 37002) x j).toInt ∧ (q_oL n (s 37002) x j).toInt ≤ 255 := by
        intro j hj
        unfold q_oL
        by_cases j0 : j = 0
        · rw [if_pos j0, q_add (by rw [q_onI (by omega), o128]; omega) (by rw [q_onI (by omega), o128]; omega), q_onI (by omega), o128]
          omega
        · rw [if_neg j0]
          by_cases j1 : j = 1
          · rw [if_pos j1]; exact r37
          · rw [if_neg j1]
            by_cases j2 : j = 2
            · rw [if_pos j2]; decide
            · rw [if_neg j2]; exact (h4 (j - 3) (by omega)).2
      have ro : q_R (q_ob (q_oL n (s 37002) x) m (3 + n) s) := by
        unfold q_ob
        refine q_R_u ?_ (by rw [q_onI (by omega)]; exact (show (0 : Int) ≤ ((m + (3 + n) : Nat) : Int) ∧ ((m + (3 + n) : Nat) : Int) ≤ 600 by omega))
        intro w
        unfold q_oc
        by_cases d : 38000 + m ≤ w ∧ w < 38000 + m + (3 + n)
        · rw [if_pos d, rg w (by omega) (by omega)]
          exact Lr _ (by omega)
        · rw [if_neg d]; exact hr w
      unfold q_kb
      exact q_R_u (q_R_u ro (by rw [rg _ (by omega) (by omega)]; exact q_byI _)) (by rw [q_onI (by omega)]; exact (show (0 : Int) ≤ ((m + (3 + n) + 1 : Nat) : Int) ∧ ((m + (3 + n) + 1 : Nat) : Int) ≤ 600 by omega))
    · intro w p q
      unfold q_kb q_ob q_oc
      rw [q_un p, q_un (by omega), q_un p, if_neg (by omega)]
  · exact ⟨s, q_repC0 e h2 h1 hm2 c, q_snd0 e h3 h1 hm2 c, hr, fun _ _ _ => rfl⟩
end QSY

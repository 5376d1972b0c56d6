/-! PURE: the BUS: the lamp, the state, the challenge -/
section QBW
variable {s x u s' x' u' s1 x1 u1 s2 u2 : Nat → Int32} {l y v l' y' v' l2 v2 : Nat → Int64} {D E W : Int} {fu : Nat}
def q_lit (s : Nat → Int32) : Nat → Nat → Int32
  | 0, _ => 0
  | m + 1, k => if s (40084 + k) = 0 then q_lit s m (k + 1) else if s (40112 + k) < 3 then 1 else q_lit s m (k + 1)
theorem q_lit_s (m k : Nat) : q_lit s (m + 1) k = if s (40084 + k) = 0 then q_lit s m (k + 1) else if s (40112 + k) < 3 then 1 else q_lit s m (k + 1) := rfl
theorem q_lit01 : ∀ (m k : Nat), q_lit s m k = 0 ∨ q_lit s m k = 1 := by
  intro m
  induction m with
  | zero => intro k; exact Or.inl rfl
  | succ m ih =>
    intro k
    rw [q_lit_s]
    split
    · exact ih _
    · split
      · exact Or.inr rfl
      · exact ih _
theorem q_lightsC : ∀ (m k f : Nat), k + m = 28 → m < f → pl_X10_lights_2 fu f (Int32.ofNat k) s l x y = some (q_lit s m k, s, l, x, y) := by
  intro m
  induction m with
  | zero =>
    intro k f hk hf
    obtain ⟨f, rfl⟩ : ∃ f9, f = f9 + 1 := ⟨f - 1, by omega⟩
    rw [pl_X10_lights_2, if_neg (by rw [q_onltL (by omega) (by omega)]; omega)]
    rfl
  | succ m ih =>
    intro k f hk hf
    obtain ⟨f, rfl⟩ : ∃ f9, f = f9 + 1 := ⟨f - 1, by omega⟩
    have c : k < 28 := by omega
    rw [pl_X10_lights_2]
    unfold pl_X10_lights_33
    simp (disch := omega) only [q_g, q_onC, q_onltL, if_pos c, q_onaL]
    rw [ih (k + 1) f (by omega) (by omega)]
    rw [q_lit_s]
    split
    · rfl
    · split <;> rfl
theorem q_lampR : ∀ (m k f : Nat) (a : Int32), (a = 0 ∨ a = 1) → k + m = 28 → m < f → pl_X12_lamp_17 fu f a (Int32.ofNat k) s l u v = some ((if a = 0 then q_lit s m k else 1), s, l, u, v) := by
  have n1 : ¬ (1 : Int32) = 0 := by decide
  intro m
  induction m with
  | zero =>
    intro k f a ha hk hf
    obtain ⟨f, rfl⟩ : ∃ f9, f = f9 + 1 := ⟨f - 1, by omega⟩
    rw [pl_X12_lamp_17, if_neg (by rw [q_onltL (by omega) (by omega)]; omega), q_bz ha]
    rcases ha with rfl | rfl
    · rw [if_pos rfl]; rfl
    · rw [if_neg n1]
  | succ m ih =>
    intro k f a ha hk hf
    obtain ⟨f, rfl⟩ : ∃ f9, f = f9 + 1 := ⟨f - 1, by omega⟩
    have c : k < 28 := by omega
    rw [pl_X12_lamp_17]
    unfold pl_X12_lamp_46 pl_X12_lamp_50 pl_X12_lamp_51
    simp (disch := omega) only [q_g, q_onC, q_onltL, if_pos c, q_onaL]
    rw [ih (k + 1) f 0 (Or.inl rfl) (by omega) (by omega), ih (k + 1) f 1 (Or.inr rfl) (by omega) (by omega), if_pos rfl, if_neg n1, q_lit_s]
    split
    · split
      · rfl
      · split <;> rfl
    · rfl
def q_lm (s : Nat → Int32) : Int32 := if s 2002 = 0 then q_lit s 28 0 else 1
theorem q_lm01 : q_lm s = 0 ∨ q_lm s = 1 := by
  unfold q_lm
  split
  · exact q_lit01 _ _
  · exact Or.inr rfl
theorem q_lmC : pf_X11_isLampOn s l x y = some (q_lm s, s, l, x, y) := by
  have e : pf_X10_lights s l x y = some (q_lit s 28 0, s, l, x, y) := q_lightsC (fu := 1000) 28 0 1000 (by omega) (by omega)
  unfold pf_X11_isLampOn pl_X11_isLampOn_22 q_lm
  rw [e, q_b]
  split
  · rcases q_lit01 (s := s) 28 0 with h | h
    · rw [if_pos h, h]
    · rw [if_neg (by rw [h]; decide), h]
  · rfl
theorem q_lmR : pf_X12_lamp s l u v = some (q_lm s, s, l, u, v) := by
  have e : ∀ a, (a = 0 ∨ a = 1) → pl_X12_lamp_17 1000 1000 a 0 s l u v = some ((if a = 0 then q_lit s 28 0 else 1), s, l, u, v) := fun a ha => q_lampR (fu := 1000) 28 0 1000 a ha (by omega) (by omega)
  have e0 : pl_X12_lamp_17 1000 1000 0 0 s l u v = some (q_lit s 28 0, s, l, u, v) := e 0 (Or.inl rfl)
  have e1 : pl_X12_lamp_17 1000 1000 1 0 s l u v = some (1, s, l, u, v) := e 1 (Or.inr rfl)
  unfold pf_X12_lamp po_X12_lamp pl_X12_lamp_14 q_lm
  rw [e0, e1]
  split <;> rfl
theorem q_four (a : Int32) : a = q_f4 (((pj_shr a 16) >>> (8 : Int32)) &&& (255 : Int32)) ((pj_shr a 16) &&& (255 : Int32)) ((a >>> (8 : Int32)) &&& (255 : Int32)) (a &&& (255 : Int32)) := by
  unfold q_f4
  apply q_inj
  simp only [Int32.toBitVec_or, Int32.toBitVec_and, q_l8, q_l16, q_l24, q_s8, q_u16, q_c255]
  apply BitVec.eq_of_getLsbD_eq
  intro i hi
  rcases q_32c hi with rfl | rfl | rfl | rfl | rfl | rfl | rfl | rfl | rfl | rfl | rfl | rfl | rfl | rfl | rfl | rfl | rfl | rfl | rfl | rfl | rfl | rfl | rfl | rfl | rfl | rfl | rfl | rfl | rfl | rfl | rfl | rfl
  all_goals simp [BitVec.getLsbD_or, BitVec.getLsbD_and, BitVec.getLsbD_shiftLeft, BitVec.getLsbD_sshiftRight, BitVec.getElem_sshiftRight, BitVec.getLsbD_ushiftRight]
def q_lt (s : Nat → Int32) : Int32 := ((if q_lm s = 0 then 0 else 128) + (if s 38 = 0 then 0 else 1)) + (if s 39 = 0 then 0 else 2)
theorem q_ltV : 0 ≤ (q_lt s).toInt ∧ (q_lt s).toInt ≤ 131 := by
  unfold q_lt
  repeat' split
  all_goals decide
theorem q_state (hI : q_I D E W s l x y u v) (h0 : ¬ s 94 = 0) (hb : (x 22).toInt + 1 ≤ 3 * (x 1).toInt) : q_Bp D E W (pf_X11_sendState s l x y) (pf_X12_sendSlow s l u v) s l x y v := by
  have hr := hI.1
  have c22 := hI.2.2.1.2.2.2.1
  have n1 : ¬ (1 : Int32) = 0 := by decide
  have a17 := q_R17 hr
  have a5 : -10000 ≤ (s 34005).toInt ∧ (s 34005).toInt ≤ 30000 := q_val34 hr 5 (by omega)
  have z40 : (40 : Int32).toInt = 40 := rfl
  have e40 : (s 34005).toInt64 + 40 = (s 34005 + 40).toInt64 := q_add64 (a := s 34005) (b := 40) (by rw [z40]; omega) (by rw [z40]; omega)
  have zb : ∀ w : Int64, (q_ct w 0 255).toInt32 = q_cl w 0 255 := fun w => q_cut_cl w 0 255
  have c := q_clI (a := s 34005 + 40) (lo := 0) (hi := 255) (by decide)
  simp only [Int32.reduceToInt] at c
  have t1 : ∀ a : Int32, 128 * (if a = 0 then (0 : Int32) else 1) = (if a = 0 then 0 else 128) := by intro a; split <;> rfl
  have t2 : ∀ a : Int32, 2 * (if a = 0 then (0 : Int32) else 1) = (if a = 0 then 0 else 2) := by intro a; split <;> rfl
  have lt := q_ltV (s := s)
  generalize hco : q_cl (s 34005 + 40).toInt64 0 255 = co at c
  have bco : co &&& (255 : Int32) = co := q_by c.1 c.2
  generalize hr0 : (l 61 / 1000).toInt32 = r
  have f1 : ((pj_reml (l 61 / 1000) 65536).toInt32 >>> (8 : Int32)) &&& (255 : Int32) = (r >>> (8 : Int32)) &&& (255 : Int32) := by
    rw [← q_mid, q_rem16L, q_mid, hr0]
  have f2 : (pj_reml (l 61 / 1000) 65536).toInt32 &&& (255 : Int32) = r &&& (255 : Int32) := by
    rw [← q_m255, q_rem16L, q_m255, hr0]
  have f3 : (pj_rem (s 54) 65536 >>> (8 : Int32)) &&& (255 : Int32) = (s 54 >>> (8 : Int32)) &&& (255 : Int32) := by
    rw [← q_mid, q_rem16, q_mid]
  have f4 : pj_rem (s 54) 65536 &&& (255 : Int32) = s 54 &&& (255 : Int32) := by
    rw [← q_m255, q_rem16, q_m255]
  have hC : pf_X11_sendState s l x y = pj_b (pf_X1_send 1056 (((co <<< (24 : Int32)) ||| ((r &&& (65535 : Int32)) <<< (8 : Int32))) ||| ((s 54 &&& (65535 : Int32)) >>> (8 : Int32))) ((((s 54 &&& (255 : Int32)) <<< (16 : Int32)) ||| (q_lt s <<< (8 : Int32))) ||| s 17) s l x y) (fun _ s2 l2 x2 y2 => some ((), (pj_u s2 17 (pj_rem (s2 17 + 1) 16)), l2, x2, y2)) := by
    unfold pf_X11_sendState
    simp only [q_clip, q_bit, q_lmC, q_b, hco, hr0, q_m255, t1, t2]
    rfl
  have U : ∃ U : Nat → Int32, U = pj_u (pj_u (pj_u (pj_u (pj_u (pj_u (pj_u u 12000 co) 12001 ((r >>> (8 : Int32)) &&& (255 : Int32))) 12002 (r &&& (255 : Int32))) 12003 ((s 54 >>> (8 : Int32)) &&& (255 : Int32))) 12004 (s 54 &&& (255 : Int32))) 12005 (q_lt s)) 12006 (s 17) := ⟨_, rfl⟩
  obtain ⟨U, hU⟩ := U
  have hR : pf_X12_sendSlow s l u v = pf_X12_sendFrame 1056 (pj_u s 17 (pj_rem (s 17 + 1) 16)) l U v := by
    have id9 : ∀ o : Option (Unit × pj_Z), pj_b o (fun _ s2 l2 x2 y2 => some ((), s2, l2, x2, y2)) = o := by
      intro o
      rcases o with - | ⟨⟨⟩, s2, l2, x2, y2⟩
      · rfl
      · rfl
    unfold pf_X12_sendSlow
    rw [q_cut, q_b, e40, zb, hco]
    have t := q_two (k := 1) (s := s) (l := l) (u := pj_u u 12000 co) (v := v) (by omega) (pj_reml (l 61 / 1000) 65536).toInt32
    rw [f1, f2] at t
    have t : pf_X12_twoBytes 1 (pj_reml (l 61 / 1000) 65536).toInt32 s l (pj_u u 12000 co) v = some ((), s, l, pj_u (pj_u (pj_u u 12000 co) 12001 ((r >>> (8 : Int32)) &&& (255 : Int32))) 12002 (r &&& (255 : Int32)), v) := t
    rw [t, q_b]
    have t := q_two (k := 3) (s := s) (l := l) (u := pj_u (pj_u (pj_u u 12000 co) 12001 ((r >>> (8 : Int32)) &&& (255 : Int32))) 12002 (r &&& (255 : Int32))) (v := v) (by omega) (pj_rem (s 54) 65536)
    rw [f3, f4] at t
    have t : pf_X12_twoBytes 3 (pj_rem (s 54) 65536) s l (pj_u (pj_u (pj_u u 12000 co) 12001 ((r >>> (8 : Int32)) &&& (255 : Int32))) 12002 (r &&& (255 : Int32))) v = some ((), s, l, pj_u (pj_u (pj_u (pj_u (pj_u u 12000 co) 12001 ((r >>> (8 : Int32)) &&& (255 : Int32))) 12002 (r &&& (255 : Int32))) 12003 ((s 54 >>> (8 : Int32)) &&& (255 : Int32))) 12004 (s 54 &&& (255 : Int32)), v) := t
    rw [t, q_b, q_lmR, q_b, hU]
    unfold pl_X12_sendSlow_75 pl_X12_sendSlow_87 pl_X12_sendSlow_100 q_lt
    simp only [id9]
    by_cases d1 : q_lm s = 0
    · by_cases d2 : s 38 = 0
      · by_cases d3 : s 39 = 0
        · simp only [if_pos d1, if_pos d2, if_pos d3]
        · simp only [if_pos d1, if_pos d2, if_neg d3]
      · by_cases d3 : s 39 = 0
        · simp only [if_pos d1, if_neg d2, if_pos d3]
        · simp only [if_pos d1, if_neg d2, if_neg d3]
    · by_cases d2 : s 38 = 0
      · by_cases d3 : s 39 = 0
        · simp only [if_neg d1, if_pos d2, if_pos d3]
        · simp only [if_neg d1, if_pos d2, if_neg d3]
      · by_cases d3 : s 39 = 0
        · simp only [if_neg d1, if_neg d2, if_pos d3]
        · simp only [if_neg d1, if_neg d2, if_neg d3]
  have P := q_sendP (s := s) (l := l) (x := x) (y := y) (u := U) (v := v) (b0 := co) (b1 := (r >>> (8 : Int32)) &&& (255 : Int32)) (b2 := r &&& (255 : Int32)) (b3 := (s 54 >>> (8 : Int32)) &&& (255 : Int32)) (b4 := s 54 &&& (255 : Int32)) (b5 := q_lt s) (b6 := s 17) bco (q_255i _) (q_255i _) (q_255i _) (q_255i _) (q_by lt.1 (by omega)) (q_by a17.1 (by omega)) c22.2.1 c22.1 1056 (hi := ((co <<< (24 : Int32)) ||| ((r &&& (65535 : Int32)) <<< (8 : Int32))) ||| ((s 54 &&& (65535 : Int32)) >>> (8 : Int32))) (by unfold q_f4; rw [q_hi2]) rfl (by rw [hU]; simp (disch := omega) only [q_un, q_ua]) (by rw [hU]; simp (disch := omega) only [q_un, q_ua]) (by rw [hU]; simp (disch := omega) only [q_un, q_ua]) (by rw [hU]; simp (disch := omega) only [q_un, q_ua]) (by rw [hU]; simp (disch := omega) only [q_un, q_ua]) (by rw [hU]; simp (disch := omega) only [q_un, q_ua]) (by rw [hU]; simp (disch := omega) only [q_ua])
  obtain ⟨p, q, cc, P1, P2⟩ := P
  have k := q_sl_lt (x := x)
  have e22 : (x 22 + 1).toInt = (x 22).toInt + 1 := q_one (by omega) (by have p1 := hI.2.2.1.1; have p5 := hI.2.2.1.2.2.2.2; omega)
  rw [hC, hR, P1, P2, q_b, q_sd_w (by omega), q_sd_out k (by omega)]
  refine ⟨_, _, _, _, rfl, rfl, q_sent hI h0 hb (q_R_u (q_R_sd k hr) (q_cnt16 a17)) ?_ ?_, ?_, ?_, ?_, ?_, ?_, ?_, ?_⟩
  · intro w hw; unfold q_Ss at hw; rw [q_un (by omega), q_sd_out k (by omega)]
  · intro w hw; unfold q_Us at hw; rw [q_un (by omega), hU]; simp (disch := omega) only [q_un]
  · rw [q_un (by omega), q_sd_out k (by omega)]
  · rw [q_un (by omega), q_sd_out k (by omega)]
  · rw [q_un (by omega)]
  · rw [q_un (by omega)]
  · rw [q_un (by omega)]
  · rw [q_un (by omega)]
  · rw [q_ua, e22]; omega
theorem q_chal (hI : q_I D E W s l x y u v) (h0 : ¬ s 94 = 0) (hb : (x 22).toInt + 1 ≤ 3 * (x 1).toInt) {F : Unit → (Nat → Int32) → (Nat → Int64) → (Nat → Int32) → (Nat → Int64) → Option (Unit × pj_Z)} : ∃ s' u', pf_X1_send 1280 (s 18) 0 s l x y = some ((), s', l, pj_u x 22 (x 22 + 1), y) ∧ pj_b (pf_X12_twoBytes 0 (pj_shr (s 18) 16) s l u v) (fun r1 s1 l1 x1 y1 => pj_b (pf_X12_twoBytes 2 (s1 18) s1 l1 x1 y1) (fun r2 s2 l2 x2 y2 => pj_b (pf_X12_twoBytes 4 0 s2 l2 x2 y2) (fun r3 s3 l3 x3 y3 => pj_b (pf_X12_sendFrame 1280 s3 l3 (pj_u x3 12006 0) y3) F))) = F () s' l u' (pj_u v 20 (v 20 + 1)) ∧ q_I D E W s' l (pj_u x 22 (x 22 + 1)) y u' (pj_u v 20 (v 20 + 1)) ∧ (∀ w, w < 5000 ∨ 8000 ≤ w → s' w = s w) := by
  have hr := hI.1
  have c22 := hI.2.2.1.2.2.2.1
  have U : ∃ U : Nat → Int32, U = pj_u (pj_u (pj_u (pj_u (pj_u (pj_u (pj_u u 12000 (((pj_shr (s 18) 16) >>> (8 : Int32)) &&& (255 : Int32))) 12001 ((pj_shr (s 18) 16) &&& (255 : Int32))) 12002 ((s 18 >>> (8 : Int32)) &&& (255 : Int32))) 12003 (s 18 &&& (255 : Int32))) 12004 (((0 : Int32) >>> (8 : Int32)) &&& (255 : Int32))) 12005 ((0 : Int32) &&& (255 : Int32))) 12006 0 := ⟨_, rfl⟩
  obtain ⟨U, hU⟩ := U
  have P := q_sendP (s := s) (l := l) (x := x) (y := y) (u := U) (v := v) (b0 := ((pj_shr (s 18) 16) >>> (8 : Int32)) &&& (255 : Int32)) (b1 := (pj_shr (s 18) 16) &&& (255 : Int32)) (b2 := (s 18 >>> (8 : Int32)) &&& (255 : Int32)) (b3 := s 18 &&& (255 : Int32)) (b4 := 0) (b5 := 0) (b6 := 0) (q_255i _) (q_255i _) (q_255i _) (q_255i _) rfl rfl rfl c22.2.1 c22.1 1280 (hi := s 18) (q_four _) (lo := 0) rfl (by rw [hU]; simp (disch := omega) only [q_un, q_ua]) (by rw [hU]; simp (disch := omega) only [q_un, q_ua]) (by rw [hU]; simp (disch := omega) only [q_un, q_ua]) (by rw [hU]; simp (disch := omega) only [q_un, q_ua]) (by rw [hU]; simp (disch := omega) only [q_un, q_ua]; rfl) (by rw [hU]; simp (disch := omega) only [q_un, q_ua]; rfl) (by rw [hU]; simp (disch := omega) only [q_ua])
  obtain ⟨p, q, cc, P1, P2⟩ := P
  have k := q_sl_lt (x := x)
  have tt := fun (k : Nat) (hk : k < 7) (a : Int32) (u : Nat → Int32) => q_two (k := k) (s := s) (l := l) (u := u) (v := v) hk a
  have t0 : pf_X12_twoBytes 0 (pj_shr (s 18) 16) s l u v = some ((), s, l, pj_u (pj_u u 12000 (((pj_shr (s 18) 16) >>> (8 : Int32)) &&& (255 : Int32))) 12001 ((pj_shr (s 18) 16) &&& (255 : Int32)), v) := tt 0 (by omega) (pj_shr (s 18) 16) u
  have t2 : ∀ u : Nat → Int32, pf_X12_twoBytes 2 (s 18) s l u v = some ((), s, l, pj_u (pj_u u 12002 ((s 18 >>> (8 : Int32)) &&& (255 : Int32))) 12003 (s 18 &&& (255 : Int32)), v) := fun u => tt 2 (by omega) (s 18) u
  have t4 : ∀ u : Nat → Int32, pf_X12_twoBytes 4 0 s l u v = some ((), s, l, pj_u (pj_u u 12004 (((0 : Int32) >>> (8 : Int32)) &&& (255 : Int32))) 12005 ((0 : Int32) &&& (255 : Int32)), v) := fun u => tt 4 (by omega) 0 u
  refine ⟨_, _, P1, ?_, q_sent hI h0 hb (S := q_sd s (q_sl x) 1280 p q) (U := pj_u U 12007 cc) (q_R_sd k hr) ?_ ?_, fun w hw => q_sd_out k hw⟩
  · have z := P2 s
    rw [hU] at z
    rw [t0, q_b, t2, q_b, t4, q_b, z, q_b, hU]
  · intro w hw; unfold q_Ss at hw; rw [q_sd_out k (by omega)]
  · intro w hw; unfold q_Us at hw; rw [q_un (by omega), hU]; simp (disch := omega) only [q_un]
end QBW

/-! PURE: the BUS: the pair -/
section QBV
variable {s x u s' x' u' s1 x1 u1 s2 u2 : Nat → Int32} {l y v l' y' v' l2 v2 : Nat → Int64} {D E W : Int} {fu : Nat}
theorem q_sendP {b0 b1 b2 b3 b4 b5 b6 : Int32} (h0 : b0 &&& (255 : Int32) = b0) (h1 : b1 &&& (255 : Int32) = b1) (h2 : b2 &&& (255 : Int32) = b2) (h3 : b3 &&& (255 : Int32) = b3) (h4 : b4 &&& (255 : Int32) = b4) (h5 : b5 &&& (255 : Int32) = b5) (h6 : b6 &&& (255 : Int32) = b6) (h : 0 ≤ (x 22).toInt) (hv : v 20 = (x 22).toInt64) (a : Int32) {hi lo : Int32} (ehi : hi = q_f4 b0 b1 b2 b3) (elo : lo = ((b4 <<< (16 : Int32)) ||| (b5 <<< (8 : Int32))) ||| b6) (e0 : u 12000 = b0) (e1 : u 12001 = b1) (e2 : u 12002 = b2) (e3 : u 12003 = b3) (e4 : u 12004 = b4) (e5 : u 12005 = b5) (e6 : u 12006 = b6) : ∃ (p q c : Int32), pf_X1_send a hi lo s l x y = some ((), q_sd s (q_sl x) a p q, l, pj_u x 22 (x 22 + 1), y) ∧ (∀ s, pf_X12_sendFrame a s l u v = some ((), q_sd s (q_sl x) a p q, l, pj_u u 12007 c, pj_u v 20 (v 20 + 1))) := by
  have c := q_same7 h0 h1 h2 h3 h4 h5 h6
  refine ⟨q_f4 b0 b1 b2 b3, q_f4 b4 b5 b6 (((((((165 ^^^ b0) ^^^ b1) ^^^ b2) ^^^ b3) ^^^ b4) ^^^ b5) ^^^ b6), q_x7 u, ?_, ?_⟩
  · rw [q_sendC h, ehi, elo, c]
  · intro s
    rw [q_sendR h hv, e0, e1, e2, e3, e4, e5, e6]
    have z : q_x7 u = ((((((165 ^^^ b0) ^^^ b1) ^^^ b2) ^^^ b3) ^^^ b4) ^^^ b5) ^^^ b6 := by
      unfold q_x7
      rw [e0, e1, e2, e3, e4, e5, e6]
    rw [z]
/-- what a pair of the BUS gives -/
def q_Bp (D E W : Int) (F G : Option (Unit × pj_Z)) (s : Nat → Int32) (l : Nat → Int64) (x : Nat → Int32) (y : Nat → Int64) (v : Nat → Int64) : Prop := ∃ s' x' u' v', F = some ((), s', l, x', y) ∧ G = some ((), s', l, u', v') ∧ q_I D E W s' l x' y u' v' ∧ s' 94 = s 94 ∧ s' 95 = s 95 ∧ x' 1 = x 1 ∧ x' 2 = x 2 ∧ v' 13 = v 13 ∧ v' 12 = v 12 ∧ (x' 22).toInt ≤ (x 22).toInt + 1
theorem q_sent (hI : q_I D E W s l x y u v) (h0 : ¬ s 94 = 0) (hb : (x 22).toInt + 1 ≤ 3 * (x 1).toInt) {S U : Nat → Int32} (hr : q_R S) (hS : ∀ w, q_Ss w → S w = s w) (hU : ∀ w, q_Us w → U w = u w) : q_I D E W S l (pj_u x 22 (x 22 + 1)) y U (pj_u v 20 (v 20 + 1)) := by
  have q := q_I_22 hI h0 hb
  exact q_I_f q h0 hr hS (fun _ _ => rfl) hU
theorem q_rg5 {k : Nat} (hk : k < 64) : q_rg (5000 + k) = (-2147483648, 2147483647) ∧ q_rg (6000 + k) = (-2147483648, 2147483647) ∧ q_rg (7000 + k) = (-2147483648, 2147483647) := by
  unfold q_rg
  rw [show (5000 + k) / 1000 = 5 by omega, show (6000 + k) / 1000 = 6 by omega, show (7000 + k) / 1000 = 7 by omega]
  exact ⟨rfl, rfl, rfl⟩
theorem q_R_sd {k : Nat} (hk : k < 64) {a p q : Int32} (hr : q_R s) : q_R (q_sd s k a p q) := by
  have g := q_rg5 hk
  unfold q_sd
  refine q_R_u (q_R_u (q_R_u hr ?_) ?_) ?_
  · rw [g.1]; exact q_R_any
  · rw [g.2.1]; exact q_R_any
  · rw [g.2.2]; exact q_R_any
theorem q_sd_out {k w : Nat} (hk : k < 64) {a p q : Int32} (h : w < 5000 ∨ 8000 ≤ w) : q_sd s k a p q w = s w := by
  unfold q_sd
  rw [q_un (by omega), q_un (by omega), q_un (by omega)]
theorem q_sd_w {k z : Nat} (hz : z < 5000) {a p q m : Int32} : q_sd (pj_u s z m) k a p q = pj_u (q_sd s k a p q) z m := by
  unfold q_sd
  rw [q_u2 (f := s) (v := z) (w := 5000 + k) (by omega), q_u2 (f := pj_u s (5000 + k) a) (v := z) (w := 6000 + k) (by omega), q_u2 (f := pj_u (pj_u s (5000 + k) a) (6000 + k) p) (v := z) (w := 7000 + k) (by omega)]
theorem q_cnt16 {a : Int32} (h : 0 ≤ a.toInt ∧ a.toInt ≤ 15) : 0 ≤ (pj_rem (a + 1) 16).toInt ∧ (pj_rem (a + 1) 16).toInt ≤ 15 := by
  have e : (a + 1).toInt = a.toInt + 1 := q_one (by omega) (by omega)
  have r := q_remI (a := a + 1) (b := 16) (by rw [e]; omega) (by decide)
  have z : (16 : Int32).toInt = 16 := rfl
  rw [r, e, z]
  omega
def q_fl9 (s : Nat → Int32) : Int32 := ((((if s 29 = 0 then 0 else 1) + (if s 36 = 0 then 0 else 2)) + (if s 28 = 0 then 0 else 4)) + (if q_bq s = 0 then 0 else 8)) + (if s 81 = 2 then 16 else 0)
theorem q_fl9V : 0 ≤ (q_fl9 s).toInt ∧ (q_fl9 s).toInt ≤ 31 := by
  unfold q_fl9
  repeat' split
  all_goals decide
theorem q_motion (hI : q_I D E W s l x y u v) (h0 : ¬ s 94 = 0) (hb : (x 22).toInt + 1 ≤ 3 * (x 1).toInt) : q_Bp D E W (pf_X11_sendMotion s l x y) (pf_X12_sendFast s l u v) s l x y v := by
  have hr := hI.1
  have hw := hI.2.2.2.1
  have c22 := hI.2.2.1.2.2.2.1
  have n1 : ¬ (1 : Int32) = 0 := by decide
  have a52 := q_R52 hr
  have a16 := q_R16 hr
  have e200 : (s 52 / 200).toInt = (s 52).toInt / 200 := q_divI (by omega) (by decide)
  have zc : ∀ w : Int64, (q_ct w 0 65535).toInt32 = q_cl w 0 65535 := fun w => q_cut_cl w 0 65535
  have zb : ∀ w : Int64, (q_ct w 0 255).toInt32 = q_cl w 0 255 := fun w => q_cut_cl w 0 255
  have cb : ∀ z : Int32, q_cl z.toInt64 0 255 &&& (255 : Int32) = q_cl z.toInt64 0 255 := by
    intro z
    have c := q_clI (a := z) (lo := 0) (hi := 255) (by decide)
    simp only [Int32.reduceToInt] at c
    exact q_by c.1 c.2
  have f9 := q_fl9V (s := s)
  have t1 : ∀ a : Int32, 2 * (if a = 0 then (0 : Int32) else 1) = (if a = 0 then 0 else 2) := by intro a; split <;> rfl
  have t2 : ∀ a : Int32, 4 * (if a = 0 then (0 : Int32) else 1) = (if a = 0 then 0 else 4) := by intro a; split <;> rfl
  have t3 : ∀ a : Int32, 8 * (if a = 0 then (0 : Int32) else 1) = (if a = 0 then 0 else 8) := by intro a; split <;> rfl
  generalize hsp : q_cl ((x 5).toInt64 * 4) 0 65535 = sp
  generalize hpl : q_cl (s 72 / 4).toInt64 0 255 = pl
  generalize hpe : q_cl (s 71 / 4).toInt64 0 255 = pe
  have bpl : pl &&& (255 : Int32) = pl := by rw [← hpl]; exact cb _
  have bpe : pe &&& (255 : Int32) = pe := by rw [← hpe]; exact cb _
  have hC : pf_X11_sendMotion s l x y = pj_b (pf_X1_send 513 (((sp <<< (16 : Int32)) ||| (pl <<< (8 : Int32))) ||| pe) (((q_fl9 s <<< (16 : Int32)) ||| ((s 52 / 200) <<< (8 : Int32))) ||| s 16) s l x y) (fun _ s2 l2 x2 y2 => some ((), (pj_u s2 16 (pj_rem (s2 16 + 1) 16)), l2, x2, y2)) := by
    unfold pf_X11_sendMotion pl_X11_sendMotion_121
    simp only [q_clip, q_bit, q_bqC, q_b, hsp, hpl, hpe, t1, t2, t3]
    unfold q_fl9
    by_cases c : s 81 = 2
    · simp only [if_pos c, if_neg n1]
      rfl
    · simp only [if_neg c, if_true]
      rfl
  have U : ∃ U : Nat → Int32, U = pj_u (pj_u (pj_u (pj_u (pj_u (pj_u (pj_u u 12000 ((sp >>> (8 : Int32)) &&& (255 : Int32))) 12001 (sp &&& (255 : Int32))) 12002 pl) 12003 pe) 12004 (q_fl9 s)) 12005 (s 52 / 200)) 12006 (s 16) := ⟨_, rfl⟩
  obtain ⟨U, hU⟩ := U
  have hR : pf_X12_sendFast s l u v = pf_X12_sendFrame 513 (pj_u s 16 (pj_rem (s 16 + 1) 16)) l U v := by
    have id9 : ∀ o : Option (Unit × pj_Z), pj_b o (fun _ s2 l2 x2 y2 => some ((), s2, l2, x2, y2)) = o := by
      intro o
      rcases o with - | ⟨⟨⟩, s2, l2, x2, y2⟩
      · rfl
      · rfl
    unfold pf_X12_sendFast
    rw [q_spd hw rfl rfl, q_b, q_cut, q_b, zc, hsp]
    have t := q_two (k := 0) (s := s) (l := l) (u := u) (v := v) (by omega) sp
    have t : pf_X12_twoBytes 0 sp s l u v = some ((), s, l, pj_u (pj_u u 12000 ((sp >>> (8 : Int32)) &&& (255 : Int32))) 12001 (sp &&& (255 : Int32)), v) := t
    rw [t, q_b, q_cut, q_b, zb, hpl, q_cut, q_b, zb, hpe, hU]
    unfold pl_X12_sendFast_81 pl_X12_sendFast_93 pl_X12_sendFast_106 pl_X12_sendFast_120 pl_X12_sendFast_135 q_fl9
    simp only [q_bqR, q_b, id9]
    by_cases d1 : s 29 = 0
    · by_cases d2 : s 36 = 0
      · by_cases d3 : s 28 = 0
        · by_cases d4 : q_bq s = 0
          · by_cases d5 : s 81 = 2
            · simp only [if_pos d1, if_pos d2, if_pos d3, if_pos d4, if_pos d5]
            · simp only [if_pos d1, if_pos d2, if_pos d3, if_pos d4, if_neg d5]
          · by_cases d5 : s 81 = 2
            · simp only [if_pos d1, if_pos d2, if_pos d3, if_neg d4, if_pos d5]
            · simp only [if_pos d1, if_pos d2, if_pos d3, if_neg d4, if_neg d5]
        · by_cases d4 : q_bq s = 0
          · by_cases d5 : s 81 = 2
            · simp only [if_pos d1, if_pos d2, if_neg d3, if_pos d4, if_pos d5]
            · simp only [if_pos d1, if_pos d2, if_neg d3, if_pos d4, if_neg d5]
          · by_cases d5 : s 81 = 2
            · simp only [if_pos d1, if_pos d2, if_neg d3, if_neg d4, if_pos d5]
            · simp only [if_pos d1, if_pos d2, if_neg d3, if_neg d4, if_neg d5]
      · by_cases d3 : s 28 = 0
        · by_cases d4 : q_bq s = 0
          · by_cases d5 : s 81 = 2
            · simp only [if_pos d1, if_neg d2, if_pos d3, if_pos d4, if_pos d5]
            · simp only [if_pos d1, if_neg d2, if_pos d3, if_pos d4, if_neg d5]
          · by_cases d5 : s 81 = 2
            · simp only [if_pos d1, if_neg d2, if_pos d3, if_neg d4, if_pos d5]
            · simp only [if_pos d1, if_neg d2, if_pos d3, if_neg d4, if_neg d5]
        · by_cases d4 : q_bq s = 0
          · by_cases d5 : s 81 = 2
            · simp only [if_pos d1, if_neg d2, if_neg d3, if_pos d4, if_pos d5]
            · simp only [if_pos d1, if_neg d2, if_neg d3, if_pos d4, if_neg d5]
          · by_cases d5 : s 81 = 2
            · simp only [if_pos d1, if_neg d2, if_neg d3, if_neg d4, if_pos d5]
            · simp only [if_pos d1, if_neg d2, if_neg d3, if_neg d4, if_neg d5]
    · by_cases d2 : s 36 = 0
      · by_cases d3 : s 28 = 0
        · by_cases d4 : q_bq s = 0
          · by_cases d5 : s 81 = 2
            · simp only [if_neg d1, if_pos d2, if_pos d3, if_pos d4, if_pos d5]
            · simp only [if_neg d1, if_pos d2, if_pos d3, if_pos d4, if_neg d5]
          · by_cases d5 : s 81 = 2
            · simp only [if_neg d1, if_pos d2, if_pos d3, if_neg d4, if_pos d5]
            · simp only [if_neg d1, if_pos d2, if_pos d3, if_neg d4, if_neg d5]
        · by_cases d4 : q_bq s = 0
          · by_cases d5 : s 81 = 2
            · simp only [if_neg d1, if_pos d2, if_neg d3, if_pos d4, if_pos d5]
            · simp only [if_neg d1, if_pos d2, if_neg d3, if_pos d4, if_neg d5]
          · by_cases d5 : s 81 = 2
            · simp only [if_neg d1, if_pos d2, if_neg d3, if_neg d4, if_pos d5]
            · simp only [if_neg d1, if_pos d2, if_neg d3, if_neg d4, if_neg d5]
      · by_cases d3 : s 28 = 0
        · by_cases d4 : q_bq s = 0
          · by_cases d5 : s 81 = 2
            · simp only [if_neg d1, if_neg d2, if_pos d3, if_pos d4, if_pos d5]
            · simp only [if_neg d1, if_neg d2, if_pos d3, if_pos d4, if_neg d5]
          · by_cases d5 : s 81 = 2
            · simp only [if_neg d1, if_neg d2, if_pos d3, if_neg d4, if_pos d5]
            · simp only [if_neg d1, if_neg d2, if_pos d3, if_neg d4, if_neg d5]
        · by_cases d4 : q_bq s = 0
          · by_cases d5 : s 81 = 2
            · simp only [if_neg d1, if_neg d2, if_neg d3, if_pos d4, if_pos d5]
            · simp only [if_neg d1, if_neg d2, if_neg d3, if_pos d4, if_neg d5]
          · by_cases d5 : s 81 = 2
            · simp only [if_neg d1, if_neg d2, if_neg d3, if_neg d4, if_pos d5]
            · simp only [if_neg d1, if_neg d2, if_neg d3, if_neg d4, if_neg d5]
  have P := q_sendP (s := s) (l := l) (x := x) (y := y) (u := U) (v := v) (b0 := (sp >>> (8 : Int32)) &&& (255 : Int32)) (b1 := sp &&& (255 : Int32)) (b2 := pl) (b3 := pe) (b4 := q_fl9 s) (b5 := s 52 / 200) (b6 := s 16) (q_255i _) (q_255i _) bpl bpe (q_by f9.1 (by omega)) (q_by (by rw [e200]; omega) (by rw [e200]; omega)) (q_by a16.1 (by omega)) c22.2.1 c22.1 513 (hi := ((sp <<< (16 : Int32)) ||| (pl <<< (8 : Int32))) ||| pe) (by unfold q_f4; rw [q_top2 sp]) rfl (by rw [hU]; simp (disch := omega) only [q_un, q_ua]) (by rw [hU]; simp (disch := omega) only [q_un, q_ua]) (by rw [hU]; simp (disch := omega) only [q_un, q_ua]) (by rw [hU]; simp (disch := omega) only [q_un, q_ua]) (by rw [hU]; simp (disch := omega) only [q_un, q_ua]) (by rw [hU]; simp (disch := omega) only [q_un, q_ua]) (by rw [hU]; simp (disch := omega) only [q_ua])
  obtain ⟨p, q, c, P1, P2⟩ := P
  have k := q_sl_lt (x := x)
  have e22 : (x 22 + 1).toInt = (x 22).toInt + 1 := q_one (by omega) (by have p1 := hI.2.2.1.1; have p5 := hI.2.2.1.2.2.2.2; omega)
  rw [hC, hR, P1, P2, q_b, q_sd_w (by omega), q_sd_out k (by omega)]
  refine ⟨_, _, _, _, rfl, rfl, q_sent hI h0 hb (q_R_u (q_R_sd k hr) (q_cnt16 a16)) ?_ ?_, ?_, ?_, ?_, ?_, ?_, ?_, ?_⟩
  · intro w hw; unfold q_Ss at hw; rw [q_un (by omega), q_sd_out k (by omega)]
  · intro w hw; unfold q_Us at hw; rw [q_un (by omega), hU]; simp (disch := omega) only [q_un]
  · rw [q_un (by omega), q_sd_out k (by omega)]
  · rw [q_un (by omega), q_sd_out k (by omega)]
  · rw [q_un (by omega)]
  · rw [q_un (by omega)]
  · rw [q_un (by omega)]
  · rw [q_un (by omega)]
  · rw [q_ua, e22]; omega
end QBV

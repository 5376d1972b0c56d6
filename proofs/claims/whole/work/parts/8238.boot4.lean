/-! PURE: BOOT: both sides in closed form -/
section QBR
variable {s x u s' x' u' : Nat → Int32} {l y v l' y' v' : Nat → Int64} {D E W : Int} {fu f k n : Nat} {t : Int64} {a b d e p r g : Int32}
def q_B13 (s : Nat → Int32) : Int32 := if s 12 = 0 then 0 else 1
def q_B18 (s : Nat → Int32) : Int32 := if s 12 = 0 then 0 else (s 56 + 1) * 1103515245 + 12345
def q_bc1 (c : Nat) (s : Nat → Int32) (a b d e g : Int32) : Nat → Int32 := pj_u (pj_u (q_mq s (q_ce c 0 (pj_u (pj_u (q_tm1 c 0 (pj_u s 56 a)) 87 e) 88 g))) 13 b) 18 d
def q_bc2 (c : Nat) (s : Nat → Int32) (a b d e g : Int32) : Nat → Int32 := pj_u (q_ce c 0 (pj_u (q_tm1 c 0 (q_mq s (pj_u (pj_u (pj_u s 56 a) 13 b) 18 d))) 87 e)) 88 g
theorem q_bc12 {c : Nat} (hc : c < 2) : q_bc1 c s a b d e g = q_bc2 c s a b d e g := by
  funext w
  unfold q_bc1 q_bc2
  by_cases w1 : w = 18
  · subst w1
    rw [q_ua, q_un (by omega), q_ce_o (by omega), q_un (by omega), q_tm1_o (by omega), q_mq_o (by omega), q_ua]
  rw [q_un w1]
  by_cases w2 : w = 13
  · subst w2
    rw [q_ua, q_un (by omega), q_ce_o (by omega), q_un (by omega), q_tm1_o (by omega), q_mq_o (by omega), q_un (by omega), q_ua]
  rw [q_un w2]
  by_cases w3 : w = 88
  · subst w3
    rw [q_ua, q_mq_o (by omega), q_ce_o (by omega), q_ua]
  rw [q_un w3]
  by_cases w4 : w = 87
  · subst w4
    rw [q_mq_o (by omega), q_ce_o (by omega), q_un (by omega), q_ua, q_ce_o (by omega), q_ua]
  by_cases w5 : w = 56
  · subst w5
    rw [q_mq_o (by omega), q_ce_o (by omega), q_un (by omega), q_un (by omega), q_tm1_o (by omega), q_ua, q_ce_o (by omega), q_un (by omega), q_tm1_o (by omega), q_mq_o (by omega), q_un (by omega), q_un (by omega), q_ua]
  by_cases r1 : 12000 ≤ w ∧ w < 12032
  · rw [q_mq_c (s' := s) (fun z _ _ => by rw [q_ce_o (by omega), q_un (by omega), q_un (by omega), q_tm1_o (by omega), q_un (by omega)]) (by rw [q_ce_o (by omega), q_un (by omega), q_un (by omega), q_tm1_o (by omega), q_un (by omega)])]
    rw [q_ce_o (by omega), q_un (by omega), q_tm1_o (by omega)]
    rw [q_mq_c (s := pj_u (pj_u (pj_u s 56 a) 13 b) 18 d) (s' := s) (fun z _ _ => by rw [q_un (by omega), q_un (by omega), q_un (by omega)]) (by rw [q_un (by omega), q_un (by omega), q_un (by omega)])]
  · rw [q_mq_o (by omega)]
    by_cases r2 : 9000 ≤ w ∧ w < 9016
    · rw [q_ce_c (s' := s) hc (fun z _ _ => by rw [q_un (by omega), q_un (by omega), q_tm1_o (by omega), q_un (by omega)]) (by rw [q_un (by omega), q_un (by omega), q_tm1_o (by omega), q_un (by omega)])]
      rw [q_ce_c (s := pj_u (q_tm1 c 0 (q_mq s (pj_u (pj_u (pj_u s 56 a) 13 b) 18 d))) 87 e) (s' := s) hc (fun z _ _ => by rw [q_un (by omega), q_tm1_o (by omega), q_mq_o (by omega), q_un (by omega), q_un (by omega), q_un (by omega)]) (by rw [q_un (by omega), q_tm1_o (by omega), q_mq_o (by omega), q_un (by omega), q_un (by omega), q_un (by omega)])]
    · rw [q_ce_o (by omega), q_ce_o (by omega), q_un (by omega), q_un (by omega), q_un (by omega)]
      rw [q_tm1_c (s' := s) hc (fun z _ _ => q_un (by omega)) (q_un (by omega))]
      rw [q_tm1_c (s := q_mq s (pj_u (pj_u (pj_u s 56 a) 13 b) 18 d)) (s' := s) hc (fun z _ _ => by rw [q_mq_o (by omega), q_un (by omega), q_un (by omega), q_un (by omega)]) (by rw [q_mq_o (by omega), q_un (by omega), q_un (by omega), q_un (by omega)])]
def q_bn1 (s : Nat → Int32) (a b d : Int32) : Nat → Int32 := pj_u (pj_u (q_mq s (pj_u s 56 a)) 13 b) 18 d
def q_bn2 (s : Nat → Int32) (a b d : Int32) : Nat → Int32 := q_mq s (pj_u (pj_u (pj_u s 56 a) 13 b) 18 d)
theorem q_bn12 : q_bn1 s a b d = q_bn2 s a b d := by
  funext w
  unfold q_bn1 q_bn2
  by_cases w1 : w = 18
  · subst w1
    rw [q_ua, q_mq_o (by omega), q_ua]
  rw [q_un w1]
  by_cases w2 : w = 13
  · subst w2
    rw [q_ua, q_mq_o (by omega), q_un (by omega), q_ua]
  rw [q_un w2]
  exact q_mq_c (fun z _ _ => by rw [q_un (show ¬ z = 18 by omega), q_un (show ¬ z = 13 by omega)]) (by rw [q_un w1, q_un w2])
-- the class
theorem q_b69 (h : x 2001 = q_valB s') (g : ∀ z, 14000 ≤ z → z < 14068 → s z = s' z) : pl_X11_boot_69 s l x y = some ((), pj_u (pj_u (q_mq s' s) 13 (if s 12 = 0 then 0 else 1)) 18 (if s 12 = 0 then 0 else s 56 * 1103515245 + 12345), l, pj_u x 29 0, y) := by
  have e1 : pf_X4_takeOverMaps s l x y = some ((), q_mq s' s, l, x, y) := by
    unfold pf_X4_takeOverMaps q_mq
    rw [h]
    rcases q_valB3 (s := s') with z | ⟨c, hc, z, -⟩
    · rw [z, if_neg (by decide), if_neg (by decide), if_pos rfl]
    · rw [z]
      have n : ¬ Int32.ofNat c = -1 := q_encn (by omega)
      rw [if_neg n, q_mpC hc, q_onC (by omega)]
      have c2 : c = 0 ∨ c = 1 := by omega
      rcases c2 with q | q
      · subst q; rw [if_pos (show Int32.ofNat 0 = 0 by decide)]
      · subst q; rw [if_neg (show ¬ Int32.ofNat 1 = 0 by decide), if_pos (show Int32.ofNat 1 = 1 by decide)]
  unfold pl_X11_boot_69
  rw [e1, q_b]
  unfold pf_X1_bar pl_X1_bar_13 pl_X1_bar_36
  rw [q_mq_o (w := 12) (by omega), q_mq_o (w := 56) (by omega)]
  by_cases c : s 12 = 0
  · rw [if_pos c, if_pos c, if_pos c, q_bz (Or.inl rfl), if_pos rfl, q_b]
  · rw [if_neg c, if_neg c, if_neg c, q_bz (Or.inr rfl), if_neg (by decide), q_b]
def q_tkX (c : Nat) (s x : Nat → Int32) (e : Int32) : Nat → Int32 := if e = 0 then q_fx c 0 (pj_u (q_tm1 c 0 s) 87 e) x else pj_u (q_fx c 0 (pj_u (q_tm1 c 0 s) 87 e) x) 8000 (q_fx c 0 (pj_u (q_tm1 c 0 s) 87 e) x 8000 - 1)
theorem q_tkC {c : Nat} (hc : c < 2) : pf_X10_takeOver c s l x y = some ((), pj_u (pj_u (q_tm1 c 0 s) 87 (q_b87 (s (13000 + 55 * c + 29)))) 88 (s (13000 + 55 * c + 53)), l, q_tkX c s x (q_b87 (s (13000 + 55 * c + 29))), y) := by
  obtain ⟨f', z⟩ := q_tk1C (fu := 1000) (l := l) (x := x) (y := y) hc 28 0 1000 s (by omega) (by omega)
  have z' : pl_X10_takeOver_10 1000 1000 c 0 s l x y = _ := z
  have n : ¬ Int32.ofNat 28 < 28 := by decide
  unfold pf_X10_takeOver po_X10_takeOver
  rw [q_r hc, z', pl_X10_takeOver_10, if_neg n, q_r hc, q_r hc, q_tm1_o (w := 13000 + 55 * c + 29) (by omega)]
  have k : ∀ b9 : Int32, (b9 = 0 ∨ b9 = 1) → pl_X10_takeOver_112 1000 c b9 (q_tm1 c 0 s) l x y = some ((), pj_u (pj_u (q_tm1 c 0 s) 87 b9) 88 (s (13000 + 55 * c + 53)), l, q_tkX c s x b9, y) := by
    intro b9 hb
    have fx := q_fxC (s := pj_u (q_tm1 c 0 s) 87 b9) (l := l) (y := y) (fu := 1000) hc 8 0 1000 x (by omega) (by omega)
    have fx' : pl_X10_takeOver_117 1000 1000 c 0 (pj_u (q_tm1 c 0 s) 87 b9) l x y = _ := fx
    unfold pl_X10_takeOver_112 q_tkX
    rw [q_bz hb, fx', q_un (show ¬ 13000 + 55 * c + 53 = 87 by omega), q_tm1_o (w := 13000 + 55 * c + 53) (by omega), q_ua]
  unfold pl_X10_takeOver_111
  rw [k 0 (Or.inl rfl), k 1 (Or.inr rfl)]
  unfold q_b87
  by_cases c1 : s (13000 + 55 * c + 29) < 1
  · rw [if_pos c1, if_pos c1]
  · rw [if_neg c1, if_neg c1]
    by_cases c2 : 28 < s (13000 + 55 * c + 29)
    · rw [if_pos c2, if_pos c2]
    · rw [if_neg c2, if_neg c2]
end QBR

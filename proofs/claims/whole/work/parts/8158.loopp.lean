/-! PURE: one LOOP: the pair, whole -/
section QLS
variable {s x u s' x' u' : Nat → Int32} {l y v l' y' v' : Nat → Int64} {D E W : Int} {t : Int64}
theorem q_tailE (hI : q_I 10000 E W s l x y u v) (h0 : ¬ s 94 = 0) (a : Int32) (ha : (1 < v 12) ↔ a = 0) (hK : q_Kl x (pj_u v 13 (q_n13 s v))) (hA : q_Af s) (hW : W + 60 < 2147483647) (hE : E + 32 < 2147483647) (h30 : (v 30).toInt * 10000 + 10000 ≤ (l 93).toInt) (h22 : (x 22).toInt + 3 ≤ 3 * (x 1).toInt) : q_Lp (E + 32) (W + 60) (l 93) (pl_X11_oneLoop_96 a s l x y) (pl_X12_loop_25 s l u v) := by
  obtain ⟨s1, f1, f2, hI1, e94, e95⟩ := q_readP hI h0 a ha
  have n1 : ¬ s1 94 = 0 := by rw [e94]; exact h0
  obtain ⟨s2, l2, x2, y2, u2, v2, g1, g2, hI2, k94, k93, k1, k2, k22, k13, k30, k95⟩ := q_stallP hI1 n1 (by omega)
  have en : q_n13 s2 v2 = q_n13 s v := by unfold q_n13; rw [k94, e94, k13]
  have e12 : v2 12 = v 12 := by rw [hI2.2.2.1.1.1, k1, ← hI1.2.2.1.1.1]
  have q := q_tailD hI2 (by rw [k94]; exact n1) a (by rw [e12]; exact ha) (by
      unfold q_Kl at hK ⊢
      rw [en, q_ua, k1, k2]
      rw [q_ua] at hK; exact hK) (by unfold q_Af at hA ⊢; rw [k94, k95, e94, e95]; exact hA) hW (by omega) (by rw [k30, k93]; exact h30) (by rw [k22, k1]; exact h22)
  rw [k93, show E + 16 + 16 = E + 32 by omega] at q
  refine q_Lp_I ?_ ?_ q
  · unfold pl_X11_oneLoop_96
    rw [f1, q_b, g1, q_b]
  · unfold pl_X12_loop_25
    rw [f2, q_b]
    by_cases c : s1 19 = 0
    · rw [if_pos c] at g2 ⊢
      cases g2; rfl
    · rw [if_neg c] at g2 ⊢
      by_cases d : l 93 - l 20 < (s1 10002).toInt64
      · rw [if_pos d] at g2 ⊢
        cases g2; rfl
      · rw [if_neg d] at g2 ⊢
        rw [g2, q_b]
theorem q_I_1 (hI : q_I D E W s l x y u v) (h0 : ¬ s 94 = 0) (hx : (x 1).toInt * 10000 + 10000 ≤ (l 93).toInt) (k1 : x' 1 = x 1 + 1) (kk : ∀ w, ¬ w = 1 → ¬ w = 2 → x' w = x w) : q_I D E W s l x' y u (pj_u v 12 (v 12 + 1)) := by
  obtain ⟨h1, h2, h3, h4, h5, h6, h7, h8, h9, h10, h11, h12, h13, h14⟩ := hI
  obtain ⟨c1, c2, c3, c4, c5⟩ := h3
  have e : (x 1 + 1).toInt = (x 1).toInt + 1 := q_one (by omega) (by omega)
  refine ⟨h1, h2, ⟨?_, ?_, ?_, ?_, c5⟩, q_Wl_c h4 rfl rfl rfl rfl rfl ?_ ?_ ?_ ?_ rfl rfl ?_, q_Pl_c h5 rfl ?_ rfl rfl rfl rfl rfl ?_ ?_, q_Wt_c h6 rfl rfl ?_ (fun _ _ _ => rfl), q_Fg_c h7 rfl rfl rfl rfl rfl ?_ ?_ ?_ ?_ ?_ ?_ rfl rfl rfl rfl rfl rfl rfl rfl ?_, q_Fm_c h8 rfl ?_ (fun _ _ _ => rfl), q_Rc_c h9 rfl ?_ ?_ ?_ rfl ?_, q_Vd_c h10 (fun _ _ _ => rfl) ?_, h11, q_Pg_c h12 ?_ ?_ rfl (fun _ _ _ => rfl), q_Es_c h13 rfl (fun _ _ => rfl) (fun _ _ _ => rfl) rfl (fun _ _ _ => rfl) ?_ (fun _ _ _ => rfl) (q_Ld_i rfl (fun _ _ => rfl) (kk 21 (by omega) (by omega))), fun z => absurd z h0⟩
  · rw [q_ua, k1, c1.1, q_one64 c1.2.1 (by omega), e]
    exact ⟨rfl, by omega, by omega⟩
  · rw [q_un (by omega), kk _ (by omega) (by omega)]; exact c2
  · rw [q_un (by omega), kk _ (by omega) (by omega)]; exact c3
  · rw [q_un (by omega), kk _ (by omega) (by omega), k1, e]; exact ⟨c4.1, by omega, by omega⟩
  all_goals try (intro w a b)
  all_goals first
    | (rw [q_un (by omega)]; done)
    | (rw [kk _ (by omega) (by omega)]; done)
theorem q_loopP (hI : q_I 10000 E W s l x y u v) (h0 : ¬ s 94 = 0) (hK : q_Kl x v) (hA : q_Af s) (hW : W + 60 < 2147483647) (hE : E + 32 < 2147483647) (h54 : (s 54).toInt * 10000 + 10000 ≤ (l 93).toInt) (h30 : (v 30).toInt * 10000 + 10000 ≤ (l 93).toInt) (hx : (x 1).toInt * 10000 + 10000 ≤ (l 93).toInt) : q_Lp (E + 32) (W + 60) (l 93) (pf_X11_oneLoop s l x y) (pf_X12_loop s l u v) := by
  obtain ⟨c1, c2, c3, c4, c5⟩ := hI.2.2.1
  have e : (x 1 + 1).toInt = (x 1).toInt + 1 := q_one (by omega) (by omega)
  have hk2 := hK.2
  have e2 : (x 2 + 1).toInt = (x 2).toInt + 1 := q_one (by omega) (by omega)
  -- the class's counts
  have hX : ∃ a X, pf_X11_oneLoop s l x y = pl_X11_oneLoop_42 a s l X y ∧ X 1 = x 1 + 1 ∧ (∀ w, ¬ w = 1 → ¬ w = 2 → X w = x w) ∧ q_Kl X (pj_u v 13 (q_n13 s v)) ∧ ((1 < v 12 + 1) ↔ a = 0) := by
    have hl : (1 < v 12 + 1) ↔ ¬ x 1 + 1 = 1 := by
      rw [c1.1, q_one64 c1.2.1 (by omega), Int64.lt_iff_toInt_lt, Int32.toInt_toInt64, e]
      have : (1 : Int64).toInt = 1 := rfl
      rw [this]
      constructor
      · intro h z
        have : (x 1 + 1).toInt = 1 := by rw [z]; rfl
        omega
      · intro h
        have : ¬ (x 1 + 1).toInt = 1 := fun z => h (by rw [← Int32.toInt_inj, z]; rfl)
        omega
    have hX2 : ∀ a, ∃ X, pl_X11_oneLoop_23 a s l (pj_u x 1 (x 1 + 1)) y = pl_X11_oneLoop_42 a s l X y ∧ X 1 = x 1 + 1 ∧ (∀ w, ¬ w = 1 → ¬ w = 2 → X w = x w) ∧ q_Kl X (pj_u v 13 (q_n13 s v)) := by
      intro a
      unfold pl_X11_oneLoop_23 q_n13 q_Kl
      by_cases c : s 94 = 1
      · refine ⟨_, if_pos c, ?_, ?_, ?_⟩
        · rw [q_un (by omega), q_ua]
        · intro w a b; rw [q_un b, q_un a]
        · rw [if_pos c, q_ua, q_ua, q_un (by omega), q_un (by omega), q_ua, hK.1, q_one64 hk2.1 (by omega)]
          exact ⟨rfl, by omega, by omega⟩
      · refine ⟨_, if_neg c, ?_, ?_, ?_⟩
        · rw [q_ua]
        · intro w a b; rw [q_un a]
        · rw [if_neg c, q_ua, q_ua, q_un (by omega)]
          exact ⟨hK.1, by omega, by omega⟩
    unfold pf_X11_oneLoop
    by_cases c : x 1 + 1 = 1
    · obtain ⟨X, p1, p2, p3, p4⟩ := hX2 1
      refine ⟨1, X, ?_, p2, p3, p4, ?_⟩
      · rw [if_pos c, p1]
      · rw [hl]; exact ⟨fun h => absurd c h, fun h => absurd h (by decide)⟩
    · obtain ⟨X, p1, p2, p3, p4⟩ := hX2 0
      refine ⟨0, X, ?_, p2, p3, p4, ?_⟩
      · rw [if_neg c, p1]
      · rw [hl]; exact ⟨fun _ => rfl, fun _ => c⟩
  obtain ⟨a, X, eF, k1, kk, hK1, ha⟩ := hX
  have hI1 := q_I_1 hI h0 hx k1 kk
  obtain ⟨f1, f2, f3, hI2, e94⟩ := q_rollP hI1 h0 h54
  have e95 : q_br (q_ro s) 95 = s 95 := by
    unfold q_br q_ro q_rl
    rw [q_un (by omega), q_un (by omega)]
    split
    · rw [q_un (by omega), q_un (by omega)]
    · rw [q_un (by omega), q_un (by omega), q_un (by omega)]
  have r15 : q_ro s 49 = q_br (q_ro s) 49 := by
    unfold q_br
    rw [q_un (by omega), q_un (by omega)]
  rw [eF]
  unfold pl_X11_oneLoop_42 pf_X12_loop
  rw [f1, q_b, f3, q_b]
  have z : (if q_ro s 15000 = q_ro s 15001 then pl_X11_oneLoop_79 a 0 (q_ro s) l X y else pl_X11_oneLoop_79 a 1 (q_ro s) l X y) = pl_X11_oneLoop_79 a (if q_ro s 15000 = q_ro s 15001 then 0 else 1) (q_ro s) l X y := by
    by_cases c : q_ro s 15000 = q_ro s 15001
    · rw [if_pos c, if_pos c]
    · rw [if_neg c, if_neg c]
  rw [z]
  unfold pl_X11_oneLoop_79
  rw [f2, q_b]
  generalize q_br (q_ro s) = s1 at hI2 e94 e95
  have n1 : ¬ s1 94 = 0 := by rw [e94]; exact h0
  have v30 : pj_u v 12 (v 12 + 1) 30 = v 30 := q_un (by omega)
  have v12 : pj_u v 12 (v 12 + 1) 12 = v 12 + 1 := q_ua
  have v13 : pj_u v 12 (v 12 + 1) 13 = v 13 := q_un (by omega)
  have h22 : (X 22).toInt + 3 ≤ 3 * (X 1).toInt := by rw [k1, e, kk _ (by omega) (by omega)]; omega
  have hA1 : ∀ s2 : Nat → Int32, s2 94 = s1 94 → s2 95 = s1 95 → q_Af s2 := by
    intro s2 a b
    unfold q_Af at hA ⊢
    rw [a, b, e94, e95]; exact hA
  have hK2 : ∀ s2 : Nat → Int32, s2 94 = s1 94 → q_Kl X (pj_u (pj_u v 12 (v 12 + 1)) 13 (q_n13 s2 (pj_u v 12 (v 12 + 1)))) := by
    intro s2 a
    have en : q_n13 s2 (pj_u v 12 (v 12 + 1)) = q_n13 s v := by unfold q_n13; rw [a, e94, v13]
    unfold q_Kl at hK1 ⊢
    rw [en, q_ua]
    rw [q_ua] at hK1; exact hK1
  by_cases c : s1 49 = 0
  · rw [if_pos c, if_pos c]
    exact q_tailE hI2 n1 a (by rw [v12]; exact ha) (hK2 _ rfl) (hA1 _ rfl rfl) hW hE (by rw [v30]; exact h30) h22
  · rw [if_neg c, if_neg c]
    obtain ⟨s2, g1, g2, hI3, p94, p95⟩ := q_pinsP hI2 n1
    rw [g1, q_b, g2, q_b]
    exact q_tailE hI3 (by rw [p94]; exact n1) a (by rw [v12]; exact ha) (hK2 _ p94) (hA1 _ p94 p95) hW hE (by rw [v30]; exact h30) h22
end QLS

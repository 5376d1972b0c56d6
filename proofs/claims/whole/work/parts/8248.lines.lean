/-! PURE: the face: LINES are set -/
section QLS
variable {s x u s' x' u' : Nat → Int32} {l y v l' y' v' : Nat → Int64} {D E W : Int} {fu f k n : Nat} {t : Int64} {a b d e p r g : Int32}
def q_plo (a : Int32) : Int32 := if a = 12 then 100 else -10000
def q_isp (a b d : Int32) : Int32 := if b < -10000 then 0 else if 30000 < b then 0 else if d < q_plo a then 0 else if 30000 < d then 0 else 1
theorem q_ispC : pf_X7_isPoint a b d s l x y = some (q_isp a b d, s, l, x, y) := by
  have k : ∀ lo : Int32, pl_X7_isPoint_14 b d lo s l x y = some (if b < -10000 then 0 else if 30000 < b then 0 else if d < lo then 0 else if 30000 < d then 0 else 1, s, l, x, y) := by
    intro lo
    unfold pl_X7_isPoint_14
    by_cases c1 : b < -10000
    · rw [if_pos c1, if_pos c1]
    rw [if_neg c1, if_neg c1]
    by_cases c2 : 30000 < b
    · rw [if_pos c2, if_pos c2]
    rw [if_neg c2, if_neg c2]
    by_cases c3 : d < lo
    · rw [if_pos c3, if_pos c3]
    rw [if_neg c3, if_neg c3]
    by_cases c4 : 30000 < d
    · rw [if_pos c4, if_pos c4]
    rw [if_neg c4, if_neg c4]
  unfold pf_X7_isPoint q_isp q_plo
  by_cases c : a = 12
  · rw [if_pos c, if_pos c, k]
  · rw [if_neg c, if_neg c, k]
theorem q_ispR : pf_X12_isPoint a b d s l u v = some (q_isp a b d, s, l, u, v) := by
  have q1 : pf_X12_isIn b.toInt64 (-10000) 30000 s l u v = some (if b < -10000 then 0 else if 30000 < b then 0 else 1, s, l, u, v) := q_isI b (-10000) 30000
  have k : ∀ lo : Int32, pl_X12_isPoint_31 d.toInt64 lo.toInt64 s l u v = some (if d < lo then 0 else if 30000 < d then 0 else 1, s, l, u, v) := by
    intro lo
    have q2 : pf_X12_isIn d.toInt64 lo.toInt64 30000 s l u v = some (if d < lo then 0 else if 30000 < d then 0 else 1, s, l, u, v) := q_isI d lo 30000
    unfold pl_X12_isPoint_31
    rw [q2, q_b]
    by_cases c3 : d < lo
    · rw [if_pos c3, if_pos rfl]
    rw [if_neg c3]
    by_cases c4 : 30000 < d
    · rw [if_pos c4, if_pos rfl]
    rw [if_neg c4, if_neg q_n10]
  have k1 : pl_X12_isPoint_31 d.toInt64 100 s l u v = _ := k 100
  have k2 : pl_X12_isPoint_31 d.toInt64 (-10000) s l u v = _ := k (-10000)
  unfold pf_X12_isPoint q_isp q_plo
  rw [q1, q_b]
  by_cases c1 : b < -10000
  · rw [if_pos c1, if_pos c1, if_pos rfl]
  rw [if_neg c1, if_neg c1]
  by_cases c2 : 30000 < b
  · rw [if_pos c2, if_pos c2, if_pos rfl]
  rw [if_neg c2, if_neg c2, if_neg q_n10]
  by_cases c : a = 12
  · rw [if_pos c, if_pos c, k1]
  · rw [if_neg c, if_neg c, k2]
theorem q_ispI (h : ¬ q_isp a b d = 0) : (-10000 ≤ b.toInt ∧ b.toInt ≤ 30000) ∧ ((q_plo a).toInt ≤ d.toInt ∧ d.toInt ≤ 30000) := by
  unfold q_isp at h
  have o1 : (-10000 : Int32).toInt = -10000 := rfl
  have o2 : (30000 : Int32).toInt = 30000 := rfl
  by_cases c1 : b < -10000
  · rw [if_pos c1] at h; exact absurd rfl h
  rw [if_neg c1] at h
  by_cases c2 : 30000 < b
  · rw [if_pos c2] at h; exact absurd rfl h
  rw [if_neg c2] at h
  by_cases c3 : d < q_plo a
  · rw [if_pos c3] at h; exact absurd rfl h
  rw [if_neg c3] at h
  by_cases c4 : 30000 < d
  · rw [if_pos c4] at h; exact absurd rfl h
  rw [Int32.lt_iff_toInt_lt] at c1 c2 c3 c4
  exact ⟨⟨by omega, by omega⟩, ⟨by omega, by omega⟩⟩
theorem q_ploG {i : Nat} (hi : i < 13) : (q_plo (Int32.ofNat i)).toInt = if i = 12 then 100 else -10000 := by
  unfold q_plo
  by_cases c : i = 12
  · subst c; rw [if_pos (by decide), if_pos rfl]; rfl
  · have n : ¬ Int32.ofNat i = 12 := by
      intro z
      have : (Int32.ofNat i).toInt = 12 := by rw [z]; rfl
      rw [q_onI (by omega)] at this
      omega
    rw [if_neg n, if_neg c]; rfl
/-- all the lines, with their least values -/
theorem q_Ln_at (h : q_Ln s) {i : Nat} (hi : i < 13) : ∃ n, q_isLn s i n (if i = 12 then 100 else -10000) := by
  by_cases c : i = 12
  · subst c
    obtain ⟨n, hn⟩ := h.2.1
    exact ⟨n, hn⟩
  · obtain ⟨n, hn⟩ := h.1 i (by omega)
    exact ⟨n, by rw [if_neg c]; exact hn⟩
theorem q_Ln_mk (h : ∀ i, i < 13 → ∃ n, q_isLn s i n (if i = 12 then 100 else -10000)) (h3 : ∀ k, k < 4 → q_isAx (fun j => s (11000 + 4 * k + j))) : q_Ln s := by
  refine ⟨?_, ?_, h3⟩
  · intro k hk
    obtain ⟨n, hn⟩ := h k (by omega)
    rw [if_neg (by omega)] at hn
    exact ⟨n, hn⟩
  · obtain ⟨n, hn⟩ := h 12 (by omega)
    exact ⟨n, hn⟩
theorem q_isLn_k {i n : Nat} {lo : Int} (h : q_isLn s i n lo) (g0 : s' (28000 + i) = s (28000 + i)) (g1 : ∀ j, j < 8 → s' (26000 + 8 * i + j) = s (26000 + 8 * i + j)) (g2 : ∀ j, j < 8 → s' (27000 + 8 * i + j) = s (27000 + 8 * i + j)) : q_isLn s' i n lo := by
  obtain ⟨h1, h2, h3, h4, h5⟩ := h
  refine ⟨h1, h2, by rw [g0]; exact h3, ?_, ?_⟩
  · intro j hj
    rw [g1 _ (by omega), g1 _ (by omega)]; exact h4 j hj
  · intro j hj
    rw [g1 _ (by omega), g2 _ (by omega)]; exact h5 j hj
theorem q_rgLn {w : Nat} : (26000 ≤ w → w < 28000 → q_rg w = (-10000, 30000)) ∧ (28000 ≤ w → w < 28013 → q_rg w = (2, 8)) := by
  refine ⟨?_, ?_⟩
  · intro p q
    unfold q_rg
    have c : w / 1000 = 26 ∨ w / 1000 = 27 := by omega
    rcases c with c | c <;> rw [c] <;> rfl
  · intro p q
    unfold q_rg
    rw [show w / 1000 = 28 by omega]
    show (if w < 28013 then ((2 : Int), (8 : Int)) else _) = _
    rw [if_pos q]
-- line
theorem q_lnR (a b d e p : Int32) : pf_X12_line a b d e p s l u v = (if a < 0 ∨ 12 < a then pl_X12_line_71 a b d e p 1 s l u v else if q_isp a b d = 0 ∨ q_isp a e p = 0 ∨ ¬ b < e then pl_X12_line_71 a b d e p 2 s l u v else if s 94 = 0 then pl_X12_line_71 a b d e p 0 s l u v else pl_X12_line_71 a b d e p 3 s l u v) := by
  have q1 : pf_X12_isIn a.toInt64 0 12 s l u v = some (if a < 0 then 0 else if 12 < a then 0 else 1, s, l, u, v) := q_isI a 0 12
  have k : ∀ b0 : Int32, pl_X12_line_31 a b d e p b0 s l u v = (if a < 0 ∨ 12 < a then pl_X12_line_71 a b d e p 1 s l u v else if b0 = 0 then pl_X12_line_71 a b d e p 2 s l u v else if s 94 = 0 then pl_X12_line_71 a b d e p 0 s l u v else pl_X12_line_71 a b d e p 3 s l u v) := by
    intro b0
    unfold pl_X12_line_31
    rw [q1, q_b]
    by_cases c1 : a < 0 ∨ 12 < a
    · rw [q_in0 c1, if_pos rfl, if_pos c1]
    · rw [q_in1 (fun z => c1 (Or.inl z)) (fun z => c1 (Or.inr z)), if_neg q_n10, if_neg c1]
  unfold pf_X12_line pl_X12_line_30
  rw [q_ispR, q_b]
  by_cases c1 : q_isp a b d = 0
  · rw [if_pos c1, k, if_pos (show (0 : Int32) = 0 from rfl), if_pos (show q_isp a b d = 0 ∨ q_isp a e p = 0 ∨ ¬ b < e from Or.inl c1)]
  · rw [if_neg c1, q_ispR, q_b]
    by_cases c2 : q_isp a e p = 0
    · rw [if_pos c2, k, if_pos (show (0 : Int32) = 0 from rfl), if_pos (show q_isp a b d = 0 ∨ q_isp a e p = 0 ∨ ¬ b < e from Or.inr (Or.inl c2))]
    · rw [if_neg c2]
      by_cases c3 : b < e
      · rw [if_pos c3, k, if_neg q_n10, if_neg (show ¬ (q_isp a b d = 0 ∨ q_isp a e p = 0 ∨ ¬ b < e) by intro z; rcases z with z | z | z; exact c1 z; exact c2 z; exact z c3)]
      · rw [if_neg c3, k, if_pos (show (0 : Int32) = 0 from rfl), if_pos (show q_isp a b d = 0 ∨ q_isp a e p = 0 ∨ ¬ b < e from Or.inr (Or.inr c3))]
theorem q_addC {i m : Nat} (hi : i < 13) (hm : m < 8) (h : s (28000 + i) = Int32.ofNat m) : pf_X7_addPoint (Int32.ofNat i) a b s l x y = some ((), pj_u (pj_u (pj_u s (26000 + 8 * i + m) a) (27000 + 8 * i + m) b) (28000 + i) (Int32.ofNat (m + 1)), l, x, y) := by
  unfold pf_X7_addPoint
  have e : Int32.ofNat m < 8 := by rw [q_onltL (by omega) (by omega)]; omega
  simp only [q_g hi (show 13 < 2147483648 by omega), q_onC (show i < 2147483648 by omega), h]
  rw [if_pos e]
  simp only [q_r hi, q_g hm (show 8 < 2147483648 by omega), q_onC (show m < 2147483648 by omega)]
  rw [show Int32.ofNat m + 1 = Int32.ofNat (m + 1) from q_onaL m 1]
theorem q_F_line (hV : q_V k s l x y u v) (h1 : ¬ a < 0) (h2 : a < 13) (h3 : ¬ (q_isp a b d = 0 ∨ q_isp a e p = 0 ∨ ¬ b < e)) (h4 : s 94 = 0) : q_Fa (k + 1) (pf_X11_line a b d e p s l x y) (pf_X12_line a b d e p s l u v) := by
  have n2 : ¬ 12 < a := q_ltM (n := 12) rfl (by omega) rfl h2
  have d1 : ¬ q_isp a b d = 0 := fun z => h3 (Or.inl z)
  have d2 : ¬ q_isp a e p = 0 := fun z => h3 (Or.inr (Or.inl z))
  have d3 : b < e := Decidable.byContradiction fun z => h3 (Or.inr (Or.inr z))
  rw [q_lnR, if_neg (show ¬ (a < 0 ∨ 12 < a) by intro z; rcases z with z | z; exact h1 z; exact n2 z), if_neg h3, if_pos h4]
  unfold pf_X11_line pl_X12_line_71
  rw [if_neg h1, if_pos h2, q_ispC, q_b, if_neg d1, q_ispC, q_b, if_neg d2, if_pos d3, if_pos h4, if_pos rfl]
  obtain ⟨i, hi, rfl⟩ := q_inN (n := 13) h1 h2 (by omega)
  have e8 : (8 : Int32) * Int32.ofNat i = Int32.ofNat (8 * i) := (Int32.ofNat_mul 8 i).symm
  have e9 : Int32.ofNat (8 * i) + 1 = Int32.ofNat (8 * i + 1) := q_onaL _ 1
  simp only [e8, e9, q_g hi (show 13 < 2147483648 by omega), q_onC (show i < 2147483648 by omega), q_g (show 8 * i < 104 by omega) (show 104 < 2147483648 by omega), q_onC (show 8 * i < 2147483648 by omega), q_g (show 8 * i + 1 < 104 by omega) (show 104 < 2147483648 by omega), q_onC (show 8 * i + 1 < 2147483648 by omega)]
  have A1 := q_addC (s := pj_u s (28000 + i) 0) (l := l) (x := x) (y := y) (a := b) (b := d) (m := 0) hi (by omega) (by rw [q_ua]; rfl)
  rw [A1, q_b]
  have A2 := q_addC (s := pj_u (pj_u (pj_u (pj_u s (28000 + i) 0) (26000 + 8 * i + 0) b) (27000 + 8 * i + 0) d) (28000 + i) (Int32.ofNat (0 + 1))) (l := l) (x := x) (y := y) (a := e) (b := p) (m := 1) hi (by omega) (by rw [q_ua])
  rw [A2, q_b]
  clear A1 A2
  have S1 : pj_u (pj_u (pj_u (pj_u (pj_u (pj_u (pj_u s (28000 + i) 0) (26000 + 8 * i + 0) b) (27000 + 8 * i + 0) d) (28000 + i) (Int32.ofNat (0 + 1))) (26000 + 8 * i + 1) e) (27000 + 8 * i + 1) p) (28000 + i) (Int32.ofNat (1 + 1)) = pj_u (pj_u (pj_u (pj_u (pj_u s (28000 + i) 2) (26000 + 8 * i) b) (27000 + 8 * i) d) (26000 + (8 * i + 1)) e) (27000 + (8 * i + 1)) p := by
    funext w
    have c2 : Int32.ofNat (1 + 1) = 2 := rfl
    rw [c2, show 26000 + 8 * i + 0 = 26000 + 8 * i by omega, show 27000 + 8 * i + 0 = 27000 + 8 * i by omega, show 26000 + (8 * i + 1) = 26000 + 8 * i + 1 by omega, show 27000 + (8 * i + 1) = 27000 + 8 * i + 1 by omega]
    by_cases w1 : w = 28000 + i
    · subst w1
      rw [q_ua, q_un (by omega), q_un (by omega), q_un (by omega), q_un (by omega), q_ua]
    rw [q_un w1]
    by_cases w2 : w = 27000 + 8 * i + 1
    · subst w2
      rw [q_ua, q_ua]
    rw [q_un w2, q_un w2]
    by_cases w3 : w = 26000 + 8 * i + 1
    · subst w3
      rw [q_ua, q_ua]
    rw [q_un w3, q_un w3, q_un w1]
    by_cases w4 : w = 27000 + 8 * i
    · subst w4
      rw [q_ua, q_ua]
    rw [q_un w4, q_un w4]
    by_cases w5 : w = 26000 + 8 * i
    · subst w5
      rw [q_ua, q_ua]
    rw [q_un w5, q_un w5, q_un w1, q_un w1]
  rw [S1]
  generalize hS : pj_u (pj_u (pj_u (pj_u (pj_u s (28000 + i) 2) (26000 + 8 * i) b) (27000 + 8 * i) d) (26000 + (8 * i + 1)) e) (27000 + (8 * i + 1)) p = S
  clear S1
  obtain ⟨p1, p2⟩ := q_ispI d1
  obtain ⟨p3, p4⟩ := q_ispI d2
  rw [q_ploG hi] at p2 p4
  rw [Int32.lt_iff_toInt_lt] at d3
  have lo : (-10000 : Int) ≤ (if i = 12 then 100 else -10000) := by split <;> omega
  have rS : q_R S := by
    rw [← hS]
    exact q_R_u (q_R_u (q_R_u (q_R_u (q_R_u hV.1.1 (by rw [q_rgLn.2 (by omega) (by omega)]; exact (show (2 : Int) ≤ 2 ∧ (2 : Int) ≤ 8 by decide))) (by rw [q_rgLn.1 (by omega) (by omega)]; exact p1)) (by rw [q_rgLn.1 (by omega) (by omega)]; exact ⟨by omega, p2.2⟩)) (by rw [q_rgLn.1 (by omega) (by omega)]; exact p3)) (by rw [q_rgLn.1 (by omega) (by omega)]; exact ⟨by omega, p4.2⟩)
  have out : ∀ w, ¬ w = 28000 + i → ¬ (26000 + 8 * i ≤ w ∧ w < 26000 + 8 * i + 2) → ¬ (27000 + 8 * i ≤ w ∧ w < 27000 + 8 * i + 2) → S w = s w := by
    intro w a1 a2 a3
    rw [← hS, q_un (by omega), q_un (by omega), q_un (by omega), q_un (by omega), q_un (by omega)]
  have vn : S (28000 + i) = 2 := by rw [← hS, q_un (by omega), q_un (by omega), q_un (by omega), q_un (by omega), q_ua]
  have v0 : S (26000 + 8 * i + 0) = b := by rw [← hS, show 26000 + 8 * i + 0 = 26000 + 8 * i by omega, q_un (by omega), q_un (by omega), q_un (by omega), q_ua]
  have v1 : S (26000 + 8 * i + 1) = e := by rw [← hS, show 26000 + 8 * i + 1 = 26000 + (8 * i + 1) by omega, q_un (by omega), q_ua]
  have v2 : S (27000 + 8 * i + 0) = d := by rw [← hS, show 27000 + 8 * i + 0 = 27000 + 8 * i by omega, q_un (by omega), q_un (by omega), q_ua]
  have v3 : S (27000 + 8 * i + 1) = p := by rw [← hS, show 27000 + 8 * i + 1 = 27000 + (8 * i + 1) by omega, q_ua]
  have hl : q_Ln S := by
    refine q_Ln_mk ?_ ?_
    · intro j hj
      by_cases c : j = i
      · subst c
        refine ⟨2, by omega, by omega, vn, ?_, ?_⟩
        · intro m hm
          have : m = 0 := by omega
          subst this
          show (S (26000 + 8 * j + 0)).toInt < (S (26000 + 8 * j + 1)).toInt
          rw [v0, v1]; exact d3
        · intro m hm
          have : m = 0 ∨ m = 1 := by omega
          rcases this with z | z
          · subst z
            rw [v0, v2]; exact ⟨p1.1, p1.2, p2.1, p2.2⟩
          · subst z
            rw [v1, v3]; exact ⟨p3.1, p3.2, p4.1, p4.2⟩
      · obtain ⟨n, hn⟩ := q_Ln_at hV.1.2.1 hj
        exact ⟨n, q_isLn_k hn (out _ (by omega) (by omega) (by omega)) (fun m hm => out _ (by omega) (by omega) (by omega)) (fun m hm => out _ (by omega) (by omega) (by omega))⟩
    · intro k hk
      show 0 ≤ (S (11000 + 4 * k + 0)).toInt ∧ (S (11000 + 4 * k + 0)).toInt < (S (11000 + 4 * k + 1)).toInt ∧ (S (11000 + 4 * k + 1)).toInt < (S (11000 + 4 * k + 2)).toInt ∧ (S (11000 + 4 * k + 2)).toInt < (S (11000 + 4 * k + 3)).toInt ∧ (S (11000 + 4 * k + 3)).toInt ≤ 10000
      rw [out _ (by omega) (by omega) (by omega), out _ (by omega) (by omega) (by omega), out _ (by omega) (by omega) (by omega), out _ (by omega) (by omega) (by omega)]
      exact hV.1.2.1.2.2 k hk
  exact q_Fa_s _ _ rfl rfl (q_V_I hV (q_I_set hV.1 h4 rS (fun w _ p q => out w (by omega) (by omega) (by omega)) (fun w a h => out w (by have := q_rsF h; omega) (by have := q_rsF h; omega) (by have := q_rsF h; omega)) hl) (out _ (by omega) (by omega) (by omega)) (out _ (by omega) (by omega) (by omega)))
theorem q_F_line1 (hV : q_V k s l x y u v) (h : a < 0 ∨ ¬ a < 13) : q_Rf (k + 1) 1 s l x y (pf_X12_line a b d e p s l u v) := by
  rw [q_lnR, if_pos (q_ltN (n := 12) rfl (by omega) rfl h)]
  unfold pl_X12_line_71
  rw [if_neg q_n10]
  exact q_Rf_s () 1 rfl hV
theorem q_F_line2 (hV : q_V k s l x y u v) (h1 : ¬ a < 0) (h2 : a < 13) (h3 : q_isp a b d = 0 ∨ q_isp a e p = 0 ∨ ¬ b < e) : q_Rf (k + 1) 2 s l x y (pf_X12_line a b d e p s l u v) := by
  have n2 : ¬ 12 < a := q_ltM (n := 12) rfl (by omega) rfl h2
  rw [q_lnR, if_neg (show ¬ (a < 0 ∨ 12 < a) by intro z; rcases z with z | z; exact h1 z; exact n2 z), if_pos h3]
  unfold pl_X12_line_71
  rw [if_neg (by decide)]
  exact q_Rf_s () 2 rfl hV
theorem q_F_line3 (hV : q_V k s l x y u v) (h1 : ¬ a < 0) (h2 : a < 13) (h3 : ¬ (q_isp a b d = 0 ∨ q_isp a e p = 0 ∨ ¬ b < e)) (h4 : ¬ s 94 = 0) : q_Rf (k + 1) 3 s l x y (pf_X12_line a b d e p s l u v) := by
  have n2 : ¬ 12 < a := q_ltM (n := 12) rfl (by omega) rfl h2
  rw [q_lnR, if_neg (show ¬ (a < 0 ∨ 12 < a) by intro z; rcases z with z | z; exact h1 z; exact n2 z), if_neg h3, if_neg h4]
  unfold pl_X12_line_71
  rw [if_neg (by decide)]
  exact q_Rf_s () 3 rfl hV
-- point
theorem q_lastC {i m : Nat} (hi : i < 13) (hm : m < 8) (h : s (28000 + i) = Int32.ofNat (m + 1)) : pf_X7_lastX (Int32.ofNat i) s l x y = some (s (26000 + 8 * i + m), s, l, x, y) := by
  have e : Int32.ofNat (m + 1) - 1 = Int32.ofNat m := by
    rw [← show Int32.ofNat m + 1 = Int32.ofNat (m + 1) from q_onaL m 1, Int32.add_sub_cancel]
  have e8 : Int32.ofNat m < 8 := by rw [q_onltL (by omega) (by omega)]; omega
  unfold pf_X7_lastX
  rw [q_g hi (by omega), q_onC (by omega), h, e, if_neg (q_onnn (by omega)), if_pos e8, q_g hi (by omega), q_r hi, q_g hm (by omega), q_onC (by omega)]
theorem q_poR {i m : Nat} (hi : i < 13) (hm : m < 8) (h : s (28000 + i) = Int32.ofNat (m + 1)) : pf_X12_point (Int32.ofNat i) b d s l u v = (if q_isp (Int32.ofNat i) b d = 0 ∨ ¬ s (26000 + 8 * i + m) < b then pl_X12_point_96 (Int32.ofNat i) b d 2 s l u v else if s 94 = 0 then (if m + 1 = 8 then pl_X12_point_96 (Int32.ofNat i) b d 3 s l u v else pl_X12_point_96 (Int32.ofNat i) b d 0 s l u v) else pl_X12_point_96 (Int32.ofNat i) b d 3 s l u v) := by
  have q1 : pf_X12_isIn (Int32.ofNat i).toInt64 0 12 s l u v = some (if Int32.ofNat i < 0 then 0 else if 12 < Int32.ofNat i then 0 else 1, s, l, u, v) := q_isI (Int32.ofNat i) 0 12
  have h1 : ¬ Int32.ofNat i < 0 := q_onnn (by omega)
  have h2 : ¬ 12 < Int32.ofNat i := by
    rw [Int32.lt_iff_toInt_lt, q_onI (by omega)]
    have o : (12 : Int32).toInt = 12 := rfl
    omega
  have e8 : (8 : Int32) * Int32.ofNat i = Int32.ofNat (8 * i) := (Int32.ofNat_mul 8 i).symm
  have e9 : Int32.ofNat (8 * i) + Int32.ofNat (m + 1) - 1 = Int32.ofNat (8 * i + m) := by
    rw [q_onR, ← Nat.add_assoc, ← show Int32.ofNat (8 * i + m) + 1 = Int32.ofNat (8 * i + m + 1) from q_onaL _ 1, Int32.add_sub_cancel]
  have k : ∀ b0 : Int32, pl_X12_point_52 (Int32.ofNat i) b d 1 b0 s l u v = (if b0 = 0 then pl_X12_point_96 (Int32.ofNat i) b d 2 s l u v else if s 94 = 0 then (if m + 1 = 8 then pl_X12_point_96 (Int32.ofNat i) b d 3 s l u v else pl_X12_point_96 (Int32.ofNat i) b d 0 s l u v) else pl_X12_point_96 (Int32.ofNat i) b d 3 s l u v) := by
    intro b0
    unfold pl_X12_point_52 pl_X12_point_91
    rw [if_neg q_n10, q_g hi (by omega), q_onC (by omega), h]
    have z : Int32.ofNat (m + 1) = 8 ↔ m + 1 = 8 := by
      constructor
      · intro z
        have : (Int32.ofNat (m + 1)).toInt = 8 := by rw [z]; rfl
        rw [q_onI (by omega)] at this
        omega
      · intro z; rw [z]; rfl
    have zz : (if Int32.ofNat (m + 1) = 8 then pl_X12_point_96 (Int32.ofNat i) b d 3 s l u v else pl_X12_point_96 (Int32.ofNat i) b d 0 s l u v) = (if m + 1 = 8 then pl_X12_point_96 (Int32.ofNat i) b d 3 s l u v else pl_X12_point_96 (Int32.ofNat i) b d 0 s l u v) := by
      by_cases c : m + 1 = 8
      · rw [if_pos c, if_pos (z.mpr c)]
      · rw [if_neg c, if_neg (fun q => c (z.mp q))]
    rw [zz]
  unfold pf_X12_point pl_X12_point_51
  rw [q1, q_b, q_in1 h1 h2, if_neg q_n10, q_ispR, q_b]
  by_cases c1 : q_isp (Int32.ofNat i) b d = 0
  · rw [if_pos c1, k, if_pos (show (0 : Int32) = 0 from rfl), if_pos (Or.inl c1)]
  · rw [if_neg c1, q_g hi (by omega), q_onC (by omega), h, e8, e9, q_g (by omega) (by omega), q_onC (by omega), show 26000 + (8 * i + m) = 26000 + 8 * i + m by omega]
    by_cases c2 : s (26000 + 8 * i + m) < b
    · rw [if_pos c2, k, if_neg q_n10, if_neg (show ¬ (q_isp (Int32.ofNat i) b d = 0 ∨ ¬ s (26000 + 8 * i + m) < b) by intro z; rcases z with z | z; exact c1 z; exact z c2)]
    · rw [if_neg c2, k, if_pos (show (0 : Int32) = 0 from rfl), if_pos (Or.inr c2)]
/-- how many points a line has -/
theorem q_lnN (hV : q_V k s l x y u v) {i : Nat} (hi : i < 13) : ∃ m, 1 ≤ m ∧ m < 8 ∧ s (28000 + i) = Int32.ofNat (m + 1) ∧ q_isLn s i (m + 1) (if i = 12 then 100 else -10000) := by
  obtain ⟨n, hn⟩ := q_Ln_at hV.1.2.1 hi
  have h1 := hn.1
  have h2 := hn.2.1
  obtain ⟨m, rfl⟩ : ∃ m, n = m + 1 := ⟨n - 1, by omega⟩
  exact ⟨m, by omega, by omega, hn.2.2.1, hn⟩
def q_lx (s : Nat → Int32) (a : Int32) : Int32 := s (26000 + 8 * a.toNatClampNeg + ((s (28000 + a.toNatClampNeg)).toNatClampNeg - 1))
theorem q_F_point (hV : q_V k s l x y u v) (h1 : ¬ a < 0) (h2 : a < 13) (h3 : ¬ (q_isp a b d = 0 ∨ ¬ q_lx s a < b)) (h4 : s 94 = 0) (h5 : s (28000 + a.toNatClampNeg) < 8) : q_Fa (k + 1) (pf_X11_point a b d s l x y) (pf_X12_point a b d s l u v) := by
  obtain ⟨i, hi, rfl⟩ := q_inN (n := 13) h1 h2 (by omega)
  obtain ⟨m, hm1, hm, hs, hln⟩ := q_lnN hV hi
  unfold q_lx at h3
  rw [q_onC (by omega)] at h5
  rw [q_onC (show i < 2147483648 by omega), hs, q_onC (by omega), show m + 1 - 1 = m by omega] at h3
  have h5' := h5
  rw [hs, q_onltL (by omega) (by omega)] at h5'
  have m7 : m + 1 < 8 := by simpa using h5'
  have d1 : ¬ q_isp (Int32.ofNat i) b d = 0 := fun z => h3 (Or.inl z)
  have d2 : s (26000 + 8 * i + m) < b := Decidable.byContradiction fun z => h3 (Or.inr z)
  rw [q_poR hi hm hs, if_neg h3, if_pos h4, if_neg (by omega)]
  unfold pf_X11_point pl_X12_point_96 pl_X12_point_125 pl_X12_point_142 pl_X12_point_152
  have e8 : (8 : Int32) * Int32.ofNat i = Int32.ofNat (8 * i) := (Int32.ofNat_mul 8 i).symm
  rw [if_neg h1, if_pos h2, q_ispC, q_b, if_neg d1, q_lastC hi hm hs, q_b, if_pos d2, if_pos h4, q_g hi (by omega), q_onC (by omega), if_pos h5, q_addC hi m7 hs, q_b, q_g hi (by omega), q_ua, if_neg q_l00]
  rw [q_g hi (by omega), hs, e8, q_onR, q_g (by omega) (by omega), q_onC (by omega)]
  rw [q_un (show ¬ 28000 + i = 26000 + (8 * i + (m + 1)) by omega), hs, q_g hi (by omega), q_onR, q_g (by omega) (by omega), q_onC (by omega)]
  rw [q_un (show ¬ 28000 + i = 27000 + (8 * i + (m + 1)) by omega), q_un (show ¬ 28000 + i = 26000 + (8 * i + (m + 1)) by omega), hs, q_g hi (by omega), q_g hi (by omega), q_g hi (by omega), q_ua]
  rw [show Int32.ofNat (m + 1) + 1 = Int32.ofNat (m + 1 + 1) from q_onaL (m + 1) 1, show 26000 + (8 * i + (m + 1)) = 26000 + 8 * i + (m + 1) by omega, show 27000 + (8 * i + (m + 1)) = 27000 + 8 * i + (m + 1) by omega]
  generalize hS : pj_u (pj_u (pj_u s (26000 + 8 * i + (m + 1)) b) (27000 + 8 * i + (m + 1)) d) (28000 + i) (Int32.ofNat (m + 1 + 1)) = S
  obtain ⟨p1, p2⟩ := q_ispI d1
  rw [q_ploG hi] at p2
  rw [Int32.lt_iff_toInt_lt] at d2
  have lo : (-10000 : Int) ≤ (if i = 12 then 100 else -10000) := by split <;> omega
  have rS : q_R S := by
    rw [← hS]
    exact q_R_u (q_R_u (q_R_u hV.1.1 (by rw [q_rgLn.1 (by omega) (by omega)]; exact p1)) (by rw [q_rgLn.1 (by omega) (by omega)]; exact ⟨by omega, p2.2⟩)) (by rw [q_rgLn.2 (by omega) (by omega), q_onI (by omega)]; exact ⟨by omega, by omega⟩)
  have out : ∀ w, ¬ w = 28000 + i → ¬ w = 26000 + 8 * i + (m + 1) → ¬ w = 27000 + 8 * i + (m + 1) → S w = s w := by
    intro w a1 a2 a3
    rw [← hS, q_un a1, q_un a3, q_un a2]
  have vn : S (28000 + i) = Int32.ofNat (m + 1 + 1) := by rw [← hS, q_ua]
  have v0 : S (26000 + 8 * i + (m + 1)) = b := by rw [← hS, q_un (by omega), q_un (by omega), q_ua]
  have v2 : S (27000 + 8 * i + (m + 1)) = d := by rw [← hS, q_un (by omega), q_ua]
  have hl : q_Ln S := by
    refine q_Ln_mk ?_ ?_
    · intro j hj
      by_cases c : j = i
      · subst c
        obtain ⟨g1, g2, g3, g4, g5⟩ := hln
        refine ⟨m + 1 + 1, by omega, by omega, vn, ?_, ?_⟩
        · intro q hq
          by_cases z : q = m
          · subst z
            rw [v0, out _ (by omega) (by omega) (by omega)]; exact d2
          · rw [out _ (by omega) (by omega) (by omega), out _ (by omega) (by omega) (by omega)]
            exact g4 q (by omega)
        · intro q hq
          by_cases z : q = m + 1
          · subst z
            rw [v0, v2]; exact ⟨p1.1, p1.2, p2.1, p2.2⟩
          · rw [out _ (by omega) (by omega) (by omega), out _ (by omega) (by omega) (by omega)]
            exact g5 q (by omega)
      · obtain ⟨n, hn⟩ := q_Ln_at hV.1.2.1 hj
        exact ⟨n, q_isLn_k hn (out _ (by omega) (by omega) (by omega)) (fun q hq => out _ (by omega) (by omega) (by omega)) (fun q hq => out _ (by omega) (by omega) (by omega))⟩
    · intro k hk
      show 0 ≤ (S (11000 + 4 * k + 0)).toInt ∧ (S (11000 + 4 * k + 0)).toInt < (S (11000 + 4 * k + 1)).toInt ∧ (S (11000 + 4 * k + 1)).toInt < (S (11000 + 4 * k + 2)).toInt ∧ (S (11000 + 4 * k + 2)).toInt < (S (11000 + 4 * k + 3)).toInt ∧ (S (11000 + 4 * k + 3)).toInt ≤ 10000
      rw [out _ (by omega) (by omega) (by omega), out _ (by omega) (by omega) (by omega), out _ (by omega) (by omega) (by omega), out _ (by omega) (by omega) (by omega)]
      exact hV.1.2.1.2.2 k hk
  exact q_Fa_s _ _ rfl rfl (q_V_I hV (q_I_set hV.1 h4 rS (fun w _ p q => out w (by omega) (by omega) (by omega)) (fun w a h => out w (by have := q_rsF h; omega) (by have := q_rsF h; omega) (by have := q_rsF h; omega)) hl) (out _ (by omega) (by omega) (by omega)) (out _ (by omega) (by omega) (by omega)))
theorem q_F_point1 (hV : q_V k s l x y u v) (h : a < 0 ∨ ¬ a < 13) : q_Rf (k + 1) 1 s l x y (pf_X12_point a b d s l u v) := by
  have q1 : pf_X12_isIn a.toInt64 0 12 s l u v = some (if a < 0 then 0 else if 12 < a then 0 else 1, s, l, u, v) := q_isI a 0 12
  unfold pf_X12_point pl_X12_point_51 pl_X12_point_52 pl_X12_point_96
  rw [q1, q_b, q_in0 (q_ltN (n := 12) rfl (by omega) rfl h), if_pos rfl, if_pos rfl, if_pos q_l01]
  exact q_Rf_s 0 1 rfl hV
theorem q_F_point2 (hV : q_V k s l x y u v) (h1 : ¬ a < 0) (h2 : a < 13) (h3 : q_isp a b d = 0 ∨ ¬ q_lx s a < b) : q_Rf (k + 1) 2 s l x y (pf_X12_point a b d s l u v) := by
  obtain ⟨i, hi, rfl⟩ := q_inN (n := 13) h1 h2 (by omega)
  obtain ⟨m, hm1, hm, hs, hln⟩ := q_lnN hV hi
  unfold q_lx at h3
  rw [q_onC (show i < 2147483648 by omega), hs, q_onC (by omega), show m + 1 - 1 = m by omega] at h3
  rw [q_poR hi hm hs, if_pos h3]
  unfold pl_X12_point_96
  rw [if_pos q_l02]
  exact q_Rf_s 0 2 rfl hV
theorem q_F_point3 (hV : q_V k s l x y u v) (h1 : ¬ a < 0) (h2 : a < 13) (h3 : ¬ (q_isp a b d = 0 ∨ ¬ q_lx s a < b)) (h4 : ¬ s 94 = 0 ∨ ¬ s (28000 + a.toNatClampNeg) < 8) : q_Rf (k + 1) 3 s l x y (pf_X12_point a b d s l u v) := by
  obtain ⟨i, hi, rfl⟩ := q_inN (n := 13) h1 h2 (by omega)
  obtain ⟨m, hm1, hm, hs, hln⟩ := q_lnN hV hi
  unfold q_lx at h3
  rw [q_onC (by omega)] at h4
  rw [q_onC (show i < 2147483648 by omega), hs, q_onC (by omega), show m + 1 - 1 = m by omega] at h3
  have e : pf_X12_point (Int32.ofNat i) b d s l u v = pl_X12_point_96 (Int32.ofNat i) b d 3 s l u v := by
    rw [q_poR hi hm hs, if_neg h3]
    by_cases c : s 94 = 0
    · rw [if_pos c]
      rcases h4 with z | z
      · exact absurd c z
      · rw [hs, q_onltL (by omega) (by omega)] at z
        have : m + 1 = 8 := by
          have : ¬ m + 1 < 8 := by simpa using z
          omega
        rw [if_pos this]
    · rw [if_neg c]
  rw [e]
  unfold pl_X12_point_96
  rw [if_pos q_l03]
  exact q_Rf_s 0 3 rfl hV
end QLS

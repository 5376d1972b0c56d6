/-! PURE: the TESTER: the FRAME, PIDS -/
section QSP
variable {s x u s' x' u' x2 u2 : Nat → Int32} {l y v l' y' v' : Nat → Int64} {D E W : Int} {fu f k n m : Nat} {t : Int64} {a b d e p r : Int32}
theorem q_descV (h : q_Sy n x u) (hn : n < 60) {a1 a2 a3 a4 a5 a6 : Int32} (e1 : x 10001 = a1) (e2 : x 10002 = a2) (e3 : x 10003 = a3) (e4 : x 10004 = a4) (e5 : x 10005 = a5) (e6 : x 10006 = a6) (hp : p = 4 ∨ p = 5 ∨ p = 6 ∨ p = 7 ∨ p = 11 ∨ p = 12 ∨ p = 17) : ∃ n' x' u', pf_X8_describe p s l x y = some (1, s, l, x', y) ∧ pf_X12_told p a1 a2 a3 a4 a5 a6 s l u v = some ((), s, l, u', v) ∧ n < n' ∧ q_Sy n' x' u' ∧ q_Fx x x' ∧ q_Fu u u' := by
  have B : ∀ q : Int64, ∃ n' x' u', pj_b (pf_X8_sayByte q s l x y) (fun _ s1 l1 x1 y1 => some ((1 : Int32), s1, l1, x1, y1)) = some (1, s, l, x', y) ∧ pf_X12_byteOr q s l u v = some ((), s, l, u', v) ∧ n < n' ∧ q_Sy n' x' u' ∧ q_Fx x x' ∧ q_Fu u u' := by
    intro q
    obtain ⟨x1, u1, f1, g1, s1, a1, b1⟩ := q_byteP (s := s) (l := l) (y := y) (v := v) h (by omega) q
    exact ⟨_, x1, u1, by rw [f1, q_b], g1, by omega, s1, a1, b1⟩
  unfold pf_X8_describe pf_X12_told
  rw [e1, e2, e3, e4, e5, e6]
  have fl : ∀ q : Int64, pf_J9_floorDiv_f86c9 q 1000 s l x y = some (q_fd q 1000, s, l, x, y) := fun q => q_floorDiv (by decide)
  have dn : ∀ q : Int64, pf_X12_down q 1000 s l u v = some (q_fd q 1000, s, l, u, v) := fun q => q_down (by decide)
  simp only [q_bU]
  rw [fl, fl, dn, dn]
  rcases hp with z | z | z | z | z | z | z
  · subst z
    rw [if_pos rfl, if_pos rfl]; exact B _
  · subst z
    rw [if_neg (by decide), if_pos rfl, if_neg (by decide), if_pos rfl]; exact B _
  · subst z
    rw [if_neg (by decide), if_neg (by decide), if_pos rfl, if_neg (by decide), if_neg (by decide), if_pos rfl, q_b, q_b]; exact B _
  · subst z
    rw [if_neg (by decide), if_neg (by decide), if_neg (by decide), if_pos rfl, if_neg (by decide), if_neg (by decide), if_neg (by decide), if_pos rfl, q_b, q_b]; exact B _
  · subst z
    rw [if_neg (by decide), if_neg (by decide), if_neg (by decide), if_neg (by decide), if_neg (by decide), if_neg (by decide), if_neg (by decide), if_pos rfl, if_neg (by decide), if_neg (by decide), if_neg (by decide), if_neg (by decide), if_neg (by decide), if_neg (by decide), if_neg (by decide), if_pos rfl]; exact B _
  · subst z
    obtain ⟨x1, u1, f1, g1, s1, c1, b1⟩ := q_wordP (s := s) (l := l) (y := y) (v := v) h (by omega) (a1.toInt64 * 4)
    rw [if_neg (by decide), if_neg (by decide), if_neg (by decide), if_neg (by decide), if_neg (by decide), if_neg (by decide), if_neg (by decide), if_neg (by decide), if_pos rfl, if_neg (by decide), if_neg (by decide), if_neg (by decide), if_neg (by decide), if_neg (by decide), if_neg (by decide), if_neg (by decide), if_neg (by decide), if_pos rfl]
    refine ⟨_, x1, u1, ?_, g1, by omega, s1, c1, b1⟩
    rw [q_clip, q_b] at f1 ⊢
    rw [f1, q_b]
  · subst z
    rw [if_neg (by decide), if_neg (by decide), if_neg (by decide), if_neg (by decide), if_neg (by decide), if_neg (by decide), if_neg (by decide), if_neg (by decide), if_neg (by decide), if_neg (by decide), if_neg (by decide), if_neg (by decide), if_neg (by decide), if_pos rfl, if_neg (by decide), if_neg (by decide), if_neg (by decide), if_neg (by decide), if_neg (by decide), if_neg (by decide), if_neg (by decide), if_neg (by decide), if_neg (by decide)]; exact B _
theorem q_desc0 (n4 : ¬ p = 4) (n5 : ¬ p = 5) (n6 : ¬ p = 6) (n7 : ¬ p = 7) (n11 : ¬ p = 11) (n12 : ¬ p = 12) (n17 : ¬ p = 17) : pf_X8_describe_v1 p s l x y = some (0, s, l, x, y) := by
  unfold pf_X8_describe_v1
  rw [if_neg n4, if_neg n5, if_neg n6, if_neg n7]
  simp only [if_neg n11, if_neg n12, if_neg n17]
  repeat' split
  all_goals rfl
theorem q_descW (n4 : ¬ p = 4) (n5 : ¬ p = 5) (n6 : ¬ p = 6) (n7 : ¬ p = 7) (n11 : ¬ p = 11) (n12 : ¬ p = 12) (n17 : ¬ p = 17) : pf_X8_describe p s l x y = some (0, s, l, x, y) := by
  unfold pf_X8_describe
  rw [if_neg n4, if_neg n5, if_neg n6, if_neg n7]
  simp only [if_neg n11, if_neg n12, if_neg n17]
  repeat' split
  all_goals rfl

theorem q_eqI {k : Nat} (hk : k < 2147483648) (h : p.toInt = (k : Int)) : p = Int32.ofNat k := by
  rw [← Int32.toInt_inj, h, q_onI hk]
theorem q_47 (h1 : ¬ p < 4) (h2 : ¬ 7 < p) : p = 4 ∨ p = 5 ∨ p = 6 ∨ p = 7 := by
  rw [Int32.lt_iff_toInt_lt] at h1 h2
  have o : (4 : Int32).toInt = 4 := rfl
  have o7 : (7 : Int32).toInt = 7 := rfl
  have c : p.toInt = 4 ∨ p.toInt = 5 ∨ p.toInt = 6 ∨ p.toInt = 7 := by omega
  rcases c with c | c | c | c
  · exact Or.inl (q_eqI (k := 4) (by omega) c)
  · exact Or.inr (Or.inl (q_eqI (k := 5) (by omega) c))
  · exact Or.inr (Or.inr (Or.inl (q_eqI (k := 6) (by omega) c)))
  · exact Or.inr (Or.inr (Or.inr (q_eqI (k := 7) (by omega) c)))
theorem q_frz1 (h : p = 2 ∨ p = 4 ∨ p = 5 ∨ p = 6 ∨ p = 7 ∨ p = 11 ∨ p = 12 ∨ p = 17) : pl_X12_frozen_15 3 p s l u v = pl_X12_frozen_58 3 p 1 s l u v := by
  have q1 : pf_X12_isIn p.toInt64 4 7 s l u v = some (if p < 4 then 0 else if 7 < p then 0 else 1, s, l, u, v) := q_isI p 4 7
  unfold pl_X12_frozen_15 pl_X12_frozen_53
  rw [q1, q_b]
  rcases h with z | z | z | z | z | z | z | z
  · subst z; rw [if_pos rfl]
  · subst z; rw [if_neg (by decide), if_neg (by decide)]
  · subst z; rw [if_neg (by decide), if_neg (by decide)]
  · subst z; rw [if_neg (by decide), if_neg (by decide)]
  · subst z; rw [if_neg (by decide), if_neg (by decide)]
  · subst z; rw [if_neg (by decide), if_pos (by decide), if_pos rfl]
  · subst z; rw [if_neg (by decide), if_pos (by decide), if_neg (by decide), if_pos rfl]
  · subst z; rw [if_neg (by decide), if_pos (by decide), if_neg (by decide), if_neg (by decide), if_pos rfl]
theorem q_frz0 (h : ¬ (p = 2 ∨ p = 4 ∨ p = 5 ∨ p = 6 ∨ p = 7 ∨ p = 11 ∨ p = 12 ∨ p = 17)) : pl_X12_frozen_15 3 p s l u v = pl_X12_frozen_58 3 p 0 s l u v := by
  have q1 : pf_X12_isIn p.toInt64 4 7 s l u v = some (if p < 4 then 0 else if 7 < p then 0 else 1, s, l, u, v) := q_isI p 4 7
  have n2 : ¬ p = 2 := fun z => h (Or.inl z)
  have n11 : ¬ p = 11 := fun z => h (by simp [z])
  have n12 : ¬ p = 12 := fun z => h (by simp [z])
  have n17 : ¬ p = 17 := fun z => h (by simp [z])
  have e : (if p < 4 then (0 : Int32) else if 7 < p then 0 else 1) = 0 := by
    by_cases c1 : p < 4
    · rw [if_pos c1]
    · rw [if_neg c1]
      by_cases c2 : 7 < p
      · rw [if_pos c2]
      · exact absurd (Or.inr (by rcases q_47 c1 c2 with z | z | z | z <;> simp [z])) h
  unfold pl_X12_frozen_15
  rw [if_neg n2, q1, q_b, e, if_pos rfl, if_neg n11, if_neg n12, if_neg n17]
theorem q_S2 (h : q_S0 E W s l x y u v) (hc : s 37003 = 2) : q_Sv E W (s 37003) (l 93) (pf_X11_serveFrame (s 37004) (s 37005) s l x y) (pf_X12_frozen 3 s l u v) := by
  obtain ⟨hI, h0, hK, hA, hS, h65⟩ := h
  have hfm := hI.2.2.2.2.2.2.2.1
  obtain ⟨x1, u1, f1, g1, s1, a1, b1⟩ := q_say (s := s) (l := l) (y := y) (v := v) (a := 66) (b := 66) hS (by omega) rfl
  obtain ⟨x2, u2, f2, g2, s2, a2, b2⟩ := q_say (s := s) (l := l) (y := y) (v := v) (a := s 37004) (b := s 37004) s1 (by omega) rfl
  obtain ⟨x3, u3, f3, g3, s3, a3, b3⟩ := q_say (s := s) (l := l) (y := y) (v := v) (a := 0) (b := 0) s2 (by omega) rfl
  have fx : q_Fx x x3 := q_Fx_t a1 (q_Fx_t a2 a3)
  have fu : q_Fu u u3 := q_Fu_t b1 (q_Fu_t b2 b3)
  have xo : ∀ i, i < 8 → x3 (8000 + i) = x (8000 + i) := fun i hi => fx _ (by omega) (by omega) (by omega)
  have uo : ∀ i, i < 8 → u3 (10000 + i) = u (10000 + i) := fun i hi => fu _ (by omega) (by omega)
  unfold pf_X11_serveFrame pf_X12_frozen
  rw [f1, q_b, f2, q_b, f3, q_b, if_pos (show (1 : Int32) < 3 by decide)]
  generalize s 37004 = p at *
  have no : ∀ (r : Int32) (x' : Nat → Int32), ¬ r = -1 → ¬ r = 0 → q_Fx x x' → q_Sv E W (s 37003) (l 93) (some (r, s, l, x', y)) (pf_X12_refuse 2 r s l u v) := fun r x' p q f => q_Sv_no (r := r) hI h0 hK hA f q_Fu0 p q rfl (by rw [hc])
  -- the end, with what was told
  have fin : ∀ (x4 u4 : Nat → Int32) (n' : Nat), 1 ≤ n' → q_Fx x3 x4 → (¬ s 87 = 0 → q_Sy n' x4 u4 ∧ q_Fu u3 u4 ∧ (if p = 2 then pj_b (pf_X12_codeOf (u3 10000) s l u3 v) (fun r5 s5 l5 x5 y5 => pf_X12_two r5 s5 l5 x5 y5) else pf_X12_told p (u3 10001) (u3 10002) (u3 10003) (u3 10004) (u3 10005) (u3 10006) s l u3 v) = some ((), s, l, u4, v)) → q_Sv E W (s 37003) (l 93) (pl_X11_serveFrame_80 (s 37005) s l x4 y) (pl_X12_frozen_58 3 p 1 s l u v) := by
    intro x4 u4 n' hn f4 hu
    unfold pl_X11_serveFrame_80 pl_X12_frozen_58 pl_X12_frozen_77
    simp only [q_bU]
    rw [if_pos trivial, if_neg q_n10]
    by_cases c1 : s 37005 = 0
    · rw [if_pos c1, if_pos c1]
      by_cases c2 : s 87 = 0
      · rw [if_pos c2, if_pos c2]; exact no 34 x4 (by decide) (by decide) (q_Fx_t fx f4)
      · rw [if_neg c2, if_neg c2, g1, q_b, g2, q_b, g3, q_b]
        obtain ⟨k1, k2, k3⟩ := hu c2
        rw [k3]
        exact q_Sv_ok hI h0 hK hA (q_Fx_t fx f4) (q_Fu_t fu k2) k1 hn rfl rfl
    · rw [if_neg c1, if_neg c1]; exact no 18 x4 (by decide) (by decide) (q_Fx_t fx f4)
  by_cases c2 : p = 2
  · rw [q_frz1 (Or.inl c2)]
    have d0 := q_desc0 (p := p) (s := s) (l := l) (x := x3) (y := y) (by rw [c2]; decide) (by rw [c2]; decide) (by rw [c2]; decide) (by rw [c2]; decide) (by rw [c2]; decide) (by rw [c2]; decide) (by rw [c2]; decide)
    rw [d0, q_b, if_pos c2]
    have code : ∀ (c : Int32) (S : Nat → Int32) (L : Nat → Int64) (X : Nat → Int32) (Y : Nat → Int64), pf_X10_codeOf c S L X Y = some (if c < 20 then 256 + 16 * c else 769 + c - 20, S, L, X, Y) ∧ pf_X12_codeOf c S L X Y = some (if c < 20 then 256 + 16 * c else 769 + c - 20, S, L, X, Y) := by
      intro c S L X Y
      unfold pf_X10_codeOf pf_X12_codeOf
      constructor <;> (split <;> rfl)
    generalize hw : (if x3 8000 < 20 then 256 + 16 * x3 8000 else 769 + x3 8000 - 20 : Int32) = w at *
    have e1 : pf_X10_codeOf (x3 8000) s l x3 y = some (w, s, l, x3, y) := by rw [(code _ _ _ _ _).1, hw]
    obtain ⟨x4, u4, f4, g4, s4, a4, b4⟩ := q_two2 (s := s) (l := l) (y := y) (v := v) (q := w.toInt64) (b := w) s3 (by omega) (q_64and _)
    rw [e1, q_b, f4, q_b]
    refine fin x4 u4 _ (by omega) a4 (fun z => ⟨s4, b4, ?_⟩)
    have e8 : u3 10000 = x3 8000 := by
      have := (hfm.1 z).1 0 (by omega)
      rw [show (10000 : Nat) = 10000 + 0 from rfl, show (8000 : Nat) = 8000 + 0 from rfl, xo 0 (by omega), uo 0 (by omega), this]
    rw [if_pos c2, e8, (code _ _ _ _ _).2, hw, q_b, g4]
  · by_cases hp : p = 4 ∨ p = 5 ∨ p = 6 ∨ p = 7 ∨ p = 11 ∨ p = 12 ∨ p = 17
    · rw [q_frz1 (Or.inr hp)]
      obtain ⟨n', x4, u4, f4, g4, hn, s4, a4, b4⟩ := q_descC (s := s) (l := l) (y := y) (v := v) s3 (by omega) rfl rfl rfl rfl rfl rfl hp
      rw [f4, q_b, if_neg c2, if_neg q_n10]
      refine fin x4 u4 n' (by omega) a4 (fun z => ⟨s4, b4, ?_⟩)
      have e : ∀ i, i < 8 → u3 (10000 + i) = x3 (8000 + i) := fun i hi => by rw [xo i hi, uo i hi, (hfm.1 z).1 i hi]
      have e1 := e 1 (by omega)
      have e2 := e 2 (by omega)
      have e3 := e 3 (by omega)
      have e4 := e 4 (by omega)
      have e5 := e 5 (by omega)
      have e6 := e 6 (by omega)
      rw [if_neg c2]
      rw [show u3 10001 = x3 8001 from e1, show u3 10002 = x3 8002 from e2, show u3 10003 = x3 8003 from e3, show u3 10004 = x3 8004 from e4, show u3 10005 = x3 8005 from e5, show u3 10006 = x3 8006 from e6]
      exact g4
    · rw [q_frz0 (by intro z; rcases z with z | z; exact c2 z; exact hp z)]
      have d0 := q_desc0 (p := p) (s := s) (l := l) (x := x3) (y := y) (fun z => hp (by simp [z])) (fun z => hp (by simp [z])) (fun z => hp (by simp [z])) (fun z => hp (by simp [z])) (fun z => hp (by simp [z])) (fun z => hp (by simp [z])) (fun z => hp (by simp [z]))
      rw [d0, q_b, if_neg c2, if_pos rfl]
      unfold pl_X12_frozen_58 pl_X12_frozen_77
      rw [if_pos rfl, if_pos rfl, q_bU]
      exact no 18 x3 (by decide) (by decide) fx
end QSP

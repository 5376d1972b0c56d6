/-! PURE: OFF: what holds then -/
section QOF
variable {s x u s' x' u' : Nat → Int32} {l y v l' y' v' : Nat → Int64} {D E W : Int} {T : Nat → Option Int32} {f : Nat → Int32}
theorem q_of0 {w : Nat} (h : T w = none) : q_off0 T f w = f w := by
  unfold q_off0
  rw [h]
  rfl
theorem q_of1 {w : Nat} {a : Int32} (h : T w = some a) : q_off0 T f w = a := by
  unfold q_off0
  rw [h]
  rfl
theorem q_rzn {w : Nat} (h : 97 ≤ w) (h1 : w < 2000 ∨ (2004 ≤ w ∧ w < 8000) ∨ (8032 ≤ w ∧ w < 9000) ∨ (9016 ≤ w ∧ w < 18000) ∨ (18008 ≤ w ∧ w < 19000) ∨ (19008 ≤ w ∧ w < 30000) ∨ (30010 ≤ w ∧ w < 34000) ∨ (34010 ≤ w ∧ w < 35000) ∨ (35010 ≤ w ∧ w < 36000) ∨ (36010 ≤ w ∧ w < 40000) ∨ 40224 ≤ w) : q_rz w = none := by
  unfold q_rz q_rs
  rw [if_neg (by omega), if_neg (by omega), if_neg (by omega), if_neg (by omega), if_neg (by omega), if_neg (by omega), if_neg (by omega), if_neg (by omega), if_neg (by omega), if_neg (by omega), if_neg (by omega), if_neg (by omega)]
theorem q_zxn {w : Nat} (h : 30 ≤ w) (h1 : w < 4000 ∨ (4024 ≤ w ∧ w < 7000) ∨ (7008 ≤ w ∧ w < 8000) ∨ 8008 ≤ w) : q_zx w = none := by
  unfold q_zx
  rw [if_neg (by omega), if_neg (by omega), if_neg (by omega), if_neg (by omega)]
theorem q_run {w : Nat} (h : 30 ≤ w) (h1 : w < 3000 ∨ 3008 ≤ w) : q_ru w = none := by
  unfold q_ru
  rw [if_neg (by omega), if_neg (by omega)]
theorem q_rs_rz : q_off0 q_rs (pj_u s 94 0) = q_off0 q_rz s := by
  funext w
  by_cases c : w = 94
  · rw [c]
    rfl
  · unfold q_off0 q_rz
    rw [if_neg c, q_un c]
def q_inR (w : Nat) (o : Option Int32) : Bool := match o with | none => true | some a => decide ((q_rg w).1 ≤ a.toInt ∧ a.toInt ≤ (q_rg w).2)
theorem q_rgS : ∀ w, w < 97 → q_inR w (q_rz w) = true := by decide
set_option maxRecDepth 100000 in
theorem q_rg0 {w : Nat} (h : (2000 ≤ w ∧ w < 2004) ∨ (8000 ≤ w ∧ w < 8032) ∨ (9000 ≤ w ∧ w < 9016) ∨ (18000 ≤ w ∧ w < 18008) ∨ (19000 ≤ w ∧ w < 19008) ∨ (30000 ≤ w ∧ w < 30010) ∨ (35000 ≤ w ∧ w < 35010) ∨ (36000 ≤ w ∧ w < 36010)) : (q_rg w).1 ≤ 0 ∧ 0 ≤ (q_rg w).2 := by
  unfold q_rg
  rcases h with h | h | h | h | h | h | h | h
  · rw [show w / 1000 = 2 by omega]; exact (by decide : (-2147483648 : Int) ≤ 0 ∧ (0 : Int) ≤ 2147483647)
  · rw [show w / 1000 = 8 by omega]
    generalize (w - 8000) / 8 = r
    show (match r with | 0 => ((0 : Int), (150 : Int)) | 2 => (0, 25000) | 3 => (-100, 450) | _ => (-2147483648, 2147483647)).1 ≤ 0 ∧ 0 ≤ (match r with | 0 => ((0 : Int), (150 : Int)) | 2 => (0, 25000) | 3 => (-100, 450) | _ => (-2147483648, 2147483647)).2
    split <;> decide
  · rw [show w / 1000 = 9 by omega]; exact (by decide : (-100 : Int) ≤ 0 ∧ (0 : Int) ≤ 100)
  · rw [show w / 1000 = 18 by omega]; exact (by decide : (0 : Int) ≤ 0 ∧ (0 : Int) ≤ 1)
  · rw [show w / 1000 = 19 by omega]; exact (by decide : (0 : Int) ≤ 0 ∧ (0 : Int) ≤ 1)
  · rw [show w / 1000 = 30 by omega]; exact (by decide : (0 : Int) ≤ 0 ∧ (0 : Int) ≤ 1023)
  · rw [show w / 1000 = 35 by omega]; exact (by decide : (0 : Int) ≤ 0 ∧ (0 : Int) ≤ 100)
  · rw [show w / 1000 = 36 by omega]; exact (by decide : (0 : Int) ≤ 0 ∧ (0 : Int) ≤ 1)
theorem q_R_off0 (hr : q_R s) : q_R (q_off0 q_rz s) := by
  intro w
  have z0 : (0 : Int32).toInt = 0 := rfl
  by_cases c : w < 97
  · have z := q_rgS w c
    cases e : q_rz w with
    | none => rw [q_of0 e]; exact hr w
    | some a => rw [q_of1 e]; rw [e] at z; exact of_decide_eq_true z
  · by_cases c1 : (2000 ≤ w ∧ w < 2004) ∨ (8000 ≤ w ∧ w < 8032) ∨ (9000 ≤ w ∧ w < 9016) ∨ (18000 ≤ w ∧ w < 18008) ∨ (19000 ≤ w ∧ w < 19008) ∨ (30000 ≤ w ∧ w < 30010) ∨ (35000 ≤ w ∧ w < 35010) ∨ (36000 ≤ w ∧ w < 36010)
    · have e : q_rz w = some 0 := by
        rcases c1 with h | h | h | h | h | h | h | h
        · obtain ⟨k, rfl⟩ : ∃ k, w = 2000 + k := ⟨w - 2000, by omega⟩; exact q_rz_2000 (by omega)
        · obtain ⟨k, rfl⟩ : ∃ k, w = 8000 + k := ⟨w - 8000, by omega⟩; exact q_rz_8000 (by omega)
        · obtain ⟨k, rfl⟩ : ∃ k, w = 9000 + k := ⟨w - 9000, by omega⟩; exact q_rz_9000 (by omega)
        · obtain ⟨k, rfl⟩ : ∃ k, w = 18000 + k := ⟨w - 18000, by omega⟩; exact q_rz_18000 (by omega)
        · obtain ⟨k, rfl⟩ : ∃ k, w = 19000 + k := ⟨w - 19000, by omega⟩; exact q_rz_19000 (by omega)
        · obtain ⟨k, rfl⟩ : ∃ k, w = 30000 + k := ⟨w - 30000, by omega⟩; exact q_rz_30000 (by omega)
        · obtain ⟨k, rfl⟩ : ∃ k, w = 35000 + k := ⟨w - 35000, by omega⟩; exact q_rz_35000 (by omega)
        · obtain ⟨k, rfl⟩ : ∃ k, w = 36000 + k := ⟨w - 36000, by omega⟩; exact q_rz_36000 (by omega)
      rw [q_of1 e, z0]
      exact q_rg0 c1
    · by_cases c2 : 34000 ≤ w ∧ w < 34010
      · obtain ⟨k, rfl⟩ : ∃ k, w = 34000 + k := ⟨w - 34000, by omega⟩
        rw [q_of1 (q_rz_34000 (by omega)), (q_rgC (by omega)).2.2.2.2.2.1]
        have : k = 0 ∨ k = 1 ∨ k = 2 ∨ k = 3 ∨ k = 4 ∨ k = 5 ∨ k = 6 ∨ k = 7 ∨ k = 8 ∨ k = 9 := by omega
        rcases this with rfl | rfl | rfl | rfl | rfl | rfl | rfl | rfl | rfl | rfl <;> decide
      · by_cases c3 : 40000 ≤ w ∧ w < 40224
        · obtain ⟨k, rfl⟩ : ∃ k, w = 40000 + k := ⟨w - 40000, by omega⟩
          rw [q_of1 (q_rz_40000 (by omega)), q_rg40 _ (by omega), z0]
          unfold q_m40
          split <;> decide
        · rw [q_of0 (q_rzn (by omega) (by omega))]
          exact hr w
/-- OFF keeps what holds -/
theorem q_offJ (hI : q_I D E W s l x y u v) : q_I 0 E W (q_off0 q_rz s) (pj_u (pj_u l 20 0) 61 0) (q_off0 q_zx x) (pj_u (pj_u (pj_u y 8 (-1)) 9 (-1)) 18 0) (q_off0 q_ru u) (pj_u (pj_u (pj_u (pj_u v 6 0) 12 0) 13 0) 20 0) ∧ q_Kl (q_off0 q_zx x) (pj_u (pj_u (pj_u (pj_u v 6 0) 12 0) 13 0) 20 0) := by
  obtain ⟨h1, h2, h3, h4, h5, h6, h7, h8, h9, h10, h11, h12, h13, h14⟩ := hI
  obtain ⟨c1, c2, c3, c4, c5⟩ := h3
  have S : ∀ {w : Nat} {a : Int32}, q_rz w = some a → q_off0 q_rz s w = a := fun h => q_of1 h
  have Sn : ∀ {w : Nat}, q_rz w = none → q_off0 q_rz s w = s w := fun h => q_of0 h
  have X : ∀ {w : Nat} {a : Int32}, q_zx w = some a → q_off0 q_zx x w = a := fun h => q_of1 h
  have Xn : ∀ {w : Nat}, q_zx w = none → q_off0 q_zx x w = x w := fun h => q_of0 h
  have U : ∀ {w : Nat} {a : Int32}, q_ru w = some a → q_off0 q_ru u w = a := fun h => q_of1 h
  have Un : ∀ {w : Nat}, q_ru w = none → q_off0 q_ru u w = u w := fun h => q_of0 h
  have s19 : q_off0 q_rz s 19 = 0 := S (by decide)
  have l93 : pj_u (pj_u l 20 0) 61 0 93 = l 93 := by rw [q_un (by omega), q_un (by omega)]
  have z0 : (0 : Int32).toInt = 0 := rfl
  have zL : (0 : Int64).toInt = 0 := rfl
  have kn : ∀ w, 1 ≤ w → (w = 1 ∨ 1000 ≤ w ∧ w < 2024) → q_off0 q_ru u w = u w := by
    intro w _ hb
    rcases hb with z | z
    · rw [z]; exact Un (by decide)
    · exact Un (q_run (by omega) (by omega))
  refine ⟨⟨q_R_off0 h1, q_Ln_c h2 (fun w _ _ => Sn (q_rzn (by omega) (by omega))) (fun w _ _ => Sn (q_rzn (by omega) (by omega))), ?_, ?_, ?_, ?_, ?_, ?_, ?_, q_Vd_c h10 (fun w _ _ => Sn (q_rzn (by omega) (by omega))) (fun w _ _ => Xn (q_zxn (by omega) (by omega))), q_Kn_c h11 kn, q_Pg_c h12 (Xn (by decide)) (fun w _ _ => Xn (q_zxn (by omega) (by omega))) (Un (by decide)) (fun w _ _ => Un (q_run (by omega) (by omega))), ?_, ?_⟩, ?_⟩
  · unfold q_Ct
    rw [X (w := 1) (a := 0) (by decide), Xn (w := 3) (by decide), Xn (w := 11) (by decide), X (w := 22) (a := 0) (by decide), l93]
    simp (disch := omega) only [q_un, q_ua]
    exact ⟨⟨rfl, by decide, by rw [z0]; omega⟩, c2, c3, ⟨rfl, by decide, by decide⟩, c5⟩
  · have nl : q_off0 q_rz s 19 < 2 := by rw [s19]; decide
    unfold q_Wl
    rw [q_sp0 nl, X (w := 4) (a := 0) (by decide), X (w := 5) (a := 0) (by decide), X (w := 6) (a := 0) (by decide), X (w := 7) (a := 0) (by decide), U (w := 4) (a := 0) (by decide), U (w := 5) (a := 0) (by decide), l93]
    simp (disch := omega) only [q_un, q_ua]
    refine ⟨by decide, fun z => absurd nl z, trivial, fun z => absurd nl z, by decide, by decide, by decide, by decide, by decide, by rw [zL]; omega, fun _ z => absurd s19 z⟩
  · unfold q_Pl
    rw [X (w := 10) (a := 0) (by decide), U (w := 7) (a := 0) (by decide), U (w := 10) (a := 0) (by decide), Un (w := 9) (by decide), l93]
    simp (disch := omega) only [q_un, q_ua]
    exact ⟨Or.inl trivial, Or.inl trivial, fun _ => ⟨trivial, trivial⟩, fun z => absurd z (by decide), fun _ => trivial, fun z => absurd z (by decide), by decide, h5.2.2.2.2.2.2.2⟩
  · refine ⟨?_, ?_⟩
    · intro c hc
      rw [X (q_zx_4000 (k := c) (by omega)), show 4008 + c = 4000 + (8 + c) by omega, X (q_zx_4000 (k := 8 + c) (by omega)), show 4016 + c = 4000 + (16 + c) by omega, X (q_zx_4000 (k := 16 + c) (by omega)), U (q_ru_3000 hc)]
      exact ⟨by decide, fun z => absurd rfl z, fun z => absurd rfl z, fun z => absurd rfl z⟩
    · intro c hc _
      exact U (q_ru_3000 hc)
  · unfold q_Fg
    rw [U (w := 14) (a := 1) (by decide), X (w := 13) (a := 0) (by decide), S (w := 40) (a := 0) (by decide), S (w := 67) (a := 0) (by decide), S (w := 70) (a := -1) (by decide), S (w := 62) (a := 0) (by decide), U (w := 21) (a := 0) (by decide), X (w := 23) (a := -1) (by decide), l93]
    simp (disch := omega) only [q_un, q_ua]
    refine ⟨Or.inr ⟨trivial, trivial⟩, fun z => absurd trivial z, fun z => absurd trivial z, fun z => absurd trivial z, fun z => absurd z (by decide), ⟨by decide, by rw [zL]; omega⟩, Or.inl ⟨trivial, trivial⟩⟩
  · refine ⟨fun z => absurd (S (w := 87) (a := 0) (by decide)) z, fun _ i hi => X (q_zx_8000 hi)⟩
  · unfold q_Rc
    rw [X (w := 29) (a := 0) (by decide), U (w := 29) (a := 0) (by decide), Xn (w := 27) (by decide), Xn (w := 28) (by decide), l93]
    simp (disch := omega) only [q_un]
    exact ⟨Or.inl ⟨trivial, trivial⟩, h9.2⟩
  · refine ⟨⟨0, ⟨S (w := 57) (a := 0) (by decide), by omega, fun i hi => by omega⟩, ?_⟩, ?_⟩
    · refine ⟨by rw [l93]; omega, by rw [l93]; omega, fun i hi => by omega⟩
    · have hx := h13.2
      unfold q_Ex at hx ⊢
      rw [Sn (w := 54) (by decide), S (w := 7) (a := 0) (by decide), S (w := 6) (a := 0) (by decide), S (w := 94) (a := 0) (by decide), S (w := 63) (a := 0) (by decide), Sn (w := 3) (by decide), Sn (w := 4) (by decide), Sn (w := 44) (by decide), S (w := 62) (a := 0) (by decide), l93]
      exact ⟨hx.1, ⟨fun z => absurd rfl z, fun _ => by decide⟩, fun z => absurd z (by decide), fun z => absurd rfl z, hx.2.2.2.2.1, hx.2.2.2.2.2.1, fun z => absurd z (by decide), fun z => absurd (S (w := 70) (a := -1) (by decide)) z⟩
  · intro _
    refine ⟨?_, ?_, ?_, U (by decide), U (by decide), ?_, U (by decide), U (by decide), fun c hc => U (q_ru_3000 hc), ?_, ?_, U (by decide), ?_, U (by decide), U (by decide)⟩
    · intro w a h
      have n : ¬ w = 94 := by
        intro z
        rw [z] at h
        cases h
      exact S (by unfold q_rz; rw [if_neg n]; exact h)
    · rw [q_un (by omega), q_ua]
    · rw [q_ua]
    · simp (disch := omega) only [q_un, q_ua]
    · simp (disch := omega) only [q_un, q_ua]
    · simp (disch := omega) only [q_un, q_ua]
    · rw [q_ua]
  · unfold q_Kl
    rw [X (w := 2) (a := 0) (by decide), X (w := 1) (a := 0) (by decide)]
    simp (disch := omega) only [q_un, q_ua]
    exact ⟨rfl, by decide, by decide⟩
/-- OFF already: nothing is left to forget -/
theorem q_offK (h14 : q_Of s l u v) (hp : s 94 = 0) : q_off0 q_rz s = s ∧ pj_u (pj_u l 20 0) 61 0 = l ∧ q_off0 q_ru u = u ∧ pj_u (pj_u (pj_u (pj_u v 6 0) 12 0) 13 0) 20 0 = v := by
  obtain ⟨a, b, c, d, e, f, g, h, i, j, k, m, n, o, p⟩ := h14 hp
  refine ⟨?_, ?_, ?_, ?_⟩
  · funext w
    unfold q_off0 q_rz
    by_cases z : w = 94
    · rw [if_pos z, z, hp]; rfl
    · rw [if_neg z]
      cases r : q_rs w with
      | none => rfl
      | some q => exact (a w q r).symm
  · rw [show pj_u l 20 0 = l by rw [← b, q_ui], ← c, q_ui]
  · funext w
    unfold q_off0
    cases r : q_ru w with
    | none => rfl
    | some q =>
      show q = u w
      unfold q_ru at r
      by_cases c1 : w < 30
      · rw [if_pos c1] at r
        by_cases c2 : w = 14
        · rw [if_pos c2] at r
          rw [c2, m]; exact (Option.some.inj r).symm
        · rw [if_neg c2] at r
          by_cases c3 : w = 4 ∨ w = 5 ∨ w = 7 ∨ w = 10 ∨ w = 21 ∨ w = 29
          · rw [if_pos c3] at r
            rcases c3 with z | z | z | z | z | z
            · rw [z, d]; exact (Option.some.inj r).symm
            · rw [z, e]; exact (Option.some.inj r).symm
            · rw [z, g]; exact (Option.some.inj r).symm
            · rw [z, h]; exact (Option.some.inj r).symm
            · rw [z, o]; exact (Option.some.inj r).symm
            · rw [z, p]; exact (Option.some.inj r).symm
          · rw [if_neg c3] at r; cases r
      · rw [if_neg c1] at r
        by_cases c2 : 3000 ≤ w ∧ w < 3008
        · rw [if_pos c2] at r
          obtain ⟨q9, rfl⟩ : ∃ q9, w = 3000 + q9 := ⟨w - 3000, by omega⟩
          rw [i q9 (by omega)]; exact (Option.some.inj r).symm
        · rw [if_neg c2] at r; cases r
  · rw [show pj_u v 6 0 = v by rw [← f, q_ui], show pj_u v 12 0 = v by rw [← j, q_ui], show pj_u v 13 0 = v by rw [← k, q_ui], show pj_u v 20 0 = v by rw [← n, q_ui]]
end QOF

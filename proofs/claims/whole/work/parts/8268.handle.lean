/-! PURE: the TESTER: a REQUEST is handled -/
section QHA
variable {s x u s' x' u' x2 u2 : Nat → Int32} {l y v l' y' v' : Nat → Int64} {D E W : Int} {fu f k n m : Nat} {t : Int64} {a b d e p r c : Int32}
theorem q_I_65 (hI : q_I 0 E W s l x y u v) (h0 : ¬ s 94 = 0) : q_I 0 E W (pj_u s 65 0) l x y u v := by
  have hx := hI.2.2.2.2.2.2.2.2.2.2.2.2.1.2
  have hf := hI.2.2.2.2.2.2.1
  refine q_I_x hI h0 (q_R_u hI.1 q_R_any) ?_ (q_Fg_c hf ?_ ?_ ?_ ?_ rfl rfl rfl rfl rfl rfl rfl rfl rfl rfl rfl rfl rfl rfl rfl rfl) (fun w _ n => q_un (by omega))
  · unfold q_Ex at hx ⊢
    rw [q_ua, q_Ld_c (s := s) (x' := x) (x := x) (q_un (by omega)) (fun j _ => q_un (by omega)) rfl]
    simp (disch := omega) only [q_un]
    exact ⟨hx.1, hx.2.1, hx.2.2.1, fun _ => by decide, hx.2.2.2.2⟩
  all_goals rw [q_un (by omega)]
theorem q_S0i (hI : q_I 0 E W s l x y u v) (h0 : ¬ s 94 = 0) (hK : q_Kl x v) (hA : q_Af s) : q_S0 E W (pj_u s 65 0) l (pj_u x 20 0) y (pj_u u 19 0) v := by
  have J := q_I_65 hI h0
  have J2 := q_I_sy (x' := pj_u x 20 0) (u' := pj_u u 19 0) J (by rw [q_un (by omega)]; exact h0) (fun w p q r => q_un p) (fun w p q => q_un p)
  exact ⟨J2, by rw [q_un (by omega)]; exact h0, q_Kl_k hK (q_un (by omega)) (q_un (by omega)), q_Af_s hA (q_un (by omega)) (q_un (by omega)), q_Sy0, q_ua⟩
theorem q_Sv_m {F : Option (Int32 × pj_Z)} {G : Option (Unit × pj_Z)} (h : q_Sv E W c t F G) : q_Sv E (W + 60) c t F G := by
  obtain ⟨r, s', l', x', y', u', v', a, b, hI, z⟩ := h
  exact ⟨r, s', l', x', y', u', v', a, b, q_I_mono hI (by omega) (by omega), z⟩
theorem q_pbif {q : Prop} [Decidable q] {A B : Option (Unit × pj_Z)} {K : Unit → (Nat → Int32) → (Nat → Int64) → (Nat → Int32) → (Nat → Int64) → Option (Unit × pj_Z)} : (if q then pj_b A K else pj_b B K) = pj_b (if q then A else B) K := by
  split <;> rfl
theorem q_noL (c : Int32) (n : Int32) (hn : ¬ n = 3) : ∃ b0, pf_X12_frozen n s l u v = pf_X12_refuse 2 18 s l u v ∧ b0 = 0 := by
  refine ⟨0, ?_, rfl⟩
  have k : ∀ (p b0 : Int32), pl_X12_frozen_58 n p b0 s l u v = pf_X12_refuse 2 18 s l u v := by
    intro p b0
    unfold pl_X12_frozen_58 pl_X12_frozen_77
    rw [if_neg hn, q_bU]
  have k2 : ∀ p : Int32, pl_X12_frozen_15 n p s l u v = pf_X12_refuse 2 18 s l u v := by
    intro p
    have q1 : pf_X12_isIn p.toInt64 4 7 s l u v = some (if p < 4 then 0 else if 7 < p then 0 else 1, s, l, u, v) := q_isI p 4 7
    unfold pl_X12_frozen_15 pl_X12_frozen_53
    rw [q1, q_b]
    simp only [k, ite_self]
  unfold pf_X12_frozen
  simp only [k2, ite_self]
theorem q_handle (hI : q_I 0 E W s l x y u v) (h0 : ¬ s 94 = 0) (hK : q_Kl x v) (hA : q_Af s) (hW : W + 60 < 2147483647) : ∃ G, pl_X12_handle_22 (s 37000 &&& (63 : Int32)) (s 37003) s l u v = pj_b G (fun _ s l x y => pl_X12_handle_348 s l x y) ∧ q_Sv E (W + 60) (s 37003) (l 93) (pf_X11_serve (pj_u s 65 0) l (pj_u x 20 0) y) G := by
  have H := q_S0i hI h0 hK hA
  have S37 : pj_u s 65 0 37000 = s 37000 := q_un (by omega)
  have S373 : pj_u s 65 0 37003 = s 37003 := q_un (by omega)
  have S374 : pj_u s 65 0 37004 = s 37004 := q_un (by omega)
  generalize hS : pj_u s 65 0 = S at H S37 S373 S374 ⊢
  generalize hX : pj_u x 20 0 = X at H ⊢
  generalize hU : pj_u u 19 0 = U at H
  unfold pl_X12_handle_22 pf_X11_serve pf_X8_lengthDue
  rw [hS, hU, S373, ← S37]
  generalize hn : S 37000 &&& (63 : Int32) = n
  have e3 : S 37003 = s 37003 := S373
  rw [← e3, ← S374]
  have no : ∀ r : Int32, ¬ r = -1 → ¬ r = 0 → q_Sv E (W + 60) (S 37003) (l 93) (some (r, S, l, X, y)) (pf_X12_refuse (S 37003) r S l U v) := by
    intro r p q
    obtain ⟨jI, j0, jK, jA, jS, -⟩ := H
    exact q_Sv_m (q_Sv_no (r := r) jI j0 jK jA q_Fx0 q_Fu0 p q rfl rfl)
  by_cases c1 : S 37003 = 1
  · have no18 := no 18 (by decide) (by decide)
    rw [c1] at no18 ⊢
    refine ⟨pf_X12_live n S l U v, by rw [if_pos rfl], ?_⟩
    rw [if_pos rfl, q_b, if_neg (by decide), if_neg (by decide), hn]
    by_cases q : (2 : Int32) = n
    · rw [if_pos q]
      unfold pl_X11_serve_46
      have z := q_Sv_m (q_SPid H c1)
      rw [c1] at z
      rw [if_pos rfl, q_bI, ← q]
      exact z
    · rw [if_neg q]
      have e : pf_X12_live n S l U v = pf_X12_refuse 1 18 S l U v := by
        unfold pf_X12_live po_X12_live pl_X12_live_15 pl_X12_live_28
        simp only [q_bU, if_neg (show ¬ n = 2 from fun w => q w.symm), ite_self]
      rw [e]
      exact no18
  by_cases c2 : S 37003 = 2
  · have no18 := no 18 (by decide) (by decide)
    rw [c2] at no18 ⊢
    refine ⟨pf_X12_frozen n S l U v, by rw [if_neg (by decide), if_pos rfl], ?_⟩
    rw [if_neg (by decide), if_pos rfl, q_b, if_neg (by decide), if_neg (by decide), hn]
    by_cases q : (3 : Int32) = n
    · rw [if_pos q]
      unfold pl_X11_serve_46
      have z := q_Sv_m (q_S2 H c2)
      rw [c2] at z
      rw [if_neg (by decide), if_pos rfl, q_bI, ← q]
      exact z
    · rw [if_neg q]
      obtain ⟨-, e, -⟩ := q_noL (s := S) (l := l) (u := U) (v := v) 0 n (fun w => q w.symm)
      rw [e]
      exact no18
  by_cases c3 : S 37003 = 3
  · have no18 := no 18 (by decide) (by decide)
    rw [c3] at no18 ⊢
    refine ⟨if n = 1 then pf_X12_plain 3 S l U v else pf_X12_refuse 3 18 S l U v, by rw [if_neg (by decide), if_neg (by decide), if_pos rfl, q_pbif], ?_⟩
    rw [if_neg (by decide), if_neg (by decide), if_pos rfl, q_b, if_neg (by decide), if_neg (by decide), hn]
    by_cases q : (1 : Int32) = n
    · rw [if_pos q]
      unfold pl_X11_serve_46
      have z := q_Sv_m (q_S37 H (c := 3) (a1 := 3) (b := 67) (Or.inl ⟨rfl, rfl⟩) rfl)
      rw [c3] at z
      rw [if_neg (by decide), if_neg (by decide), if_pos rfl, q_bI, if_pos q.symm]
      exact z
    · rw [if_neg q, if_neg (fun w => q w.symm)]
      exact no18
  by_cases c4 : S 37003 = 4
  · have no18 := no 18 (by decide) (by decide)
    rw [c4] at no18 ⊢
    refine ⟨if n = 1 then pf_X12_plain 4 S l U v else pf_X12_refuse 4 18 S l U v, by rw [if_neg (by decide), if_neg (by decide), if_neg (by decide), if_pos rfl, q_pbif], ?_⟩
    rw [if_neg (by decide), if_neg (by decide), if_neg (by decide), if_pos rfl, q_b, if_neg (by decide), if_neg (by decide), hn]
    by_cases q : (1 : Int32) = n
    · rw [if_pos q]
      unfold pl_X11_serve_46
      have z := q_S4 H c4 hW
      rw [c4] at z
      rw [if_neg (by decide), if_neg (by decide), if_neg (by decide), if_pos rfl, q_bI, if_pos q.symm]
      exact z
    · rw [if_neg q, if_neg (fun w => q w.symm)]
      exact no18
  by_cases c7 : S 37003 = 7
  · have no18 := no 18 (by decide) (by decide)
    rw [c7] at no18 ⊢
    refine ⟨if n = 1 then pf_X12_plain 7 S l U v else pf_X12_refuse 7 18 S l U v, by rw [if_neg (by decide), if_neg (by decide), if_neg (by decide), if_neg (by decide), if_pos rfl, q_pbif], ?_⟩
    rw [if_neg (by decide), if_neg (by decide), if_neg (by decide), if_neg (by decide), if_pos rfl, q_b, if_neg (by decide), if_neg (by decide), hn]
    by_cases q : (1 : Int32) = n
    · rw [if_pos q]
      unfold pl_X11_serve_46
      have z := q_Sv_m (q_S37 H (c := 2) (a1 := 7) (b := 71) (Or.inr ⟨rfl, rfl⟩) rfl)
      rw [c7] at z
      rw [if_neg (by decide), if_neg (by decide), if_neg (by decide), if_neg (by decide), if_pos rfl, q_bI, if_pos q.symm]
      exact z
    · rw [if_neg q, if_neg (fun w => q w.symm)]
      exact no18
  by_cases c9 : S 37003 = 9
  · have no18 := no 18 (by decide) (by decide)
    rw [c9] at no18 ⊢
    refine ⟨pf_X12_named n S l U v, by rw [if_neg (by decide), if_neg (by decide), if_neg (by decide), if_neg (by decide), if_neg (by decide), if_pos rfl], ?_⟩
    rw [if_neg (by decide), if_neg (by decide), if_neg (by decide), if_neg (by decide), if_neg (by decide), if_pos rfl, q_b, if_neg (by decide), if_neg (by decide), hn]
    by_cases q : (2 : Int32) = n
    · rw [if_pos q]
      unfold pl_X11_serve_46
      have z := q_Sv_m (q_S9 H c9)
      rw [c9] at z
      rw [if_neg (by decide), if_neg (by decide), if_neg (by decide), if_neg (by decide), if_neg (by decide), if_pos rfl, q_bI, ← q]
      exact z
    · rw [if_neg q]
      have e : pf_X12_named n S l U v = pf_X12_refuse 9 18 S l U v := by
        unfold pf_X12_named po_X12_named pl_X12_named_15 pl_X12_named_36
        simp only [q_bU, if_neg (show ¬ n = 2 from fun w => q w.symm), ite_self]
      rw [e]
      exact no18
  by_cases c33 : S 37003 = 33
  · have no18 := no 18 (by decide) (by decide)
    rw [c33] at no18 ⊢
    obtain ⟨G33, k33, z33⟩ := q_S33 H c33
    refine ⟨if n = 2 then G33 else pf_X12_refuse 33 18 S l U v, ?_, ?_⟩
    · rw [if_neg (by decide), if_neg (by decide), if_neg (by decide), if_neg (by decide), if_neg (by decide), if_neg (by decide), if_pos rfl]
      by_cases q : n = 2
      · have kk := k33 (fun s l x y => pl_X12_handle_348 s l x y)
        unfold q_g33 at kk
        rw [if_pos q, if_pos q, ← kk, S374]
      · rw [if_neg q, if_neg q]
    · rw [if_neg (by decide), if_neg (by decide), if_neg (by decide), if_neg (by decide), if_neg (by decide), if_neg (by decide), if_pos rfl, q_b, if_neg (by decide), if_neg (by decide), hn]
      by_cases q : (2 : Int32) = n
      · rw [if_pos q]
        unfold pl_X11_serve_46
        have z := q_Sv_m (z33)
        rw [c33] at z
        rw [if_neg (by decide), if_neg (by decide), if_neg (by decide), if_neg (by decide), if_neg (by decide), if_neg (by decide), if_pos rfl, q_bI, if_pos q.symm]
        exact z
      · rw [if_neg q, if_neg (fun w => q w.symm)]
        exact no18
  by_cases c39 : S 37003 = 39
  · have no18 := no 18 (by decide) (by decide)
    rw [c39] at no18 ⊢
    refine ⟨pf_X12_unlock n S l U v, by rw [if_neg (by decide), if_neg (by decide), if_neg (by decide), if_neg (by decide), if_neg (by decide), if_neg (by decide), if_neg (by decide), if_pos rfl], ?_⟩
    rw [if_neg (by decide), if_neg (by decide), if_neg (by decide), if_neg (by decide), if_neg (by decide), if_neg (by decide), if_neg (by decide), if_pos rfl, q_b, if_neg (by decide), if_pos rfl]
    unfold pl_X11_serve_46
    rw [if_neg (by decide), if_neg (by decide), if_neg (by decide), if_neg (by decide), if_neg (by decide), if_neg (by decide), if_neg (by decide), if_pos rfl, q_bI, ← hn]
    have z := q_Sv_m (q_S39 H c39)
    rw [c39] at z
    exact z
  by_cases c52 : S 37003 = 52
  · have no18 := no 18 (by decide) (by decide)
    rw [c52] at no18 ⊢
    refine ⟨pf_X12_loadMap n S l U v, by rw [if_neg (by decide), if_neg (by decide), if_neg (by decide), if_neg (by decide), if_neg (by decide), if_neg (by decide), if_neg (by decide), if_neg (by decide), if_pos rfl], ?_⟩
    rw [if_neg (by decide), if_neg (by decide), if_neg (by decide), if_neg (by decide), if_neg (by decide), if_neg (by decide), if_neg (by decide), if_neg (by decide), if_pos rfl, q_b, if_neg (by decide), if_neg (by decide), hn]
    by_cases q : (2 : Int32) = n
    · rw [if_pos q]
      unfold pl_X11_serve_46
      have z := q_Sv_m (q_S52 H c52)
      rw [c52] at z
      rw [if_neg (by decide), if_neg (by decide), if_neg (by decide), if_neg (by decide), if_neg (by decide), if_neg (by decide), if_neg (by decide), if_neg (by decide), if_pos rfl, q_bI, ← q]
      exact z
    · rw [if_neg q]
      have e : pf_X12_loadMap n S l U v = pf_X12_refuse 52 18 S l U v := by
        unfold pf_X12_loadMap
        rw [if_neg (fun w => q w.symm), q_bU]
      rw [e]
      exact no18
  by_cases c54 : S 37003 = 54
  · have no18 := no 18 (by decide) (by decide)
    rw [c54] at no18 ⊢
    refine ⟨pf_X12_loadCell n S l U v, by rw [if_neg (by decide), if_neg (by decide), if_neg (by decide), if_neg (by decide), if_neg (by decide), if_neg (by decide), if_neg (by decide), if_neg (by decide), if_neg (by decide), if_pos rfl], ?_⟩
    rw [if_neg (by decide), if_neg (by decide), if_neg (by decide), if_neg (by decide), if_neg (by decide), if_neg (by decide), if_neg (by decide), if_neg (by decide), if_neg (by decide), if_pos rfl, q_b, if_neg (by decide), if_neg (by decide), hn]
    by_cases q : (4 : Int32) = n
    · rw [if_pos q]
      unfold pl_X11_serve_46
      have z := q_Sv_m (q_S54 H c54)
      rw [c54] at z
      rw [if_neg (by decide), if_neg (by decide), if_neg (by decide), if_neg (by decide), if_neg (by decide), if_neg (by decide), if_neg (by decide), if_neg (by decide), if_neg (by decide), if_pos rfl, q_bI, ← q]
      exact z
    · rw [if_neg q]
      have e : pf_X12_loadCell n S l U v = pf_X12_refuse 54 18 S l U v := by
        unfold pf_X12_loadCell
        rw [if_neg (fun w => q w.symm), q_bU]
      rw [e]
      exact no18
  by_cases c55 : S 37003 = 55
  · have no18 := no 18 (by decide) (by decide)
    rw [c55] at no18 ⊢
    refine ⟨pf_X12_loaded n S l U v, by rw [if_neg (by decide), if_neg (by decide), if_neg (by decide), if_neg (by decide), if_neg (by decide), if_neg (by decide), if_neg (by decide), if_neg (by decide), if_neg (by decide), if_neg (by decide), if_pos rfl], ?_⟩
    rw [if_neg (by decide), if_neg (by decide), if_neg (by decide), if_neg (by decide), if_neg (by decide), if_neg (by decide), if_neg (by decide), if_neg (by decide), if_neg (by decide), if_neg (by decide), if_pos rfl, q_b, if_neg (by decide), if_neg (by decide), hn]
    by_cases q : (3 : Int32) = n
    · rw [if_pos q]
      unfold pl_X11_serve_46
      have z := q_S55 H c55 hW
      rw [c55] at z
      rw [if_neg (by decide), if_neg (by decide), if_neg (by decide), if_neg (by decide), if_neg (by decide), if_neg (by decide), if_neg (by decide), if_neg (by decide), if_neg (by decide), if_neg (by decide), if_pos rfl, q_bI, ← q]
      exact z
    · rw [if_neg q]
      have e : pf_X12_loaded n S l U v = pf_X12_refuse 55 18 S l U v := by
        unfold pf_X12_loaded po_X12_loaded
        rw [if_neg (fun w => q w.symm), q_bU]
      rw [e]
      exact no18
  by_cases c59 : S 37003 = 59
  · have no18 := no 18 (by decide) (by decide)
    rw [c59] at no18 ⊢
    refine ⟨pf_X12_change n S l U v, by rw [if_neg (by decide), if_neg (by decide), if_neg (by decide), if_neg (by decide), if_neg (by decide), if_neg (by decide), if_neg (by decide), if_neg (by decide), if_neg (by decide), if_neg (by decide), if_neg (by decide), if_pos rfl], ?_⟩
    rw [if_neg (by decide), if_neg (by decide), if_neg (by decide), if_neg (by decide), if_neg (by decide), if_neg (by decide), if_neg (by decide), if_neg (by decide), if_neg (by decide), if_neg (by decide), if_neg (by decide), if_pos rfl, q_b, if_neg (by decide), if_neg (by decide), hn]
    by_cases q : (5 : Int32) = n
    · rw [if_pos q]
      unfold pl_X11_serve_46
      have z := q_Sv_m (q_S59 H c59)
      rw [c59] at z
      rw [if_neg (by decide), if_neg (by decide), if_neg (by decide), if_neg (by decide), if_neg (by decide), if_neg (by decide), if_neg (by decide), if_neg (by decide), if_neg (by decide), if_neg (by decide), if_neg (by decide), if_pos rfl, q_bI, ← q]
      exact z
    · rw [if_neg q]
      have e : pf_X12_change n S l U v = pf_X12_refuse 59 18 S l U v := by
        unfold pf_X12_change
        rw [if_neg (fun w => q w.symm), q_bU]
      rw [e]
      exact no18
  by_cases c62 : S 37003 = 62
  · have no18 := no 18 (by decide) (by decide)
    rw [c62] at no18 ⊢
    refine ⟨if n = 1 then pf_X12_plain 62 S l U v else pf_X12_refuse 62 18 S l U v, by rw [if_neg (by decide), if_neg (by decide), if_neg (by decide), if_neg (by decide), if_neg (by decide), if_neg (by decide), if_neg (by decide), if_neg (by decide), if_neg (by decide), if_neg (by decide), if_neg (by decide), if_neg (by decide), if_pos rfl, q_pbif], ?_⟩
    rw [if_neg (by decide), if_neg (by decide), if_neg (by decide), if_neg (by decide), if_neg (by decide), if_neg (by decide), if_neg (by decide), if_neg (by decide), if_neg (by decide), if_neg (by decide), if_neg (by decide), if_neg (by decide), if_pos rfl, q_b, if_neg (by decide), if_neg (by decide), hn]
    by_cases q : (1 : Int32) = n
    · rw [if_pos q]
      unfold pl_X11_serve_46
      have z := q_Sv_m (q_S62 H)
      rw [c62] at z
      rw [if_neg (by decide), if_neg (by decide), if_neg (by decide), if_neg (by decide), if_neg (by decide), if_neg (by decide), if_neg (by decide), if_neg (by decide), if_neg (by decide), if_neg (by decide), if_neg (by decide), if_neg (by decide), if_pos rfl, q_bI, if_pos q.symm]
      exact z
    · rw [if_neg q, if_neg (fun w => q w.symm)]
      exact no18
  by_cases c129 : S 37003 = 129
  · have no18 := no 18 (by decide) (by decide)
    rw [c129] at no18 ⊢
    refine ⟨if n = 1 then pf_X12_plain 129 S l U v else pf_X12_refuse 129 18 S l U v, by rw [if_neg (by decide), if_neg (by decide), if_neg (by decide), if_neg (by decide), if_neg (by decide), if_neg (by decide), if_neg (by decide), if_neg (by decide), if_neg (by decide), if_neg (by decide), if_neg (by decide), if_neg (by decide), if_neg (by decide), if_pos rfl, q_pbif], ?_⟩
    rw [if_neg (by decide), if_neg (by decide), if_neg (by decide), if_neg (by decide), if_neg (by decide), if_neg (by decide), if_neg (by decide), if_neg (by decide), if_neg (by decide), if_neg (by decide), if_neg (by decide), if_neg (by decide), if_neg (by decide), if_pos rfl, q_b, if_neg (by decide), if_neg (by decide), hn]
    by_cases q : (1 : Int32) = n
    · rw [if_pos q]
      unfold pl_X11_serve_46
      have z := q_Sv_m (q_S129 H)
      rw [c129] at z
      rw [if_neg (by decide), if_neg (by decide), if_neg (by decide), if_neg (by decide), if_neg (by decide), if_neg (by decide), if_neg (by decide), if_neg (by decide), if_neg (by decide), if_neg (by decide), if_neg (by decide), if_neg (by decide), if_neg (by decide), if_pos rfl, q_bI, if_pos q.symm]
      exact z
    · rw [if_neg q, if_neg (fun w => q w.symm)]
      exact no18
  by_cases c130 : S 37003 = 130
  · have no18 := no 18 (by decide) (by decide)
    rw [c130] at no18 ⊢
    refine ⟨if n = 1 then pf_X12_plain 130 S l U v else pf_X12_refuse 130 18 S l U v, by rw [if_neg (by decide), if_neg (by decide), if_neg (by decide), if_neg (by decide), if_neg (by decide), if_neg (by decide), if_neg (by decide), if_neg (by decide), if_neg (by decide), if_neg (by decide), if_neg (by decide), if_neg (by decide), if_neg (by decide), if_neg (by decide), if_pos rfl, q_pbif], ?_⟩
    rw [if_neg (by decide), if_neg (by decide), if_neg (by decide), if_neg (by decide), if_neg (by decide), if_neg (by decide), if_neg (by decide), if_neg (by decide), if_neg (by decide), if_neg (by decide), if_neg (by decide), if_neg (by decide), if_neg (by decide), if_neg (by decide), if_pos rfl, q_b, if_neg (by decide), if_neg (by decide), hn]
    by_cases q : (1 : Int32) = n
    · rw [if_pos q]
      unfold pl_X11_serve_46
      have z := q_Sv_m (q_S130 H)
      rw [c130] at z
      rw [if_neg (by decide), if_neg (by decide), if_neg (by decide), if_neg (by decide), if_neg (by decide), if_neg (by decide), if_neg (by decide), if_neg (by decide), if_neg (by decide), if_neg (by decide), if_neg (by decide), if_neg (by decide), if_neg (by decide), if_neg (by decide), if_pos rfl, q_bI, if_pos q.symm]
      exact z
    · rw [if_neg q, if_neg (fun w => q w.symm)]
      exact no18
  refine ⟨pf_X12_refuse (S 37003) 17 S l U v, by rw [if_neg c1, if_neg c2, if_neg c3, if_neg c4, if_neg c7, if_neg c9, if_neg c33, if_neg c39, if_neg c52, if_neg c54, if_neg c55, if_neg c59, if_neg c62, if_neg c129, if_neg c130], ?_⟩
  rw [if_neg c1, if_neg c2, if_neg c3, if_neg c4, if_neg c7, if_neg c9, if_neg c33, if_neg c39, if_neg c52, if_neg c54, if_neg c55, if_neg c59, if_neg c62, if_neg c129, if_neg c130, q_b, if_pos rfl]
  exact no 17 (by decide) (by decide)
end QHA

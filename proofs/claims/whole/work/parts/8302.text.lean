/-! PURE: the BENCH: a TEXT -/
section QTXT
variable {s x u s' x' u' x2 u2 : Nat → Int32} {l y v l' y' v' : Nat → Int64} {D E W : Int} {fu f k n m N p K : Nat} {t : Int64} {a b d e r c w : Int32}
def q_TxO (s : Nat → Int32) (l : Nat → Int64) (x : Nat → Int32) (y : Nat → Int64) (u : Nat → Int32) (v : Nat → Int64) (F G : Option (Int32 × pj_Z)) : Prop := ∃ (i pc pr : Nat) (x' u' : Nat → Int32) (C R : q_Cd), i ≤ 8 ∧ F = pl_X0_readText_79 1000 (Int32.ofNat i) 1 s l x' y ∧ G = some (-1, pj_u s 2 (Int32.ofNat i), l, u', v) ∧ q_CSt pc C x' ∧ q_Gx x x' ∧ q_RS pr R [] 0 u' ∧ q_Gu u u' ∧ q_PW C R ∧ C.length ≤ 200 ∧ R.length ≤ 200
def q_TxF (s : Nat → Int32) (l : Nat → Int64) (x : Nat → Int32) (y : Nat → Int64) (u : Nat → Int32) (v : Nat → Int64) (F G : Option (Int32 × pj_Z)) : Prop := ∃ (a1 : Int32) (pf : Nat) (x' u' : Nat → Int32), pf ≤ 200 ∧ F = pl_X0_readText_79 1000 a1 0 s l x' y ∧ G = some (Int32.ofNat pf, s, l, u', v) ∧ x' 26 = Int32.ofNat pf ∧ q_Gx x x' ∧ q_Gu u u'
theorem q_r79 {a1 a2 : Int32} : pl_X0_readText_16 1000 (f + 1) a1 a2 0 s l x y = pl_X0_readText_62 1000 a1 a2 s l x y := by
  rw [pl_X0_readText_16, if_pos rfl]
theorem q_txtP (hN : N ≤ 200) (hs : s 1 = Int32.ofNat N) (hr : ∀ i, i < 200 → 0 ≤ (s (1000 + i)).toInt ∧ (s (1000 + i)).toInt ≤ 126) : ∀ (j i p g f : Nat) (C R : q_Cd) (x u : Nat → Int32) (a2 b2 : Int32), i + j = 7 → j + 2 < g → q_CSt p C x → q_RS p R [] 0 u → q_PW C R → p ≤ N → C.length ≤ p → R.length ≤ p → N - p + 1 < f → q_TxO s l x y u v (pl_X0_readText_16 1000 g (Int32.ofNat i) b2 1 s l x y) (pl_X12_readText_26 1000 f 0 a2 (Int32.ofNat i) s l u v) ∨ q_TxF s l x y u v (pl_X0_readText_16 1000 g (Int32.ofNat i) b2 1 s l x y) (pl_X12_readText_26 1000 f 0 a2 (Int32.ofNat i) s l u v) := by
  intro j
  induction j with
  | zero =>
    intro i p g f C R x u a2 b2 hi hg hx hu hw hp hC hR hf
    obtain ⟨g, rfl⟩ : ∃ f9, g = f9 + 1 + 1 := ⟨g - 2, by omega⟩
    have i7 : i = 7 := by omega
    subst i7
    rw [pl_X0_readText_16, if_neg q_n10, if_pos (show Int32.ofNat 7 < 8 by decide)]
    have e8 : Int32.ofNat 7 + 1 = Int32.ofNat 8 := q_onaL 7 1
    rcases q_rulP (y := y) (l := l) (v := v) (a2 := a2) (a3 := Int32.ofNat 7) hN hs hr hx hu hp hC hR hf with ⟨pc, pr, f', o, x', cs, r0, P, S, k5, j5, i5, ⟨u', k6, j6, i6⟩, hP, hS, o4, sg, ⟨m1, m2, m3, m4⟩, nsp, m5, m6, m7⟩ | ⟨pf, x', b1, k5, j5, i5, u', k6, i6⟩
    · obtain ⟨f', rfl⟩ : ∃ f9, f' = f9 + 1 := ⟨f' - 1, by omega⟩
      have r2 := q_sk_r (s := s) m2
      have hb : (R ++ r0).length + (P ++ (S ++ [((8 : Int32), (0 : Int32))])).length ≤ 200 := by simp; omega
      rw [k5, q_b, if_neg q_n10, e8, if_neg (show ¬ Int32.ofNat 8 < 8 by decide), k6]
      unfold pl_X0_readText_57 pl_X0_readText_58
      rw [q_r79]
      unfold pl_X0_readText_62
      rw [if_neg q_n10, q_nxC hN hs m3 j5.1, q_b, m4]
      by_cases ce : q_chr s N (q_sk s N pr) = -1
      · left
        obtain ⟨u9, e9, h9, g9⟩ := q_m3end (f := f') (l := l) (v := v) (a2 := Int32.ofNat o) (a3 := Int32.ofNat 7) hN hs m2 j6 hb hP hS ce (Or.inr rfl)
        rw [if_pos rfl, e8] at e9
        have w2 := q_PW_a o4 hw sg
        have E2 : R ++ (r0 ++ q_opc P ++ List.replicate S.length ((11, 0) : Int32 × Int32)) ++ [(12, Int32.ofNat o)] = R ++ r0 ++ q_opc P ++ List.replicate S.length (11, 0) ++ [(12, Int32.ofNat o)] := by simp
        rw [E2] at w2
        refine ⟨8, _, _, _, u9, _, _, Nat.le_refl _, ?_, e9, q_CSt_26 j5 (q_sk s N pr), q_Gx_t i5 q_Gx26, h9, q_Gu_t i6 g9, w2, by simp; omega, by simp [q_opc_l]; omega⟩
        rw [if_pos ce]
      · right
        rw [if_neg ce]
        unfold pl_X0_readText_78
        have ft : q_Ft s l u' v (q_sk s N pr) (pl_X12_readText_26 1000 (f' + 1) 3 (Int32.ofNat o) (Int32.ofNat 7) s l u' v) := by
          by_cases c59 : q_chr s N (q_sk s N pr) = 59
          · obtain ⟨u9, e9, h9, g9⟩ := q_m3end (f := f') (l := l) (v := v) (a2 := Int32.ofNat o) (a3 := Int32.ofNat 7) hN hs m2 j6 hb hP hS c59 (Or.inl rfl)
            rw [if_neg (by decide), e8, if_pos (by decide)] at e9
            unfold pl_X12_readText_308 pl_X12_readText_328 pl_X12_readText_331 at e9
            rw [if_pos rfl, q_uv rfl] at e9
            rw [e9]
            exact q_Ft_m (by omega) h9.1 g9
          · exact q_m3f hN hs m2 j6 hb (by omega) hP hS (by show ¬ ((8 : Int32) = 1 ∨ (8 : Int32) = 2); decide) (Or.inr trivial) nsp (fun _ => by
              cases S with
              | nil => show ¬ (8 : Int32) = 7; decide
              | cons w z => show ¬ w.1 = 7; rw [hS w List.mem_cons_self]; decide) (fun L6 O' e h1 h2 => by
              have := q_uni (P := fun w => w = 6) S L6 [(8, 0)] O' e hS h1 (by show ¬ (8 : Int32) = 6; decide) h2
              rw [← this]
              exact ⟨fun _ => by show ¬ (8 : Int32) = 5; decide, fun _ => by show ¬ (8 : Int32) = 4; decide, fun z => absurd z (fun z => z.elim c59 ce)⟩)
        obtain ⟨u9, e9, g9⟩ := ft
        exact ⟨_, _, _, u9, by omega, rfl, e9, q_ua, q_Gx_t i5 q_Gx26, q_Gu_t i6 g9⟩
    · right
      rw [k5, q_b, if_pos rfl, k6]
      unfold pl_X0_readText_57 pl_X0_readText_58
      rw [q_r79]
      unfold pl_X0_readText_62 pl_X0_readText_78
      rw [if_pos rfl]
      exact ⟨_, pf, x', u', b1.1, rfl, rfl, j5, i5, i6⟩
  | succ j ih =>
    intro i p g f C R x u a2 b2 hi hg hx hu hw hp hC hR hf
    obtain ⟨g, rfl⟩ : ∃ f9, g = f9 + 1 + 1 := ⟨g - 2, by omega⟩
    have i8 : Int32.ofNat i < 8 := by rw [q_onltL (by omega) (by omega)]; omega
    have ei : Int32.ofNat i + 1 = Int32.ofNat (i + 1) := q_onaL i 1
    have i9 : Int32.ofNat (i + 1) < 8 := by rw [q_onltL (by omega) (by omega)]; omega
    have n8 : ¬ Int32.ofNat (i + 1) = 8 := by
      intro z
      rw [z] at i9
      exact absurd i9 (by decide)
    rw [pl_X0_readText_16, if_neg q_n10, if_pos i8]
    rcases q_rulP (y := y) (l := l) (v := v) (a2 := a2) (a3 := Int32.ofNat i) hN hs hr hx hu hp hC hR hf with ⟨pc, pr, f', o, x', cs, r0, P, S, k5, j5, i5, ⟨u', k6, j6, i6⟩, hP, hS, o4, sg, ⟨m1, m2, m3, m4⟩, nsp, m5, m6, m7⟩ | ⟨pf, x', b1, k5, j5, i5, u', k6, i6⟩
    · obtain ⟨f', rfl⟩ : ∃ f9, f' = f9 + 1 := ⟨f' - 1, by omega⟩
      have r2 := q_sk_r (s := s) m2
      have hb : (R ++ r0).length + (P ++ (S ++ [((8 : Int32), (0 : Int32))])).length ≤ 200 := by simp; omega
      have w2 := q_PW_a o4 hw sg
      have E2 : R ++ (r0 ++ q_opc P ++ List.replicate S.length ((11, 0) : Int32 × Int32)) ++ [(12, Int32.ofNat o)] = R ++ r0 ++ q_opc P ++ List.replicate S.length (11, 0) ++ [(12, Int32.ofNat o)] := by simp
      rw [E2] at w2
      rw [k5, q_b, if_neg q_n10, ei, if_pos i9, k6, q_rdC hN hs m3 j5.1, m4]
      by_cases c59 : q_chr s N (q_sk s N pr) = 59
      · have qN : q_sk s N pr < N := (q_chr_lt (s := s) (N := N) (p := q_sk s N pr) (by rw [c59]; decide)).1
        obtain ⟨u9, e9, h9, g9⟩ := q_m3end (f := f') (l := l) (v := v) (a2 := Int32.ofNat o) (a3 := Int32.ofNat i) hN hs m2 j6 hb hP hS c59 (Or.inl rfl)
        rw [if_neg (show ¬ (59 : Int32) = -1 by decide), ei, if_neg n8] at e9
        unfold pl_X12_readText_308 pl_X12_readText_328 pl_X12_readText_331 at e9
        rw [if_neg (show ¬ (0 : Int32) = -1 by decide), h9.1, show Int32.ofNat (q_sk s N pr) + 1 = Int32.ofNat (q_sk s N pr + 1) from q_onaL _ 1] at e9
        rw [if_pos c59, q_b, if_neg q_n10, e9]
        unfold pl_X0_readText_58
        rcases ih (i + 1) (q_sk s N pr + 1) (g + 1) f' (C ++ cs ++ [(4, Int32.ofNat o)]) _ _ (pj_u u9 24 (Int32.ofNat (q_sk s N pr + 1))) (Int32.ofNat o) 1 (by omega) (by omega) (q_CSt_26 (q_CSt_26 j5 (q_sk s N pr)) (q_sk s N pr + 1)) (q_RS_24 h9 (q_sk s N pr + 1)) w2 (by omega) (by simp; omega) (by simp [q_opc_l]; omega) (by omega) with ⟨z1, z2, z3, z4, z5, z6, z7, z8, z9, z10, z11, z12, z13, z14, z15⟩ | ⟨z1, z2, z3, z4, z5, z6, z7, z8, z9, z10⟩
        · left
          exact ⟨z1, z2, z3, z4, z5, z6, z7, z8, z9, z10, z11, q_Gx_t i5 (q_Gx_t q_Gx26 (q_Gx_t q_Gx26 z12)), z13, q_Gu_t i6 (q_Gu_t g9 (q_Gu_t q_Gu24 z14)), z15⟩
        · right
          exact ⟨z1, z2, z3, z4, z5, z6, z7, z8, q_Gx_t i5 (q_Gx_t q_Gx26 (q_Gx_t q_Gx26 z9)), q_Gu_t i6 (q_Gu_t g9 (q_Gu_t q_Gu24 z10))⟩
      · rw [if_neg c59, q_b, if_pos rfl]
        unfold pl_X0_readText_57 pl_X0_readText_58
        rw [q_r79]
        unfold pl_X0_readText_62
        have h26 := q_CSt_26 j5 (q_sk s N pr)
        rw [if_neg q_n10, q_nxC hN hs r2.2 h26.1, q_b, q_sk_i m2]
        by_cases ce : q_chr s N (q_sk s N pr) = -1
        · left
          obtain ⟨u9, e9, h9, g9⟩ := q_m3end (f := f') (l := l) (v := v) (a2 := Int32.ofNat o) (a3 := Int32.ofNat i) hN hs m2 j6 hb hP hS ce (Or.inr rfl)
          rw [if_pos rfl, ei] at e9
          refine ⟨i + 1, _, _, _, u9, _, _, by omega, ?_, e9, q_CSt_26 h26 (q_sk s N pr), q_Gx_t i5 (q_Gx_t q_Gx26 q_Gx26), h9, q_Gu_t i6 g9, w2, by simp; omega, by simp [q_opc_l]; omega⟩
          rw [if_pos ce]
        · right
          rw [if_neg ce]
          unfold pl_X0_readText_78
          have ft : q_Ft s l u' v (q_sk s N pr) (pl_X12_readText_26 1000 (f' + 1) 3 (Int32.ofNat o) (Int32.ofNat i) s l u' v) := by
            exact q_m3f hN hs m2 j6 hb (by omega) hP hS (by show ¬ ((8 : Int32) = 1 ∨ (8 : Int32) = 2); decide) (Or.inr trivial) nsp (fun _ => by
              cases S with
              | nil => show ¬ (8 : Int32) = 7; decide
              | cons w z => show ¬ w.1 = 7; rw [hS w List.mem_cons_self]; decide) (fun L6 O' e h1 h2 => by
              have := q_uni (P := fun w => w = 6) S L6 [(8, 0)] O' e hS h1 (by show ¬ (8 : Int32) = 6; decide) h2
              rw [← this]
              exact ⟨fun _ => by show ¬ (8 : Int32) = 5; decide, fun _ => by show ¬ (8 : Int32) = 4; decide, fun z => absurd z (fun z => z.elim c59 ce)⟩)
          obtain ⟨u9, e9, g9⟩ := ft
          exact ⟨_, _, _, u9, by omega, rfl, e9, q_ua, q_Gx_t i5 (q_Gx_t q_Gx26 q_Gx26), q_Gu_t i6 g9⟩
    · right
      rw [k5, q_b, if_pos rfl, k6]
      unfold pl_X0_readText_57 pl_X0_readText_58
      rw [q_r79]
      unfold pl_X0_readText_62 pl_X0_readText_78
      rw [if_pos rfl]
      exact ⟨_, pf, x', u', b1.1, rfl, rfl, j5, i5, i6⟩
end QTXT

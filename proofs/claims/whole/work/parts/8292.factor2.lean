/-! PURE: the BENCH: a FACTOR is read -/
section QFAD
variable {s x u s' x' u' x2 u2 : Nat → Int32} {l y v l' y' v' : Nat → Int64} {D E W : Int} {fu f k n m N p K : Nat} {t : Int64} {a b d e r c : Int32}
theorem q_Gx26 {p9 : Int32} : q_Gx x (pj_u x 26 p9) := fun w a1 a2 => q_un (by omega)
theorem q_chrI (hr : ∀ i, i < 200 → 0 ≤ (s (1000 + i)).toInt ∧ (s (1000 + i)).toInt ≤ 126) (hN : N ≤ 200) : q_chr s N p = -1 ∨ ∃ i, i < 127 ∧ q_chr s N p = Int32.ofNat i := by
  unfold q_chr
  by_cases c : p < N
  · rw [if_pos c]
    have z := hr p (by omega)
    obtain ⟨i, ei, hi, -⟩ := q_nat z.1
    exact Or.inr ⟨i, by omega, ei⟩
  · rw [if_neg c]; exact Or.inl rfl
theorem q_chr_lt (h : ¬ q_chr s N p = -1) : p < N ∧ q_chr s N p = s (1000 + p) := by
  unfold q_chr at h ⊢
  by_cases c : p < N
  · rw [if_pos c]; exact ⟨c, rfl⟩
  · rw [if_neg c] at h; exact absurd rfl h
theorem q_sk_same (hp : p < N) (h : ¬ s (1000 + p) = 32) : q_sk s N p = p := by
  unfold q_sk
  obtain ⟨m, e⟩ : ∃ m, N - p = m + 1 := ⟨N - p - 1, by omega⟩
  rw [e]
  unfold q_skn
  rw [if_neg h]
theorem q_skn_i : ∀ (m p : Nat), q_skn s m p = p + m ∨ (q_skn s m p < p + m ∧ ¬ s (1000 + q_skn s m p) = 32) := by
  intro m
  induction m with
  | zero => intro p; exact Or.inl rfl
  | succ m ih =>
    intro p
    unfold q_skn
    by_cases c : s (1000 + p) = 32
    · rw [if_pos c]
      rcases ih (p + 1) with z | z
      · left; omega
      · right; exact ⟨by omega, z.2⟩
    · rw [if_neg c]
      right
      exact ⟨by omega, c⟩
theorem q_sk_i (hp : p ≤ N) : q_sk s N (q_sk s N p) = q_sk s N p := by
  have r := q_sk_r (s := s) hp
  rcases q_skn_i (s := s) (N - p) p with z | z
  · have e : q_sk s N p = N := by unfold q_sk; omega
    rw [e]
    unfold q_sk
    rw [Nat.sub_self]
    rfl
  · have e : q_sk s N p < N := by unfold q_sk; omega
    exact q_sk_same e z.2
/-- a factor's end in the reference: the signs before it are written -/
theorem q_tf226 {R L O : q_Cd} {a2 a3 : Int32} (h : q_RS p R (L ++ O) (q_ocn (L ++ O)) u) (hL : ∀ q ∈ L, q.1 = 3) (hO : ¬ q_tkd O = 3) (hb : R.length + (L ++ O).length ≤ 200) : ∃ u', pj_b (pl_X12_takeFactor_226 1000 s l u v) (fun r2 s2 l2 x2 y2 => pl_X12_readText_26 1000 f r2 a2 a3 s2 l2 x2 y2) = pl_X12_readText_26 1000 f 3 a2 a3 s l u' v ∧ q_RS p (R ++ List.replicate L.length (7, 0)) O (q_ocn O) u' ∧ q_Gu u u' := by
  have el : (L ++ O).length = L.length + O.length := by simp
  have oc : q_ocn (L ++ O) = q_ocn O + L.length := by rw [q_ocn_ap, q_ocn_all L (fun q hq => Or.inl (hL q hq))]; omega
  rw [oc] at h
  obtain ⟨u1, e1, h1, g1⟩ := q_efR (s := s) (l := l) (v := v) hO hL h (by omega) (by omega)
  refine ⟨u1, ?_, h1, g1⟩
  unfold pl_X12_takeFactor_226
  rw [e1, q_b, q_b]
/-- one step on both sides: a number, an OUT, an INPUT -/
theorem q_oneP9 {C R L O : q_Cd} {a2 a3 w n9 w2 n2 : Int32} {q q' : Nat} (hN : N ≤ 200) (hx : q_CSt q C x) (hu : q_RS q' R (L ++ O) (q_ocn (L ++ O)) u) (hL : ∀ q ∈ L, q.1 = 3) (hO : ¬ q_tkd O = 3) (hC : C.length ≤ 200) (hb : R.length + (L ++ O).length < 200) : ∃ x1 u1, pf_X0_addStep w n9 s l x y = some (Int32.ofNat C.length, s, l, x1, y) ∧ q_CSt q (C ++ [(w, n9)]) x1 ∧ q_Gx x x1 ∧ (∀ q2 : Nat, ∃ u2, pj_b (pf_X12_add w2 n2 s l u v) (fun r1 s1 l1 x1 y1 => pj_b (pl_X12_takeFactor_226 1000 s1 l1 (pj_u x1 24 (Int32.ofNat q2)) y1) (fun r2 s2 l2 x2 y2 => pl_X12_readText_26 1000 f r2 a2 a3 s2 l2 x2 y2)) = pl_X12_readText_26 1000 f 3 a2 a3 s l u2 v ∧ q_RS q2 (R ++ [(w2, n2)] ++ List.replicate L.length (7, 0)) O (q_ocn O) u2 ∧ q_Gu u u2) ∧ u1 = u := by
  obtain ⟨x1, e1, h1, g1⟩ := q_addC9 (s := s) (l := l) (y := y) hx (by omega) w n9
  obtain ⟨u1, e2, h2, g2⟩ := q_addR9 (s := s) (l := l) (v := v) hu (by omega) w2 n2
  refine ⟨x1, u, e1, h1, g1, ?_, rfl⟩
  intro q2
  have h3 := q_RS_24 h2 q2
  obtain ⟨u2, e3, h4, g4⟩ := q_tf226 (f := f) (s := s) (l := l) (v := v) (a2 := a2) (a3 := a3) h3 hL hO (by simp at hb ⊢; omega)
  refine ⟨u2, ?_, h4, ?_⟩
  · rw [e2, q_b, e3]
  · intro w9 a1 a2
    rw [g4 w9 a1 a2, q_un (by omega), g2 w9 (by omega) (by omega)]
theorem q_facP (hN : N ≤ 200) (hs : s 1 = Int32.ofNat N) (hr : ∀ i, i < 200 → 0 ≤ (s (1000 + i)).toInt ∧ (s (1000 + i)).toInt ≤ 126) {rc rf : Int32 → pj_F (Int32 × pj_Z)} (hK : K ≤ 12) (hrc : K < 12 → q_SCp N s l y v rc (K + 1)) (hrf : K < 12 → q_SFp N s l y v rf (K + 1)) : q_SFp N s l y v (pf_X0_readFactor rc rf) K := by
  intro p f C R L O x u a2 a3 hx hu hoc hL hO hp hC hR hf
  obtain ⟨f, rfl⟩ : ∃ f9, f = f9 + 1 := ⟨f - 1, by omega⟩
  have rr := q_sk_r (s := s) hp
  unfold pf_X0_readFactor
  rw [q_nxC hN hs hp hx.1, q_b, q_nxR hN hs hp hu.1 (by decide) f]
  have hx1 := q_CSt_26 hx (q_sk s N p)
  have hu1 := q_RS_24 hu (q_sk s N p)
  have gx1 : q_Gx x (pj_u x 26 (Int32.ofNat (q_sk s N p))) := q_Gx26
  have gu1 : q_Gu u (pj_u u 24 (Int32.ofNat (q_sk s N p))) := q_Gu24
  have hsk := q_sk_i (s := s) hp
  have hcl := q_chr_lt (s := s) (N := N) (p := q_sk s N p)
  have hci := q_chrI (p := q_sk s N p) hr hN
  generalize q_sk s N p = q at *
  generalize pj_u x 26 (Int32.ofNat q) = x1 at *
  generalize pj_u u 24 (Int32.ofNat q) = u1 at *
  generalize q_chr s N q = c at *
  unfold pl_X12_readText_93 pl_X12_readText_331
  rw [if_neg (show ¬ (2 : Int32) = 0 by decide), if_neg (show ¬ (2 : Int32) = 1 by decide), if_pos (show (2 : Int32) = 2 from rfl)]
  have i1 : pf_X12_isIn c.toInt64 48 57 s l u1 v = some (if c < 48 then 0 else if 57 < c then 0 else 1, s, l, u1, v) := q_isI c 48 57
  have i2 : pf_X12_isIn c.toInt64 97 100 s l u1 v = some (if c < 97 then 0 else if 100 < c then 0 else 1, s, l, u1, v) := q_isI c 97 100
  -- a FAULT here
  have bad : ∀ F G : Option (Int32 × pj_Z), F = some (0, s, l, x1, y) → G = pl_X12_readText_26 1000 f (-1) a2 a3 s l u1 v → q_Bad s l x y u v F G := by
    intro F G e1 e2
    refine ⟨q, x1, ⟨by omega, C.length, by omega, hx1.2.1⟩, e1, hx1.1, gx1, ?_⟩
    rw [e2]
    exact q_Ft_m (by omega) hu1.1 gu1
  have K12 : (Int32.ofNat K < 12) ↔ K < 12 := by rw [q_onltL (by omega) (by omega)]
  have eK : Int32.ofNat K + 1 = Int32.ofNat (K + 1) := q_onaL K 1
  have eq1 : Int32.ofNat q + 1 = Int32.ofNat (q + 1) := q_onaL q 1
  have eL : (L ++ O).length = L.length + O.length := by simp
  rw [← hoc] at hu1
  by_cases dg : ¬ c < 48 ∧ ¬ 57 < c
  · -- a number
    obtain ⟨d1, d2⟩ := dg
    have cn : ¬ c = -1 := fun z => d1 (by rw [z]; decide)
    obtain ⟨qN, ec⟩ := hcl cn
    obtain ⟨p', a', k1, k2, k3, k4, k5, k6, k7⟩ := q_numP (l := l) (y := y) (v := v) hN hs 5 0 q 1000 1000 0 x1 u1 (by omega) (by omega) (by omega) (by omega) hx1.1 hu1.1
    have qp : q < p' := k6 (by omega) qN (by rw [← ec]; exact d1) (by rw [← ec]; exact d2)
    have k4' : pf_X12_takeFactor c s l u1 v = pl_X12_takeFactor_90 1000 a' s l (pj_u u1 24 (Int32.ofNat p')) v := by
      unfold pf_X12_takeFactor po_X12_takeFactor
      rw [i1, q_b, if_neg d1, if_neg d2, if_neg q_n10]
      exact k4
    rw [if_neg d1, if_neg d2, k4']
    have hu2 := q_RS_24 hu1 p'
    have gu2 : q_Gu u (pj_u u1 24 (Int32.ofNat p')) := q_Gu_t gu1 q_Gu24
    have hx2 := q_CSt_26 hx1 p'
    have gx2 : q_Gx x (pj_u x1 26 (Int32.ofNat p')) := q_Gx_t gx1 q_Gx26
    generalize pj_u u1 24 (Int32.ofNat p') = u2 at *
    generalize pj_u x1 26 (Int32.ofNat p') = x2 at *
    obtain ⟨u3, e3, h3, g3⟩ := q_addR9 (s := s) (l := l) (v := v) hu2 (by omega) 0 a'
    obtain ⟨u4, e4, h4, g4⟩ := q_tf226 (f := f) (s := s) (l := l) (v := v) (a2 := a2) (a3 := a3) h3 hL hO (by simp; omega)
    have G4 : q_Gu u u4 := fun w b1 b2 => by rw [g4 w b1 b2, g3 w (by omega) (by omega), gu2 w b1 b2]
    have eG : pj_b (pl_X12_takeFactor_90 1000 a' s l u2 v) (fun r2 s2 l2 x2 y2 => pl_X12_readText_26 1000 f r2 a2 a3 s2 l2 x2 y2) = pl_X12_readText_26 1000 f 3 a2 a3 s l u4 v := by
      unfold pl_X12_takeFactor_90
      rw [e3, q_b, e4]
    rw [eG]
    rcases k5 with ⟨n1, n2⟩ | ⟨n1, n2, n3, n4⟩
    · have n1' : pf_X0_readNumber s l x1 y = some (a', s, l, x2, y) := n1
      obtain ⟨x3, e5, h5, g5⟩ := q_addC9 (s := s) (l := l) (y := y) hx2 (by omega) 0 a'
      by_cases am : a' = -1
      · -- a number is never -1: it has at most five digits
        exfalso
        have z := k7 (by decide) (by decide)
        rw [am] at z
        exact absurd z (by decide)
      · left
        refine ⟨p', f, x3, [(0, a')], [(0, a')], ?_, h5, q_Gx_t gx2 g5, ⟨u4, rfl, h4, G4⟩, q_SG_num a', by omega, k2, by simp; omega, by simp; omega, by omega⟩
        rw [n1', q_b, e5, q_b, if_neg am]
    · have n4' : pf_X0_readNumber s l x1 y = some (-1, s, l, x2, y) := n4
      obtain ⟨x3, e5, h5, g5⟩ := q_addC9 (s := s) (l := l) (y := y) hx2 (by omega) 0 (-1)
      right
      have sp : q_sk s N p' = p' := q_sk_same n1 (fun z => by rw [z] at n2; exact n2 (by decide))
      have cp : q_chr s N p' = s (1000 + p') := by unfold q_chr; rw [if_pos n1]
      have ne : ∀ k : Int32, (k < 48 ∨ 57 < k) → ¬ q_chr s N (q_sk s N p') = k := by
        intro k hk z
        rw [sp, cp] at z
        rcases hk with w | w
        · exact n2 (by rw [z]; exact w)
        · exact n3 (by rw [z]; exact w)
      refine ⟨p', x3, ⟨by omega, _, by simp; omega, h5.2.1⟩, ?_, h5.1, q_Gx_t gx2 g5, ?_⟩
      · rw [n4', q_b, e5, q_b, if_pos rfl]
      · have ft := q_m3n (f := f) (l := l) (v := v) (a2 := a2) (a3 := a3) hN hs k2 h4 (by simp; omega) (by omega) (by unfold q_Sp; intro z; rcases z with z | z | z | z | z | z | z; exact ne 42 (by decide) z; exact ne 47 (by decide) z; exact ne 43 (by decide) z; exact ne 45 (by decide) z; exact ne 60 (by decide) z; exact ne 62 (by decide) z; exact ne 126 (by decide) z) (fun z => absurd z (ne 63 (by decide))) (fun _ _ _ _ _ _ _ _ => ⟨fun z => absurd z (ne 58 (by decide)), fun z => absurd z (ne 41 (by decide)), fun z => (z.elim (ne 59 (by decide)) (ne (-1) (by decide))).elim⟩)
        rw [sp] at ft
        obtain ⟨u5, e6, g6⟩ := ft
        exact ⟨u5, e6, q_Gu_t G4 g6⟩
  · -- no number
    have C40 : (if c < 48 then pl_X0_readFactor_40 rc rf (Int32.ofNat K) c s l x1 y else (if 57 < c then pl_X0_readFactor_40 rc rf (Int32.ofNat K) c s l x1 y else pj_b (pf_X0_readNumber s l x1 y) (fun r2 s2 l2 x2 y2 => pj_b (pf_X0_addStep 0 r2 s2 l2 x2 y2) (fun r3 s3 l3 x3 y3 => (if r2 = (-1) then some (0, s3, l3, x3, y3) else some (1, s3, l3, x3, y3)))))) = pl_X0_readFactor_40 rc rf (Int32.ofNat K) c s l x1 y := by
      by_cases d1 : c < 48
      · rw [if_pos d1]
      · rw [if_neg d1]
        by_cases d2 : 57 < c
        · rw [if_pos d2]
        · exact absurd ⟨d1, d2⟩ dg
    have i10 : (if c < 48 then (0 : Int32) else if 57 < c then 0 else 1) = 0 := by
      by_cases d1 : c < 48
      · rw [if_pos d1]
      · rw [if_neg d1]
        by_cases d2 : 57 < c
        · rw [if_pos d2]
        · exact absurd ⟨d1, d2⟩ dg
    rw [C40]
    unfold pf_X12_takeFactor po_X12_takeFactor
    rw [i1, q_b, i10, if_pos rfl, i2, q_b]
    by_cases dl : ¬ c < 97 ∧ ¬ 100 < c
    · -- an OUT
      obtain ⟨d1, d2⟩ := dl
      have o97 : (97 : Int32).toInt = 97 := rfl
      have o100 : (100 : Int32).toInt = 100 := rfl
      have d1' := d1
      have d2' := d2
      rw [Int32.lt_iff_toInt_lt, o97] at d1'
      rw [Int32.lt_iff_toInt_lt, o100] at d2'
      have cn : ¬ c = -1 := fun z => d1 (by rw [z]; decide)
      obtain ⟨qN, ec⟩ := hcl cn
      have es : (c - 97).toInt = c.toInt - 97 := by rw [q_sub (by rw [o97]; omega) (by rw [o97]; omega), o97]
      obtain ⟨j, ej, hj, -⟩ := q_nat (a := c - 97) (by rw [es]; omega)
      have j4 : j < 4 := by omega
      obtain ⟨x2, -, e2, h2, g2, hr2, -⟩ := q_oneP9 (f := f) (s := s) (l := l) (y := y) (v := v) (a2 := a2) (a3 := a3) (w := 1) (n9 := Int32.ofNat j) (w2 := 2) (n2 := Int32.ofNat j) hN hx1 hu1 hL hO (by omega) (by omega)
      obtain ⟨u2, e3, h3, g3⟩ := hr2 (q + 1)
      left
      refine ⟨q + 1, f, pj_u x2 26 (Int32.ofNat (q + 1)), [(1, Int32.ofNat j)], [(2, Int32.ofNat j)], ?_, q_CSt_26 h2 (q + 1), q_Gx_t gx1 (q_Gx_t g2 q_Gx26), ⟨u2, ?_, h3, q_Gu_t gu1 g3⟩, q_SG_out j4, by omega, by omega, by simp; omega, by simp; omega, by omega⟩
      · unfold pl_X0_readFactor_40 pl_X0_readFactor_163 pl_X0_readFactor_205
        rw [if_neg (fun z => d1 (by rw [z]; decide)), if_neg (fun z => d1 (by rw [z]; decide)), if_neg cn, if_neg d1, if_neg d2, ej, e2, q_b, h2.1, eq1]
      · rw [if_neg d1, if_neg d2, if_neg q_n10, ej]
        obtain ⟨u9, e9, h9, -⟩ := q_addR9 (s := s) (l := l) (v := v) hu1 (by omega) 2 (Int32.ofNat j)
        rw [e9, q_b] at e3 ⊢
        rw [h9.1, eq1]
        exact e3
    · have i20 : (if c < 97 then (0 : Int32) else if 100 < c then 0 else 1) = 0 := by
        by_cases d1 : c < 97
        · rw [if_pos d1]
        · rw [if_neg d1]
          by_cases d2 : 100 < c
          · rw [if_pos d2]
          · exact absurd ⟨d1, d2⟩ dl
      rw [i20, if_pos rfl, q_inpR, q_b]
      by_cases c45 : c = 45 ∨ c = 40
      · -- ( or -
        have W1 : (if c = 107 then (5 : Int32) else if c = 108 then 3 else if c = 109 then 6 else if c = 110 then 7 else if c = 112 then 1 else if c = 115 then 0 else if c = 116 then 2 else if c = 118 then 4 else (-1)) = -1 := by
          rcases c45 with z | z <;> rw [z] <;> rfl
        have cn : ¬ c = -1 := by rcases c45 with z | z <;> rw [z] <;> decide
        obtain ⟨qN, ec⟩ := hcl cn
        have E1 : pl_X0_readFactor_40 rc rf (Int32.ofNat K) c s l x1 y = pl_X0_readFactor_52 rc rf (Int32.ofNat K) c s l x1 y := by
          unfold pl_X0_readFactor_40
          rcases c45 with z | z
          · rw [if_pos z]
          · rw [if_neg (by rw [z]; decide), if_pos z]
        have E2 : (if c = 45 then pl_X12_takeFactor_177 1000 c s l u1 v else (if c = 40 then pl_X12_takeFactor_177 1000 c s l u1 v else some ((-1), s, l, u1, v))) = pl_X12_takeFactor_177 1000 c s l u1 v := by
          rcases c45 with z | z
          · rw [if_pos z]
          · rw [if_neg (by rw [z]; decide), if_pos z]
        rw [W1, if_pos rfl, E1, E2]
        unfold pl_X0_readFactor_52 pl_X12_takeFactor_177
        have u28 : u1 28 = Int32.ofNat K := by rw [hu1.2.2.2.2.2, hoc]
        by_cases k12 : K < 12
        · rw [if_pos (K12.mpr k12), u28, if_pos (K12.mpr k12), hx1.1, eq1, eK]
          have hx2 := q_CSt_26 hx1 (q + 1)
          have gx2 : q_Gx x (pj_u x1 26 (Int32.ofNat (q + 1))) := q_Gx_t gx1 q_Gx26
          generalize pj_u x1 26 (Int32.ofNat (q + 1)) = x2 at *
          rcases c45 with z | z
          · -- -
            subst z
            obtain ⟨u2, e2, h2, g2⟩ := q_awR9 (s := s) (l := l) (v := v) hu1 (by omega) (by omega) 3 45
            have h3 := q_RS_24 (q_RS_28 h2 (K + 1)) (q + 1)
            have gu3 : q_Gu u (pj_u (pj_u u2 28 (Int32.ofNat (K + 1))) 24 (Int32.ofNat (q + 1))) := q_Gu_t gu1 (q_Gu_t g2 (fun w b1 b2 => by rw [q_un (by omega), q_un (by omega)]))
            have eR : pj_b (pl_X12_takeFactor_198 1000 45 3 s l u1 v) (fun r2 s2 l2 x2 y2 => pl_X12_readText_26 1000 f r2 a2 a3 s2 l2 x2 y2) = pl_X12_readText_26 1000 f 2 a2 a3 s l (pj_u (pj_u u2 28 (Int32.ofNat (K + 1))) 24 (Int32.ofNat (q + 1))) v := by
              unfold pl_X12_takeFactor_198
              rw [e2, q_b, q_b, h2.2.2.2.2.2, hoc, eK, h2.1, eq1]
            rw [if_pos rfl, if_pos rfl, eR]
            generalize pj_u (pj_u u2 28 (Int32.ofNat (K + 1))) 24 (Int32.ofNat (q + 1)) = u3 at *
            have oc3 : q_ocn (((3, 45) :: L) ++ O) = K + 1 := by
              show q_ocn ((3, 45) :: (L ++ O)) = K + 1
              rw [q_oc1 (by simp), hoc]
            rcases hrf k12 (q + 1) f C R ((3, 45) :: L) O x2 u3 a2 a3 hx2 h3 oc3 (fun w hw => by rcases List.mem_cons.mp hw with z | z; rw [z]; exact hL w z) hO (by omega) (by omega) (by simp; omega) (by omega) with ⟨p', f', x', cs, rs, e5, h5, g5, ⟨u', e6, h6, g6⟩, sg, m1, m2, m3, m4, m5⟩ | ⟨pf, x', m0, e5, h5, g5, u', e6, g6⟩
            · left
              have el : (C ++ cs).length = C.length + cs.length := by simp
              obtain ⟨x3, e7, h7, g7⟩ := q_addC9 (s := s) (l := l) (y := y) h5 (by omega) 3 0
              refine ⟨p', f', x3, cs ++ [(3, 0)], rs ++ [(7, 0)], ?_, by rw [← List.append_assoc]; exact h7, q_Gx_t gx2 (q_Gx_t g5 g7), ⟨u', e6, ?_, q_Gu_t gu3 g6⟩, q_SG_neg sg, by omega, m2, by simp; omega, by simp; omega, m5⟩
              · rw [e5, q_b]
                unfold pl_X0_readFactor_110 pl_X0_readFactor_134
                rw [if_neg q_n10, if_neg (by decide), if_neg q_n10, e7, q_b, q_bz (Or.inr rfl)]
              · have : R ++ (rs ++ [((7 : Int32), (0 : Int32))]) ++ List.replicate L.length (7, 0) = R ++ rs ++ List.replicate ((3, 45) :: L).length (7, 0) := by
                  show _ = R ++ rs ++ List.replicate (L.length + 1) (7, 0)
                  rw [List.replicate_succ]; simp
                rw [this]; exact h6
            · right
              refine ⟨pf, x', m0, ?_, h5, q_Gx_t gx2 g5, u', e6, q_Gu_t gu3 g6⟩
              rw [e5, q_b]
              unfold pl_X0_readFactor_110 pl_X0_readFactor_134
              rw [if_pos rfl, if_pos rfl, q_bz (Or.inl rfl)]
          · -- (
            subst z
            obtain ⟨u2, e2, h2, g2⟩ := q_awR9 (s := s) (l := l) (v := v) hu1 (by omega) (by omega) 4 40
            have h3 := q_RS_24 (q_RS_28 h2 (K + 1)) (q + 1)
            have gu3 : q_Gu u (pj_u (pj_u u2 28 (Int32.ofNat (K + 1))) 24 (Int32.ofNat (q + 1))) := q_Gu_t gu1 (q_Gu_t g2 (fun w b1 b2 => by rw [q_un (by omega), q_un (by omega)]))
            have eR : pj_b (pl_X12_takeFactor_198 1000 40 4 s l u1 v) (fun r2 s2 l2 x2 y2 => pl_X12_readText_26 1000 f r2 a2 a3 s2 l2 x2 y2) = pl_X12_readText_26 1000 f 2 a2 a3 s l (pj_u (pj_u u2 28 (Int32.ofNat (K + 1))) 24 (Int32.ofNat (q + 1))) v := by
              unfold pl_X12_takeFactor_198
              rw [e2, q_b, q_b, h2.2.2.2.2.2, hoc, eK, h2.1, eq1]
            rw [if_neg (by decide), if_neg (by decide), eR]
            generalize pj_u (pj_u u2 28 (Int32.ofNat (K + 1))) 24 (Int32.ofNat (q + 1)) = u3 at *
            have oc3 : q_ocn ((4, 40) :: (L ++ O)) = K + 1 := by rw [q_oc1 (by simp), hoc]
            rcases hrc k12 (q + 1) f C R ((4, 40) :: (L ++ O)) x2 u3 a2 a3 hx2 h3 oc3 (Or.inl rfl) (by omega) (by omega) (by simp; omega) (by omega) with ⟨pc, pr, f', x', cs, r0, P, S, e5, h5, g5, ⟨u', e6, h6, g6⟩, hP, hS, sg, ⟨m1, m2, m3, m4⟩, nsp, m5, m6, m7⟩ | ⟨pf, x', m0, e5, h5, g5, u', e6, g6⟩
            · obtain ⟨f', rfl⟩ : ∃ f9, f' = f9 + 1 := ⟨f' - 1, by omega⟩
              have r2 := q_sk_r (s := s) m2
              have hb : (R ++ r0).length + (P ++ (S ++ ((4, 40) :: (L ++ O)))).length ≤ 200 := by simp at hR eL m6 ⊢; omega
              rw [e5, q_b, if_neg q_n10, q_nxC hN hs m3 h5.1, q_b, e6, m4]
              by_cases c41 : q_chr s N (q_sk s N pr) = 41
              · left
                obtain ⟨u4, e7, h7, g7⟩ := q_m3par (f := f') (l := l) (v := v) (a2 := a2) (a3 := a3) hN hs m2 h6 hb hP hS hL hO c41
                have qN2 : q_sk s N pr < N := (q_chr_lt (s := s) (N := N) (p := q_sk s N pr) (by rw [c41]; decide)).1
                have h8 := q_CSt_26 h5 (q_sk s N pr)
                refine ⟨q_sk s N pr + 1, f', pj_u (pj_u x' 26 (Int32.ofNat (q_sk s N pr))) 26 (Int32.ofNat (q_sk s N pr + 1)), cs, r0 ++ q_opc P ++ List.replicate S.length (11, 0), ?_, q_CSt_26 h8 _, q_Gx_t gx2 (q_Gx_t g5 (q_Gx_t q_Gx26 q_Gx26)), ⟨u4, e7, ?_, q_Gu_t gu3 (q_Gu_t g6 g7)⟩, sg, by omega, by omega, by omega, ?_, by omega⟩
                · rw [c41, if_pos rfl]
                  unfold pl_X0_readFactor_110
                  rw [if_neg q_n10, if_pos rfl, q_bz (Or.inr rfl), q_ua, show Int32.ofNat (q_sk s N pr) + 1 = Int32.ofNat (q_sk s N pr + 1) from q_onaL _ 1]
                · have : R ++ (r0 ++ q_opc P ++ List.replicate S.length ((11, 0) : Int32 × Int32)) ++ List.replicate L.length (7, 0) = R ++ r0 ++ q_opc P ++ List.replicate S.length (11, 0) ++ List.replicate L.length (7, 0) := by simp
                  rw [this]; exact h7
                · simp [q_opc_l]; omega
              · right
                have ft := q_m3f (f := f' + 1) (l := l) (v := v) (a2 := a2) (a3 := a3) hN hs m2 h6 hb (by omega) hP hS (by show ¬ ((4 : Int32) = 1 ∨ (4 : Int32) = 2); decide) (Or.inr trivial) nsp (fun _ => by
                    cases S with
                    | nil => show ¬ (4 : Int32) = 7; decide
                    | cons w z => show ¬ w.1 = 7; rw [hS w List.mem_cons_self]; decide) (fun L6 O' e h1 h2 => by
                    have := q_uni (P := fun w => w = 6) S L6 ((4, 40) :: (L ++ O)) O' e hS h1 (by show ¬ (4 : Int32) = 6; decide) h2
                    rw [← this]
                    exact ⟨fun _ => by show ¬ (4 : Int32) = 5; decide, fun z => absurd z c41, fun _ => by show ¬ (4 : Int32) = 8; decide⟩)
                obtain ⟨u4, e7, g7⟩ := ft
                refine ⟨q_sk s N pr, pj_u x' 26 (Int32.ofNat (q_sk s N pr)), ⟨by omega, (C ++ cs).length, by simp; omega, by rw [q_un (by omega)]; exact h5.2.1⟩, ?_, q_ua, q_Gx_t gx2 (q_Gx_t g5 q_Gx26), u4, e7, q_Gu_t gu3 (q_Gu_t g6 g7)⟩
                rw [if_neg c41]
                unfold pl_X0_readFactor_109 pl_X0_readFactor_110 pl_X0_readFactor_134
                rw [if_pos rfl, if_pos rfl, q_bz (Or.inl rfl)]
            · right
              refine ⟨pf, x', m0, ?_, h5, q_Gx_t gx2 g5, u', e6, q_Gu_t gu3 g6⟩
              rw [e5, q_b, if_pos rfl]
              unfold pl_X0_readFactor_109 pl_X0_readFactor_110 pl_X0_readFactor_134
              rw [if_pos rfl, if_pos rfl, q_bz (Or.inl rfl)]
        · right
          rw [if_neg (fun z => k12 (K12.mp z)), u28, if_neg (fun z => k12 (K12.mp z))]
          exact bad _ _ rfl (by rw [q_b])
      · -- an INPUT, or nothing
        have n45 : ¬ c = 45 := fun z => c45 (Or.inl z)
        have n40 : ¬ c = 40 := fun z => c45 (Or.inr z)
        have E2 : (if c = 45 then pl_X12_takeFactor_177 1000 c s l u1 v else (if c = 40 then pl_X12_takeFactor_177 1000 c s l u1 v else some ((-1), s, l, u1, v))) = some ((-1), s, l, u1, v) := by rw [if_neg n45, if_neg n40]
        have dl' : c < 97 ∨ 100 < c := by
          by_cases d1 : c < 97
          · exact Or.inl d1
          · by_cases d2 : 100 < c
            · exact Or.inr d2
            · exact absurd ⟨d1, d2⟩ dl
        rw [E2]
        have W : ∀ b0 : Int32, pl_X0_readFactor_163 rc rf c b0 s l x1 y = pl_X0_readFactor_189 rc rf b0 s l x1 y := by
          intro b0
          unfold pl_X0_readFactor_163
          by_cases d1 : c < 97
          · rw [if_pos d1]
          · rw [if_neg d1, if_pos (dl'.resolve_left d1)]
        unfold pl_X0_readFactor_40
        rw [if_neg n45, if_neg n40, W, W]
        by_cases cn : c = -1
        · right
          rw [if_pos cn]
          have W1 : (if c = 107 then (5 : Int32) else if c = 108 then 3 else if c = 109 then 6 else if c = 110 then 7 else if c = 112 then 1 else if c = 115 then 0 else if c = 116 then 2 else if c = 118 then 4 else (-1)) = -1 := by rw [cn]; rfl
          rw [W1, if_pos rfl]
          refine bad _ _ ?_ (by rw [q_b])
          unfold pl_X0_readFactor_189
          rw [if_pos (by decide)]
        · rw [if_neg cn]
          obtain ⟨qN, ec⟩ := hcl cn
          obtain ⟨i, i127, ei⟩ := hci.resolve_left cn
          have iw := q_inpE i i127 (by rw [← ei]; exact dl')
          rw [← ei] at iw
          rw [iw]
          have w8 : (if c = 107 then (5 : Int32) else if c = 108 then 3 else if c = 109 then 6 else if c = 110 then 7 else if c = 112 then 1 else if c = 115 then 0 else if c = 116 then 2 else if c = 118 then 4 else (-1)) = -1 ∨ ∃ j : Nat, j < 8 ∧ (if c = 107 then (5 : Int32) else if c = 108 then 3 else if c = 109 then 6 else if c = 110 then 7 else if c = 112 then 1 else if c = 115 then 0 else if c = 116 then 2 else if c = 118 then 4 else (-1)) = Int32.ofNat j := by
            repeat' split
            · exact Or.inr ⟨5, by omega, rfl⟩
            · exact Or.inr ⟨3, by omega, rfl⟩
            · exact Or.inr ⟨6, by omega, rfl⟩
            · exact Or.inr ⟨7, by omega, rfl⟩
            · exact Or.inr ⟨1, by omega, rfl⟩
            · exact Or.inr ⟨0, by omega, rfl⟩
            · exact Or.inr ⟨2, by omega, rfl⟩
            · exact Or.inr ⟨4, by omega, rfl⟩
            · exact Or.inl rfl
          generalize hw : (if c = 107 then (5 : Int32) else if c = 108 then 3 else if c = 109 then 6 else if c = 110 then 7 else if c = 112 then 1 else if c = 115 then 0 else if c = 116 then 2 else if c = 118 then 4 else (-1)) = w at *
          rcases w8 with z | ⟨j, j8, z⟩
          · right
            rw [z, if_pos rfl]
            refine bad _ _ ?_ (by rw [q_b])
            unfold pl_X0_readFactor_189
            rw [if_pos (by decide)]
          · have nm : ¬ w = -1 := by rw [z]; exact q_encn (by omega)
            obtain ⟨x2, -, e2, h2, g2, hr2, -⟩ := q_oneP9 (f := f) (s := s) (l := l) (y := y) (v := v) (a2 := a2) (a3 := a3) (w := 2) (n9 := Int32.ofNat j) (w2 := 1) (n2 := Int32.ofNat j) hN hx1 hu1 hL hO (by omega) (by omega)
            obtain ⟨u2, e3, h3, g3⟩ := hr2 (q + 1)
            left
            refine ⟨q + 1, f, pj_u x2 26 (Int32.ofNat (q + 1)), [(2, Int32.ofNat j)], [(1, Int32.ofNat j)], ?_, q_CSt_26 h2 (q + 1), q_Gx_t gx1 (q_Gx_t g2 q_Gx26), ⟨u2, ?_, h3, q_Gu_t gu1 g3⟩, q_SG_in j8, by omega, by omega, by simp; omega, by simp; omega, by omega⟩
            · unfold pl_X0_readFactor_189 pl_X0_readFactor_205
              rw [z, if_neg (q_onnn (by omega)), e2, q_b, h2.1, eq1]
            · rw [if_neg nm, q_inpR, hw, q_b, z]
              obtain ⟨u9, e9, h9, -⟩ := q_addR9 (s := s) (l := l) (v := v) hu1 (by omega) 1 (Int32.ofNat j)
              rw [e9, q_b] at e3 ⊢
              rw [h9.1, eq1]
              exact e3
end QFAD

/-! PURE: the BENCH: the ring, RULES -/
section QRUL
variable {s x u s' x' u' x2 u2 : Nat → Int32} {l y v l' y' v' : Nat → Int64} {D E W : Int} {fu f k n m N p K : Nat} {t : Int64} {a b d e r c w : Int32}
theorem q_rngP (hN : N ≤ 200) (hs : s 1 = Int32.ofNat N) (hr : ∀ i, i < 200 → 0 ≤ (s (1000 + i)).toInt ∧ (s (1000 + i)).toInt ≤ 126) : ∀ n K : Nat, K ≤ 12 → 13 ≤ K + n → q_SCp N s l y v (pr_X0 n).1 K ∧ q_SFp N s l y v (pr_X0 n).2 K := by
  intro n
  induction n with
  | zero => intro K h1 h2; omega
  | succ n ih =>
    intro K h1 h2
    have F : q_SFp N s l y v (pf_X0_readFactor (pr_X0 n).1 (pr_X0 n).2) K := q_facP hN hs hr h1 (fun z => (ih (K + 1) (by omega) (by omega)).1) (fun z => (ih (K + 1) (by omega) (by omega)).2)
    exact ⟨q_choP hN hs h1 (q_sumP hN hs (q_proP hN hs F)) (fun z => (ih (K + 1) (by omega) (by omega)).1), F⟩
/-- programs that go one after another -/
def q_PW (C R : q_Cd) : Prop := ∀ (s ip : Nat → Int32), ∃ nx s', nx ≤ C.length ∧ q_cr ip C 0 0 [] s = some (nx, [], s') ∧ q_rr ip R [] s = some ([], s')
theorem q_PW_0 : q_PW [] [] := fun s ip => ⟨0, s, Nat.le_refl _, rfl, rfl⟩
theorem q_PW_G {C R : q_Cd} (h : q_PW C R) : q_PG C R := fun s ip => by
  obtain ⟨nx, s', -, h2, h3⟩ := h s ip
  exact ⟨nx, s', h2, h3⟩
theorem q_PW_a {C R cs rs : q_Cd} {o : Nat} (ho : o < 4) (h : q_PW C R) (sg : q_SG C.length cs rs) : q_PW (C ++ cs ++ [(4, Int32.ofNat o)]) (R ++ rs ++ [(12, Int32.ofNat o)]) := by
  intro s ip
  obtain ⟨nx, s1, h1, h2, h3⟩ := h s ip
  obtain ⟨w, p1, p2⟩ := sg s1 ip
  obtain ⟨nx2, k1, k2⟩ := p1 nx [] h1
  have o1 : ¬ Int32.ofNat o < 0 := q_onnn (by omega)
  have o2 : Int32.ofNat o < 4 := by rw [q_onltL (by omega) (by omega)]; omega
  refine ⟨C.length + cs.length + 1, pj_u s1 (2000 + o) w, by simp; omega, ?_, ?_⟩
  · rw [q_cr_ap, q_cr_ap, h2]
    show (match q_cr ip cs (0 + C.length) nx [] s1 with | none => none | some z => q_cr ip [(4, Int32.ofNat o)] (0 + (C ++ cs).length) z.1 z.2.1 z.2.2) = _
    rw [Nat.zero_add, k2]
    show q_cr ip [(4, Int32.ofNat o)] (0 + (C ++ cs).length) nx2 [w] s1 = _
    have el : (C ++ cs).length = C.length + cs.length := by simp
    rw [Nat.zero_add, el]
    refine q_cr1 k1 (z := ([], pj_u s1 (2000 + o) w)) ?_ rfl
    unfold q_cs
    rw [if_neg (by decide), if_neg (by decide), if_neg (by decide), if_neg (by decide)]
    show (if (4 : Int32) = 5 then _ else if (4 : Int32) = 4 then (if Int32.ofNat o < 0 then none else if Int32.ofNat o < 4 then some ([], pj_u s1 (2000 + (Int32.ofNat o).toNatClampNeg) w) else none) else _) = _
    rw [if_neg (by decide), if_pos rfl, if_neg o1, if_pos o2, q_onC (by omega)]
  · rw [q_rr_ap, q_rr_ap, h3]
    show (match q_rr ip rs [] s1 with | none => none | some z => q_rr ip [(12, Int32.ofNat o)] z.1 z.2) = _
    rw [p2]
    refine q_rr1 ?_
    unfold q_rst
    rw [if_neg (by decide), if_neg (by decide), if_neg (by decide), if_neg (by decide)]
    show (if (12 : Int32) = 7 then _ else if (12 : Int32) = 12 then (if Int32.ofNat o < 0 then none else if Int32.ofNat o < 4 then some ([], pj_u s1 (2000 + (Int32.ofNat o).toNatClampNeg) w) else none) else _) = _
    rw [if_neg (by decide), if_pos rfl, if_neg o1, if_pos o2, q_onC (by omega)]
def q_OkR (N : Nat) (s : Nat → Int32) (l : Nat → Int64) (x : Nat → Int32) (y : Nat → Int64) (u : Nat → Int32) (v : Nat → Int64) (a3 : Int32) (p : Nat) (C R : q_Cd) (F G : Option (Int32 × pj_Z)) : Prop := ∃ (pc pr f' o : Nat) (x' : Nat → Int32) (cs r0 P S : q_Cd), F = some (1, s, l, x', y) ∧ q_CSt pc (C ++ cs ++ [(4, Int32.ofNat o)]) x' ∧ q_Gx x x' ∧ q_On s l u v (Int32.ofNat o) a3 f' 3 pr (R ++ r0) (P ++ (S ++ [(8, 0)])) G ∧ (∀ q ∈ P, q.1 = 1 ∨ q.1 = 2) ∧ (∀ q ∈ S, q.1 = 6) ∧ o < 4 ∧ q_SG C.length cs (r0 ++ q_opc P ++ List.replicate S.length (11, 0)) ∧ (p < pr ∧ pr ≤ N ∧ pc ≤ N ∧ q_sk s N pc = q_sk s N pr) ∧ ¬ q_Sp (q_chr s N (q_sk s N pr)) ∧ cs.length + 1 ≤ pr - p ∧ r0.length + P.length + S.length + 1 ≤ pr - p ∧ N - pr + 1 < f'
theorem q_isJ (b : Int32) : pf_X12_isIn ((b - 97).toInt64) 0 3 s l u v = some (if b - 97 < 0 then 0 else if 3 < b - 97 then 0 else 1, s, l, u, v) := q_isI (b - 97) 0 3
theorem q_rulP {R C : q_Cd} {a2 a3 : Int32} (hN : N ≤ 200) (hs : s 1 = Int32.ofNat N) (hr : ∀ i, i < 200 → 0 ≤ (s (1000 + i)).toInt ∧ (s (1000 + i)).toInt ≤ 126) (hx : q_CSt p C x) (hu : q_RS p R [] 0 u) (hp : p ≤ N) (hC : C.length ≤ p) (hR : R.length ≤ p) (hf : N - p + 1 < f) : q_OkR N s l x y u v a3 p C R (pf_X0_readRule s l x y) (pl_X12_readText_26 1000 f 0 a2 a3 s l u v) ∨ q_Bad s l x y u v (pf_X0_readRule s l x y) (pl_X12_readText_26 1000 f 0 a2 a3 s l u v) := by
  obtain ⟨f, rfl⟩ : ∃ f9, f = f9 + 1 + 1 := ⟨f - 2, by omega⟩
  have r1 := q_sk_r (s := s) hp
  unfold pf_X0_readRule
  rw [q_nxC hN hs hp hx.1, q_b, q_nxR hN hs hp hu.1 (by decide) (f + 1)]
  have hx1 := q_CSt_26 hx (q_sk s N p)
  have hu1 := q_RS_24 hu (q_sk s N p)
  have gx1 : q_Gx x (pj_u x 26 (Int32.ofNat (q_sk s N p))) := q_Gx26
  have gu1 : q_Gu u (pj_u u 24 (Int32.ofNat (q_sk s N p))) := q_Gu24
  have ci := q_chrI (s := s) (N := N) (p := q_sk s N p) hr hN
  have cl : ¬ q_chr s N (q_sk s N p) = -1 → q_sk s N p < N := fun z => (q_chr_lt z).1
  unfold pl_X12_readText_93
  rw [if_pos rfl, q_isJ, q_b]
  generalize q_chr s N (q_sk s N p) = c at *
  generalize q_sk s N p = q at *
  generalize pj_u x 26 (Int32.ofNat q) = x1 at *
  generalize pj_u u 24 (Int32.ofNat q) = u1 at *
  have bad : q_Bad s l x y u v (some (0, s, l, x1, y)) (pl_X12_readText_122 1000 (pl_X12_readText_26 1000 (f + 1)) (c - 97) a3 (-1) s l u1 v) := by
    refine ⟨q, x1, ⟨by omega, C.length, by omega, hx1.2.1⟩, rfl, hx1.1, gx1, ?_⟩
    unfold pl_X12_readText_122 pl_X12_readText_142 pl_X12_readText_331
    rw [if_pos rfl, hu1.1, q_uv hu1.1]
    exact q_Ft_m (by omega) hu1.1 gu1
  by_cases c1 : c - 97 < 0
  · right
    rw [if_pos c1, if_pos c1, if_pos rfl]
    exact bad
  rw [if_neg c1, if_neg c1]
  by_cases c2 : 3 < c - 97
  · right
    rw [if_pos c2, if_pos c2, if_pos rfl]
    exact bad
  rw [if_neg c2, if_neg c2, if_neg q_n10]
  clear bad
  have cn : ¬ c = -1 := by
    intro z
    rw [z] at c1
    exact c1 (by decide)
  have qN := cl cn
  obtain ⟨o, o4, eo⟩ : ∃ o : Nat, o < 4 ∧ c - 97 = Int32.ofNat o := by
    obtain ⟨i, i1, e⟩ := ci.resolve_left cn
    have o97 : (97 : Int32).toInt = 97 := rfl
    have ii : c.toInt = i := by rw [e, q_onI (by omega)]
    have h1 : (c - 97).toInt = i - 97 := by rw [q_sub (by omega) (by omega), ii, o97]
    have h0 : (0 : Int32).toInt = 0 := rfl
    have h3 : (3 : Int32).toInt = 3 := rfl
    rw [Int32.lt_iff_toInt_lt, h1, h0] at c1
    rw [Int32.lt_iff_toInt_lt, h1, h3] at c2
    refine ⟨i - 97, by omega, ?_⟩
    apply Int32.toInt_inj.mp
    rw [h1, q_onI (by omega)]
    omega
  rw [eo]
  unfold pl_X12_readText_122 pl_X12_readText_142 pl_X12_readText_331
  rw [if_neg (show ¬ (1 : Int32) = -1 by decide), hx1.1, hu1.1, show Int32.ofNat q + 1 = Int32.ofNat (q + 1) from q_onaL _ 1]
  have hx2 := q_CSt_26 hx1 (q + 1)
  have hu2 := q_RS_24 hu1 (q + 1)
  have gx2 : q_Gx x (pj_u x1 26 (Int32.ofNat (q + 1))) := q_Gx_t gx1 q_Gx26
  have gu2 : q_Gu u (pj_u u1 24 (Int32.ofNat (q + 1))) := q_Gu_t gu1 q_Gu24
  generalize pj_u x1 26 (Int32.ofNat (q + 1)) = x2 at *
  generalize pj_u u1 24 (Int32.ofNat (q + 1)) = u2 at *
  have qN' : q + 1 ≤ N := by omega
  rw [q_rdC hN hs qN' hx2.1, q_nxR hN hs qN' hu2.1 (by decide) f]
  have r2 := q_sk_r (s := s) qN'
  have hx3 := q_CSt_26 hx2 (q_sk s N (q + 1))
  have hu3 := q_RS_24 hu2 (q_sk s N (q + 1))
  have gx3 : q_Gx x (pj_u x2 26 (Int32.ofNat (q_sk s N (q + 1)))) := q_Gx_t gx2 q_Gx26
  have gu3 : q_Gu u (pj_u u2 24 (Int32.ofNat (q_sk s N (q + 1)))) := q_Gu_t gu2 q_Gu24
  have cl2 : ¬ q_chr s N (q_sk s N (q + 1)) = -1 → q_sk s N (q + 1) < N := fun z => (q_chr_lt z).1
  unfold pl_X12_readText_93
  rw [if_neg q_n10, if_pos rfl]
  generalize q_chr s N (q_sk s N (q + 1)) = c' at *
  generalize q_sk s N (q + 1) = q' at *
  generalize pj_u x2 26 (Int32.ofNat q') = x3 at *
  generalize pj_u u2 24 (Int32.ofNat q') = u3 at *
  by_cases c61 : c' = 61
  · have qM : q' < N := cl2 (by rw [c61]; decide)
    rw [if_pos c61, if_pos c61, q_b, if_neg q_n10]
    unfold pl_X12_readText_165 pl_X12_readText_185 pl_X12_readText_331
    have hu4 := q_RS_24 hu3 (q' + 1)
    rw [if_neg (show ¬ (2 : Int32) = -1 by decide), hu3.1, show Int32.ofNat q' + 1 = Int32.ofNat (q' + 1) from q_onaL _ 1]
    obtain ⟨u5, e5, h5, g5⟩ := q_awR9 (s := s) (l := l) (v := v) hu4 (by simp) (by omega) 8 0
    have gu5 : q_Gu u u5 := q_Gu_t gu3 (q_Gu_t q_Gu24 g5)
    rw [e5, q_b]
    have hx4 := q_CSt_26 hx3 (q' + 1)
    have gx4 : q_Gx x (pj_u x3 26 (Int32.ofNat (q' + 1))) := q_Gx_t gx3 q_Gx26
    generalize pj_u x3 26 (Int32.ofNat (q' + 1)) = x4 at *
    have ring := (q_rngP (l := l) (y := y) (v := v) hN hs hr 14 0 (by omega) (by omega)).1
    generalize (pr_X0 14).1 = rc at *
    rcases ring (q' + 1) f C R [(8, 0)] x4 u5 (Int32.ofNat o) a3 hx4 h5 rfl (Or.inr (Or.inr (Or.inr rfl))) (by omega) (by omega) (by simp; omega) (by omega) with ⟨pc, pr, f', x', cs, r0, P, S, k5, j5, i5, ⟨u', k6, j6, i6⟩, hP, hS, sg, ⟨m1, m2, m3, m4⟩, nsp, m5, m6, m7⟩ | ⟨pf, x', b1, k5, j5, i5, u', k6, i6⟩
    · left
      have k5' : rc 0 s l x4 y = some (1, s, l, x', y) := k5
      have lc : (C ++ cs).length = C.length + cs.length := by simp
      obtain ⟨x6, e6, h6, g6⟩ := q_addC9 (s := s) (l := l) (y := y) j5 (by omega) 4 (Int32.ofNat o)
      refine ⟨pc, pr, f', o, x6, cs, r0, P, S, ?_, h6, q_Gx_t gx4 (q_Gx_t i5 g6), ⟨u', k6, j6, q_Gu_t gu5 i6⟩, hP, hS, o4, sg, ⟨by omega, m2, m3, m4⟩, nsp, by omega, by omega, m7⟩
      rw [k5', q_b, if_neg q_n10, e6, q_b]
    · right
      have k5' : rc 0 s l x4 y = some (0, s, l, x', y) := k5
      refine ⟨pf, x', b1, ?_, j5, q_Gx_t gx4 i5, u', k6, q_Gu_t gu5 i6⟩
      rw [k5', q_b, if_pos rfl]
  · right
    rw [if_neg c61, if_neg c61, q_b, if_pos rfl]
    unfold pl_X12_readText_165 pl_X12_readText_185 pl_X12_readText_331
    rw [if_pos rfl, hu3.1, q_uv hu3.1]
    obtain ⟨u5, e5, h5, g5⟩ := q_awR9 (s := s) (l := l) (v := v) hu3 (by simp) (by omega) 8 0
    rw [e5, q_b]
    refine ⟨q', x3, ⟨by omega, C.length, by omega, hx3.2.1⟩, rfl, hx3.1, gx3, q_Ft_m (by omega) h5.1 (q_Gu_t gu3 g5)⟩
end QRUL

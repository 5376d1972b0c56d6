/-! PURE: the BENCH: CHOICES -/
section QCHO
variable {s x u s' x' u' x2 u2 : Nat → Int32} {l y v l' y' v' : Nat → Int64} {D E W : Int} {fu f k n m N p K : Nat} {t : Int64} {a b d e r c w : Int32}
theorem q_cdA_hd {bo bn : Nat} {A B : q_Cd} {q : Int32 × Int32} (hd : bo + (A ++ q :: B).length ≤ bn) {n9 : Int32} (h : q_cdA bo bn x (A ++ q :: B) 0) : q_cdA bo bn (pj_u x (bn + A.length) n9) (A ++ (q.1, n9) :: B) 0 := by
  have el : (A ++ q :: B).length = A.length + (B.length + 1) := by simp
  rw [q_cdA_ap] at h ⊢
  obtain ⟨h1, h2, h3, h4⟩ := h
  refine ⟨q_cdA_c A 0 (fun z hz => q_un (by omega)) h1, ?_, ?_, q_cdA_c B _ (fun z hz => q_un (by omega)) h4⟩
  · rw [q_un (by omega)]; exact h2
  · rw [show bn + (0 + A.length) = bn + A.length by omega]; exact q_ua
theorem q_esk {A B : q_Cd} {q : Int32 × Int32} (h : q_CSt p (A ++ q :: B) x) (hl : (A ++ q :: B).length ≤ 256) : ∃ x', pf_X0_endSkip (Int32.ofNat A.length) s l x y = some ((), s, l, x', y) ∧ q_CSt p (A ++ (q.1, Int32.ofNat (A ++ q :: B).length) :: B) x' ∧ q_Gx x x' := by
  have el : (A ++ q :: B).length = A.length + (B.length + 1) := by simp
  obtain ⟨h1, h2, h3⟩ := h
  have c1 : ¬ Int32.ofNat A.length < 0 := q_onnn (by omega)
  have c2 : Int32.ofNat A.length < 256 := by rw [q_onltL (by omega) (by omega)]; omega
  refine ⟨pj_u x (12256 + A.length) (x 25), ?_, ⟨?_, ?_, ?_⟩, ?_⟩
  · unfold pf_X0_endSkip
    rw [if_neg c1, if_pos c2, q_g (by omega) (by omega), q_onC (by omega)]
  · rw [q_un (by omega)]; exact h1
  · rw [q_un (by omega), h2]; simp
  · rw [h2]; exact q_cdA_hd (by omega) h3
  · intro z a1 a2
    exact q_un (by omega)
theorem q_rdC (hN : N ≤ 200) (hs : s 1 = Int32.ofNat N) (hp : p ≤ N) (hx : x 26 = Int32.ofNat p) : pf_X0_readSign a s l x y = (if q_chr s N (q_sk s N p) = a then some (1, s, l, pj_u (pj_u x 26 (Int32.ofNat (q_sk s N p))) 26 (Int32.ofNat (q_sk s N p + 1)), y) else some (0, s, l, pj_u x 26 (Int32.ofNat (q_sk s N p)), y)) := by
  unfold pf_X0_readSign
  rw [q_nxC hN hs hp hx, q_b, q_ua, show Int32.ofNat (q_sk s N p) + 1 = Int32.ofNat (q_sk s N p + 1) from q_onaL _ 1]
theorem q_choT {rc : Int32 → pj_F (Int32 × pj_Z)} {C C0 Rq R0 O : q_Cd} {a2 a3 : Int32} (hN : N ≤ 200) (hs : s 1 = Int32.ofNat N) (hK : K < 12) (hrc : q_SCp N s l y v rc (K + 1)) (hx : q_CSt p (C ++ C0 ++ [(5, 0)]) x) (hu : q_RS p Rq ((5, w) :: O) (K + 1) u) (hoc : q_ocn O = K) (hp : p ≤ N) (hC : C.length + C0.length + 1 ≤ p) (hR : Rq.length + O.length + 1 ≤ p) (hf : N - p + 1 < f) (sg0 : q_SG C.length C0 R0) {F : Option (Int32 × pj_Z)} (hF : F = pj_b (rc (Int32.ofNat K + 1) s l x y) (fun r5 s5 l5 x5 y5 => (if r5 = 0 then some (0, s5, l5, x5, y5) else pj_b (pf_X0_readSign 58 s5 l5 x5 y5) (fun r6 s6 l6 x6 y6 => (if r6 = 0 then some (0, s6, l6, x6, y6) else pj_b (pf_X0_addStep 6 0 s6 l6 x6 y6) (fun r7 s7 l7 x7 y7 => pj_b (pf_X0_endSkip (Int32.ofNat (C ++ C0).length) s7 l7 x7 y7) (fun r8 s8 l8 x8 y8 => pj_b (rc (Int32.ofNat K + 1) s8 l8 x8 y8) (fun r9 s9 l9 x9 y9 => (if r9 = 0 then some (0, s9, l9, x9, y9) else pj_b (pf_X0_endSkip r7 s9 l9 x9 y9) (fun r10 s10 l10 x10 y10 => some (1, s10, l10, x10, y10))))))))))) :
  (∃ (pc pr f' : Nat) (x' : Nat → Int32) (cs r0 P S : q_Cd), F = some (1, s, l, x', y) ∧ q_CSt pc (C ++ cs) x' ∧ q_Gx x x' ∧ q_On s l u v a2 a3 f' 3 pr (Rq ++ r0) (P ++ (S ++ O)) (pl_X12_readText_26 1000 f 2 a2 a3 s l u v) ∧ (∀ q ∈ P, q.1 = 1 ∨ q.1 = 2) ∧ (∀ q ∈ S, q.1 = 6) ∧ q_SG C.length cs (R0 ++ r0 ++ q_opc P ++ List.replicate S.length (11, 0)) ∧ (p < pr ∧ pr ≤ N ∧ pc ≤ N ∧ q_sk s N pc = q_sk s N pr) ∧ ¬ q_Sp (q_chr s N (q_sk s N pr)) ∧ cs.length ≤ C0.length + 1 + (pr - p) ∧ r0.length + P.length + S.length ≤ 1 + (pr - p) ∧ N - pr + 1 < f') ∨ q_Bad s l x y u v F (pl_X12_readText_26 1000 f 2 a2 a3 s l u v) := by
  have eK : Int32.ofNat K + 1 = Int32.ofNat (K + 1) := q_onaL K 1
  have oc5 : q_ocn ((5, w) :: O) = K + 1 := by rw [q_oc1 (by simp), hoc]
  have oc6 : q_ocn ((6, w) :: O) = K + 1 := by rw [q_oc1 (by simp), hoc]
  rw [eK] at hF
  rcases hrc p f (C ++ C0 ++ [(5, 0)]) Rq ((5, w) :: O) x u a2 a3 hx hu oc5 (Or.inr (Or.inl rfl)) hp (by simp; omega) (by simp; omega) hf with ⟨pc, pr, f', x', cs, r0, P, S, e5, h5, g5, ⟨u', e6, h6, g6⟩, hP, hS, sg, ⟨m1, m2, m3, m4⟩, nsp, m5, m6, m7⟩ | ⟨pf, x', m0, e5, h5, g5, u', e6, g6⟩
  · obtain ⟨f', rfl⟩ : ∃ f9, f' = f9 + 1 := ⟨f' - 1, by omega⟩
    have r2 := q_sk_r (s := s) m2
    have hb : (Rq ++ r0).length + (P ++ (S ++ ((5, w) :: O))).length ≤ 200 := by simp at m6 ⊢; omega
    rw [e5, q_b, if_neg q_n10, q_rdC hN hs m3 h5.1, m4] at hF
    rw [e6]
    by_cases c58 : q_chr s N (q_sk s N pr) = 58
    · obtain ⟨u4, e7, h7, g7⟩ := q_m3col (f := f') (l := l) (v := v) (a2 := a2) (a3 := a3) hN hs m2 h6 hb hP hS c58
      have qN2 : q_sk s N pr < N := (q_chr_lt (s := s) (N := N) (p := q_sk s N pr) (by rw [c58]; decide)).1
      have h8 := q_CSt_26 (q_CSt_26 h5 (q_sk s N pr)) (q_sk s N pr + 1)
      have gx8 : q_Gx x' (pj_u (pj_u x' 26 (Int32.ofNat (q_sk s N pr))) 26 (Int32.ofNat (q_sk s N pr + 1))) := q_Gx_t q_Gx26 q_Gx26
      rw [if_pos c58, q_b, if_neg q_n10] at hF
      generalize pj_u (pj_u x' 26 (Int32.ofNat (q_sk s N pr))) 26 (Int32.ofNat (q_sk s N pr + 1)) = x8 at *
      have lc : (C ++ C0 ++ [((5 : Int32), (0 : Int32))] ++ cs).length = C.length + C0.length + 1 + cs.length := by simp; omega
      obtain ⟨x9, e9, h9, g9⟩ := q_addC9 (s := s) (l := l) (y := y) h8 (by omega) 6 0
      rw [e9, q_b] at hF
      have E1 : C ++ C0 ++ [((5 : Int32), (0 : Int32))] ++ cs ++ [(6, 0)] = (C ++ C0) ++ (5, 0) :: (cs ++ [(6, 0)]) := by simp
      rw [E1] at h9
      have l9 : ((C ++ C0) ++ ((5 : Int32), (0 : Int32)) :: (cs ++ [(6, 0)])).length = C.length + C0.length + 1 + cs.length + 1 := by simp; omega
      obtain ⟨x10, e10, h10, g10⟩ := q_esk (s := s) (l := l) (y := y) h9 (by omega)
      rw [e10, q_b] at hF
      rw [e7]
      rw [l9] at h10
      have l10 : ((C ++ C0) ++ ((5 : Int32), Int32.ofNat (C.length + C0.length + 1 + cs.length + 1)) :: (cs ++ [((6 : Int32), (0 : Int32))])).length = C.length + C0.length + 1 + cs.length + 1 := by simp; omega
      rw [oc6] at h7
      rcases hrc (q_sk s N pr + 1) f' ((C ++ C0) ++ ((5, Int32.ofNat (C.length + C0.length + 1 + cs.length + 1)) :: (cs ++ [(6, 0)]))) (Rq ++ r0 ++ q_opc P ++ List.replicate S.length (11, 0)) ((6, w) :: O) x10 u4 a2 a3 h10 h7 oc6 (Or.inr (Or.inr (Or.inl rfl))) (by omega) (by omega) (by simp [q_opc_l]; omega) (by omega) with ⟨pc2, pr2, f2, x2, cs2, r02, P2, S2, k5, j5, i5, ⟨u2, k6, j6, i6⟩, hP2, hS2, sg2, ⟨n1, n2, n3, n4⟩, nsp2, n5, n6, n7⟩ | ⟨pf, x2, m0, k5, j5, i5, u2, k6, i6⟩
      · left
        rw [k5, q_b, if_neg q_n10] at hF
        have l11 : (C ++ C0 ++ ((5 : Int32), Int32.ofNat (C.length + C0.length + 1 + cs.length + 1)) :: cs).length = C.length + C0.length + 1 + cs.length := by simp; omega
        have E2 : (C ++ C0) ++ ((5 : Int32), Int32.ofNat (C.length + C0.length + 1 + cs.length + 1)) :: (cs ++ [((6 : Int32), (0 : Int32))]) ++ cs2 = (C ++ C0 ++ (5, Int32.ofNat (C.length + C0.length + 1 + cs.length + 1)) :: cs) ++ (6, 0) :: cs2 := by simp
        rw [E2] at j5
        have l12 : (C ++ C0 ++ ((5 : Int32), Int32.ofNat (C.length + C0.length + 1 + cs.length + 1)) :: cs ++ ((6 : Int32), (0 : Int32)) :: cs2).length = C.length + C0.length + 1 + cs.length + 1 + cs2.length := by simp; omega
        obtain ⟨x12, e12, h12, g12⟩ := q_esk (s := s) (l := l) (y := y) j5 (by omega)
        rw [l11] at e12
        rw [l12] at h12
        have r3 := q_sk_r (s := s) n2
        refine ⟨pc2, pr2, f2, x12, C0 ++ ((5, Int32.ofNat (C.length + C0.length + 1 + cs.length + 1)) :: (cs ++ ((6, Int32.ofNat (C.length + C0.length + 1 + cs.length + 1 + cs2.length)) :: cs2))), r0 ++ q_opc P ++ List.replicate S.length (11, 0) ++ r02, P2, S2 ++ [(6, w)], ?_, ?_, q_Gx_t g5 (q_Gx_t gx8 (q_Gx_t g9 (q_Gx_t g10 (q_Gx_t i5 g12)))), ⟨u2, k6, ?_, q_Gu_t g6 (q_Gu_t g7 i6)⟩, hP2, ?_, ?_, ⟨by omega, n2, n3, n4⟩, nsp2, ?_, ?_, n7⟩
        · rw [hF, lc, e12, q_b]
        · have : C ++ (C0 ++ ((5, Int32.ofNat (C.length + C0.length + 1 + cs.length + 1)) :: (cs ++ ((6, Int32.ofNat (C.length + C0.length + 1 + cs.length + 1 + cs2.length)) :: cs2)))) = C ++ C0 ++ ((5 : Int32), Int32.ofNat (C.length + C0.length + 1 + cs.length + 1)) :: cs ++ (6, Int32.ofNat (C.length + C0.length + 1 + cs.length + 1 + cs2.length)) :: cs2 := by simp
          rw [this]; exact h12
        · have a1 : Rq ++ (r0 ++ q_opc P ++ List.replicate S.length ((11, 0) : Int32 × Int32) ++ r02) = Rq ++ r0 ++ q_opc P ++ List.replicate S.length (11, 0) ++ r02 := by simp
          have a2 : P2 ++ (S2 ++ [((6 : Int32), w)] ++ O) = P2 ++ (S2 ++ (6, w) :: O) := by simp
          rw [a1, a2]; exact j6
        · intro z hz
          rcases List.mem_append.mp hz with w1 | w1
          · exact hS2 z w1
          · simp at w1; rw [w1]
        · rw [l10] at sg2
          have lq : (C ++ C0 ++ [((5 : Int32), (0 : Int32))]).length = C.length + C0.length + 1 := by simp; omega
          rw [lq] at sg
          have G := q_SG_if (by omega) sg0 sg sg2
          have a1 : R0 ++ (r0 ++ q_opc P ++ List.replicate S.length ((11, 0) : Int32 × Int32) ++ r02) ++ q_opc P2 ++ List.replicate (S2 ++ [((6 : Int32), w)]).length (11, 0) = R0 ++ (r0 ++ q_opc P ++ List.replicate S.length (11, 0)) ++ (r02 ++ q_opc P2 ++ List.replicate S2.length (11, 0)) ++ [(11, 0)] := by
            have : (S2 ++ [((6 : Int32), w)]).length = S2.length + 1 := by simp
            rw [this, List.replicate_succ']
            simp
          rw [a1]; exact G
        · simp; omega
        · simp [q_opc_l]; omega
      · right
        refine ⟨pf, x2, m0, ?_, j5, q_Gx_t g5 (q_Gx_t gx8 (q_Gx_t g9 (q_Gx_t g10 i5))), u2, k6, q_Gu_t g6 (q_Gu_t g7 i6)⟩
        rw [hF, k5, q_b, if_pos rfl]
    · right
      have ft := q_m3f (f := f' + 1) (l := l) (v := v) (a2 := a2) (a3 := a3) hN hs m2 h6 hb (by omega) hP hS (by show ¬ ((5 : Int32) = 1 ∨ (5 : Int32) = 2); decide) (Or.inr trivial) nsp (fun _ => by
          cases S with
          | nil => show ¬ (5 : Int32) = 7; decide
          | cons w z => show ¬ w.1 = 7; rw [hS w List.mem_cons_self]; decide) (fun L6 O' e h1 h2 => by
          have := q_uni (P := fun w => w = 6) S L6 ((5, w) :: O) O' e hS h1 (by show ¬ (5 : Int32) = 6; decide) h2
          rw [← this]
          exact ⟨fun z => absurd z c58, fun _ => by show ¬ (5 : Int32) = 4; decide, fun _ => by show ¬ (5 : Int32) = 8; decide⟩)
      obtain ⟨u4, e7, g7⟩ := ft
      refine ⟨q_sk s N pr, pj_u x' 26 (Int32.ofNat (q_sk s N pr)), ⟨by omega, (C ++ C0 ++ [(5, 0)] ++ cs).length, by simp; omega, by rw [q_un (by omega)]; exact h5.2.1⟩, ?_, q_ua, q_Gx_t g5 q_Gx26, u4, e7, q_Gu_t g6 g7⟩
      rw [hF, if_neg c58, q_b, if_pos rfl]
  · right
    refine ⟨pf, x', m0, ?_, h5, g5, u', e6, g6⟩
    rw [hF, e5, q_b, if_pos rfl]
theorem q_choP (hN : N ≤ 200) (hs : s 1 = Int32.ofNat N) {rc rf : Int32 → pj_F (Int32 × pj_Z)} (hK : K ≤ 12) (hF : q_SSp N s l y v (pf_X0_readSum rc rf) K) (hrc : K < 12 → q_SCp N s l y v rc (K + 1)) : q_SCp N s l y v (pf_X0_readChoice rc rf) K := by
  intro p f C R O x u a2 a3 hx hu hoc hO hp hC hR hf
  unfold pf_X0_readChoice
  have hO12 : ¬ (q_tkd O = 1 ∨ q_tkd O = 2) := by rcases hO with z | z | z | z <;> rw [z] <;> decide
  have hO3 : ¬ q_tkd O = 3 := by rcases hO with z | z | z | z <;> rw [z] <;> decide
  have hO7 : ¬ q_tkd O = 7 := by rcases hO with z | z | z | z <;> rw [z] <;> decide
  rcases hF p f C R O x u a2 a3 hx hu hoc hO12 hO3 hp hC hR hf with ⟨pc, pr, f', x', cs, r0, P, e5, h5, g5, ⟨u', e6, h6, g6⟩, hP, sg, ⟨n1, n2, n6, n7⟩, n8, n3, n4, n5⟩ | ⟨pf, x', b1, e5, h5, g5, u', e6, g6⟩
  · rw [e5, q_b, if_neg q_n10, q_nxC hN hs n6 h5.1, q_b, e6, n7]
    have r2 := q_sk_r (s := s) n2
    by_cases c : q_chr s N (q_sk s N pr) = 60 ∨ q_chr s N (q_sk s N pr) = 62 ∨ q_chr s N (q_sk s N pr) = 126
    · have qN : q_sk s N pr < N := (q_chr_lt (s := s) (N := N) (p := q_sk s N pr) (by rcases c with z | z | z <;> rw [z] <;> decide)).1
      have cond : ∀ A B : Option (Int32 × pj_Z), (if q_chr s N (q_sk s N pr) = 60 then A else (if q_chr s N (q_sk s N pr) = 62 then A else (if q_chr s N (q_sk s N pr) = 126 then A else B))) = A := by
        intro A B
        by_cases z : q_chr s N (q_sk s N pr) = 60
        · rw [if_pos z]
        · rw [if_neg z]
          by_cases z2 : q_chr s N (q_sk s N pr) = 62
          · rw [if_pos z2]
          · rw [if_neg z2, if_pos ((c.resolve_left z).resolve_left z2)]
      rw [cond]
      obtain ⟨f', rfl⟩ : ∃ f9, f' = f9 + 1 := ⟨f' - 1, by omega⟩
      obtain ⟨u1, e1, h1, g1⟩ := q_m3cmp (f := f') (l := l) (v := v) (a2 := a2) (a3 := a3) hN hs n2 h6 (by simp; omega) hP hO12 hO7 c rfl
      rw [e1]
      have hsg : q_Sn (q_chr s N (q_sk s N pr)) (q_cmp (q_chr s N (q_sk s N pr))) := by
        unfold q_Sn q_cmp
        rcases c with z | z | z <;> rw [z] <;> simp
      generalize q_chr s N (q_sk s N pr) = w at *
      unfold pl_X0_readChoice_35
      have hx1 := q_CSt_26 (q_CSt_26 h5 (q_sk s N pr)) (q_sk s N pr + 1)
      have gx1 : q_Gx x' (pj_u (pj_u x' 26 (Int32.ofNat (q_sk s N pr))) 26 (Int32.ofNat (q_sk s N pr + 1))) := q_Gx_t q_Gx26 q_Gx26
      rw [q_ua, show Int32.ofNat (q_sk s N pr) + 1 = Int32.ofNat (q_sk s N pr + 1) from q_onaL _ 1]
      generalize pj_u (pj_u x' 26 (Int32.ofNat (q_sk s N pr))) 26 (Int32.ofNat (q_sk s N pr + 1)) = x1 at *
      have oc7 : q_ocn ((7, w) :: O) = K := by
        have := q_oc12 (P := []) (O := O) (q := (7, w)) (fun z hz => by cases hz) (Or.inr (Or.inr rfl))
        simp at this
        rw [this, hoc]
      rw [oc7] at h1
      have lcs : (C ++ cs).length = C.length + cs.length := by simp
      rcases hF (q_sk s N pr + 1) f' (C ++ cs) (R ++ r0 ++ q_opc P) ((7, w) :: O) x1 u1 a2 a3 hx1 h1 oc7 (by show ¬ ((7 : Int32) = 1 ∨ (7 : Int32) = 2); decide) (by show ¬ (7 : Int32) = 3; decide) (by omega) (by omega) (by simp [q_opc_l]; omega) (by omega) with ⟨pc2, pr2, f2, x2, cs2, r02, P2, k5, j5, i5, ⟨u2, k6, j6, i6⟩, hP2, sg2, ⟨m1, m2, m6, m7⟩, m8, m3, m4, m5⟩ | ⟨pf, x2, b1, k5, j5, i5, u2, k6, i6⟩
      · have r3 := q_sk_r (s := s) m2
        obtain ⟨f2, rfl⟩ : ∃ f9, f2 = f9 + 1 := ⟨f2 - 1, by omega⟩
        rw [k5, q_b, if_neg q_n10, q_nxC hN hs m6 j5.1, q_b, k6, m7]
        have hb : (R ++ r0 ++ q_opc P ++ r02).length + (P2 ++ (7, w) :: O).length ≤ 200 := by simp [q_opc_l]; omega
        have K12 : Int32.ofNat K < 12 ↔ K < 12 := by rw [q_onltL (by omega) (by omega)]
        by_cases c63 : q_chr s N (q_sk s N pr2) = 63 ∧ K < 12
        · obtain ⟨c63, kk⟩ := c63
          have qN2 : q_sk s N pr2 < N := (q_chr_lt (s := s) (N := N) (p := q_sk s N pr2) (by rw [c63]; decide)).1
          obtain ⟨u3, e3, h3, g3⟩ := q_m3q (f := f2) (l := l) (v := v) (a2 := a2) (a3 := a3) hN hs m2 j6 hb hP2 (by omega) c63
          rw [if_pos c63, if_pos (K12.mpr kk), e3]
          have hx3 := q_CSt_26 (q_CSt_26 j5 (q_sk s N pr2)) (q_sk s N pr2 + 1)
          have gx3 : q_Gx x2 (pj_u (pj_u x2 26 (Int32.ofNat (q_sk s N pr2))) 26 (Int32.ofNat (q_sk s N pr2 + 1))) := q_Gx_t q_Gx26 q_Gx26
          rw [q_ua, show Int32.ofNat (q_sk s N pr2) + 1 = Int32.ofNat (q_sk s N pr2 + 1) from q_onaL _ 1]
          generalize pj_u (pj_u x2 26 (Int32.ofNat (q_sk s N pr2))) 26 (Int32.ofNat (q_sk s N pr2 + 1)) = x3 at *
          have lc : (C ++ cs ++ cs2).length = C.length + cs.length + cs2.length := by simp; omega
          obtain ⟨x4, e4, h4, g4⟩ := q_addC9 (s := s) (l := l) (y := y) hx3 (by omega) w 0
          have lc4 : (C ++ cs ++ cs2 ++ [(w, (0 : Int32))]).length = C.length + cs.length + cs2.length + 1 := by simp; omega
          obtain ⟨x9, e9, h9, g9⟩ := q_addC9 (s := s) (l := l) (y := y) h4 (by omega) 5 0
          rw [e4, q_b, e9, q_b]
          have E1 : C ++ cs ++ cs2 ++ [(w, (0 : Int32))] = C ++ (cs ++ cs2 ++ [(w, 0)]) := by simp
          rw [E1] at h9 ⊢
          have oc5 : q_ocn ((5, w) :: O) = K + 1 := by rw [q_oc1 (by simp), hoc]
          rw [oc5] at h3
          rw [lcs] at sg2
          have sgb := q_SG_bin sg sg2 hsg
          rcases q_choT (f := f2) (a2 := a2) (a3 := a3) hN hs kk (hrc kk) h9 h3 hoc (by omega) (by simp; omega) (by simp [q_opc_l]; omega) (by omega) sgb rfl with ⟨pc5, pr5, f5, x5, cs5, r05, P5, S5, d5, d6, d7, ⟨u5, d8, d9, d10⟩, hP5, hS5, sg5, ⟨d11, d12, d13, d14⟩, nsp, d15, d16, d17⟩ | ⟨pf, x5, d1, d2, d3, d4, u5, d6, d7⟩
          · left
            refine ⟨pc5, pr5, f5, x5, cs5, r0 ++ q_opc P ++ r02 ++ q_opc P2 ++ [(q_cmp w, 0)] ++ r05, P5, S5, d5, d6, q_Gx_t g5 (q_Gx_t gx1 (q_Gx_t i5 (q_Gx_t gx3 (q_Gx_t g4 (q_Gx_t g9 d7))))), ⟨u5, d8, ?_, q_Gu_t g6 (q_Gu_t g1 (q_Gu_t i6 (q_Gu_t g3 d10)))⟩, hP5, hS5, ?_, ⟨by omega, d12, d13, d14⟩, nsp, ?_, ?_, d17⟩
            · have a1 : R ++ (r0 ++ q_opc P ++ r02 ++ q_opc P2 ++ [(q_cmp w, (0 : Int32))] ++ r05) = R ++ r0 ++ q_opc P ++ r02 ++ q_opc P2 ++ [(q_cmp w, 0)] ++ r05 := by simp
              rw [a1]; exact d9
            · have a1 : r0 ++ q_opc P ++ r02 ++ q_opc P2 ++ [(q_cmp w, (0 : Int32))] ++ r05 ++ q_opc P5 ++ List.replicate S5.length (11, 0) = r0 ++ q_opc P ++ (r02 ++ q_opc P2) ++ [(q_cmp w, 0)] ++ r05 ++ q_opc P5 ++ List.replicate S5.length (11, 0) := by simp
              rw [a1]; exact sg5
            · simp at d15; omega
            · simp [q_opc_l]; omega
          · right
            exact ⟨pf, x5, d1, d2, d3, q_Gx_t g5 (q_Gx_t gx1 (q_Gx_t i5 (q_Gx_t gx3 (q_Gx_t g4 (q_Gx_t g9 d4))))), u5, d6, q_Gu_t g6 (q_Gu_t g1 (q_Gu_t i6 (q_Gu_t g3 d7)))⟩
        · right
          have ft : q_Ft s l u2 v (q_sk s N pr2) (pl_X12_readText_26 1000 (f2 + 1) 3 a2 a3 s l u2 v) := by
            by_cases cc : q_chr s N (q_sk s N pr2) = 60 ∨ q_chr s N (q_sk s N pr2) = 62 ∨ q_chr s N (q_sk s N pr2) = 126
            · exact q_m3cmF hN hs m2 j6 hb hP2 (by show ¬ ((7 : Int32) = 1 ∨ (7 : Int32) = 2); decide) rfl (by omega) cc rfl
            by_cases c3 : q_chr s N (q_sk s N pr2) = 63
            · exact q_m3qF hN hs m2 j6 hb hP2 (by show ¬ ((7 : Int32) = 1 ∨ (7 : Int32) = 2); decide) (Or.inr (by
                have : ¬ K < 12 := fun z => c63 ⟨c3, z⟩
                omega)) (by omega) c3
            · refine q_m3f (S := []) hN hs m2 j6 hb (by omega) hP2 (fun z hz => by cases hz) (by show ¬ ((7 : Int32) = 1 ∨ (7 : Int32) = 2); decide) (Or.inr trivial) ?_ (fun z => absurd z c3) (fun L6 O' e h1 h2 => ?_)
              · intro z
                unfold q_M4 at m8
                rcases z with z | z | z | z | z | z | z
                · exact m8 (Or.inl z)
                · exact m8 (Or.inr (Or.inl z))
                · exact m8 (Or.inr (Or.inr (Or.inl z)))
                · exact m8 (Or.inr (Or.inr (Or.inr z)))
                · exact cc (Or.inl z)
                · exact cc (Or.inr (Or.inl z))
                · exact cc (Or.inr (Or.inr z))
              · have := q_uni (P := fun w => w = 6) [] L6 ((7, w) :: O) O' e (fun z hz => by cases hz) h1 (by show ¬ (7 : Int32) = 6; decide) h2
                rw [← this]
                exact ⟨fun _ => by show ¬ (7 : Int32) = 5; decide, fun _ => by show ¬ (7 : Int32) = 4; decide, fun _ => by show ¬ (7 : Int32) = 8; decide⟩
          obtain ⟨u4, e7, g7⟩ := ft
          refine ⟨q_sk s N pr2, pj_u x2 26 (Int32.ofNat (q_sk s N pr2)), ⟨by omega, (C ++ cs ++ cs2).length, by simp; omega, by rw [q_un (by omega)]; exact j5.2.1⟩, ?_, q_ua, q_Gx_t g5 (q_Gx_t gx1 (q_Gx_t i5 q_Gx26)), u4, e7, q_Gu_t g6 (q_Gu_t g1 (q_Gu_t i6 g7))⟩
          by_cases c3 : q_chr s N (q_sk s N pr2) = 63
          · rw [if_pos c3, if_neg (fun z => c63 ⟨c3, K12.mp z⟩)]
          · rw [if_neg c3]
      · right
        refine ⟨pf, x2, b1, ?_, j5, q_Gx_t g5 (q_Gx_t gx1 i5), u2, k6, q_Gu_t g6 (q_Gu_t g1 i6)⟩
        rw [k5, q_b, if_pos rfl]
    · left
      refine ⟨q_sk s N pr, pr, f', pj_u x' 26 (Int32.ofNat (q_sk s N pr)), cs, r0, P, [], ?_, q_CSt_26 h5 _, q_Gx_t g5 q_Gx26, ⟨u', rfl, h6, g6⟩, hP, (fun z hz => by cases hz), by simpa using sg, ⟨n1, n2, by omega, q_sk_i n2⟩, ?_, n3, by simp; omega, n5⟩
      · rw [if_neg (fun z => c (Or.inl z)), if_neg (fun z => c (Or.inr (Or.inl z))), if_neg (fun z => c (Or.inr (Or.inr z)))]
      · intro z
        unfold q_M4 at n8
        rcases z with z | z | z | z | z | z | z
        · exact n8 (Or.inl z)
        · exact n8 (Or.inr (Or.inl z))
        · exact n8 (Or.inr (Or.inr (Or.inl z)))
        · exact n8 (Or.inr (Or.inr (Or.inr z)))
        · exact c (Or.inl z)
        · exact c (Or.inr (Or.inl z))
        · exact c (Or.inr (Or.inr z))
  · right
    refine ⟨pf, x', b1, ?_, h5, g5, u', e6, g6⟩
    rw [e5, q_b, if_pos rfl]
end QCHO

/-! PURE: the BENCH: SUMS -/
section QSUM
variable {s x u s' x' u' x2 u2 : Nat → Int32} {l y v l' y' v' : Nat → Int64} {D E W : Int} {fu f k n m N p K : Nat} {t : Int64} {a b d e r c : Int32}
def q_M4 (c : Int32) : Prop := c = 42 ∨ c = 47 ∨ c = 43 ∨ c = 45
def q_OkS (N : Nat) (s : Nat → Int32) (l : Nat → Int64) (x : Nat → Int32) (y : Nat → Int64) (u : Nat → Int32) (v : Nat → Int64) (a2 a3 : Int32) (p : Nat) (C R O : q_Cd) (F G : Option (Int32 × pj_Z)) : Prop := ∃ (pc pr f' : Nat) (x' : Nat → Int32) (cs r0 P : q_Cd), F = some (1, s, l, x', y) ∧ q_CSt pc (C ++ cs) x' ∧ q_Gx x x' ∧ q_On s l u v a2 a3 f' 3 pr (R ++ r0) (P ++ O) G ∧ (∀ q ∈ P, q.1 = 1 ∨ q.1 = 2) ∧ q_SG C.length cs (r0 ++ q_opc P) ∧ (p < pr ∧ pr ≤ N ∧ pc ≤ N ∧ q_sk s N pc = q_sk s N pr) ∧ ¬ q_M4 (q_chr s N (q_sk s N pr)) ∧ cs.length ≤ pr - p ∧ r0.length + P.length ≤ pr - p ∧ N - pr + 1 < f'
def q_SSp (N : Nat) (s : Nat → Int32) (l y v : Nat → Int64) (g : Int32 → pj_F (Int32 × pj_Z)) (K : Nat) : Prop := ∀ (p f : Nat) (C R O : q_Cd) (x u : Nat → Int32) (a2 a3 : Int32), q_CSt p C x → q_RS p R O K u → q_ocn O = K → ¬ (q_tkd O = 1 ∨ q_tkd O = 2) → ¬ q_tkd O = 3 → p ≤ N → C.length ≤ p → R.length + O.length ≤ p → N - p + 1 < f → q_OkS N s l x y u v a2 a3 p C R O (g (Int32.ofNat K) s l x y) (pl_X12_readText_26 1000 f 2 a2 a3 s l u v) ∨ q_Bad s l x y u v (g (Int32.ofNat K) s l x y) (pl_X12_readText_26 1000 f 2 a2 a3 s l u v)
theorem q_sumL (hN : N ≤ 200) (hs : s 1 = Int32.ofNat N) {rc rf : Int32 → pj_F (Int32 × pj_Z)} (hF : q_SPp N s l y v (pf_X0_readProduct rc rf) K) {a2 a3 : Int32} {C R O : q_Cd} (hO : ¬ (q_tkd O = 1 ∨ q_tkd O = 2)) (hoc : q_ocn O = K) (hC : C.length ≤ p) (hR : R.length + O.length ≤ p) : ∀ (n pc pr i g f : Nat) (cs r0 P : q_Cd) (x u : Nat → Int32), N - pr ≤ n → n < g → i < pr - p → q_CSt pc (C ++ cs) x → q_RS pr (R ++ r0) (P ++ O) (q_ocn (P ++ O)) u → (∀ q ∈ P, q.1 = 1 ∨ q.1 = 2) → q_SG C.length cs (r0 ++ q_opc P) → p < pr → pr ≤ N → pc ≤ N → q_sk s N pc = q_sk s N pr → ¬ (q_chr s N (q_sk s N pr) = 42 ∨ q_chr s N (q_sk s N pr) = 47) → cs.length ≤ pr - p → r0.length + P.length ≤ pr - p → N - pr + 1 < f → q_OkS N s l x y u v a2 a3 p C R O (pl_X0_readSum_8 1000 rc rf g (Int32.ofNat K) 1 (Int32.ofNat i) s l x y) (pl_X12_readText_26 1000 f 3 a2 a3 s l u v) ∨ q_Bad s l x y u v (pl_X0_readSum_8 1000 rc rf g (Int32.ofNat K) 1 (Int32.ofNat i) s l x y) (pl_X12_readText_26 1000 f 3 a2 a3 s l u v) := by
  intro n
  induction n with
  | zero =>
    intro pc pr i g f cs r0 P x u hn hg hi hx hu hP sg m1 m2 m3 m4 nm m5 m6 m7
    obtain ⟨g, rfl⟩ : ∃ f9, g = f9 + 1 := ⟨g - 1, by omega⟩
    have i2 : Int32.ofNat i < 200 := by rw [q_onltL (by omega) (by omega)]; omega
    have pN : pr = N := by omega
    have r2 := q_sk_r (s := s) m2
    have cm : q_chr s N (q_sk s N pr) = -1 := by unfold q_chr; rw [if_neg (by omega)]
    left
    refine ⟨q_sk s N pr, pr, f, pj_u x 26 (Int32.ofNat (q_sk s N pr)), cs, r0, P, ?_, q_CSt_26 hx _, q_Gx26, ⟨u, rfl, hu, q_Gu0⟩, hP, sg, ⟨m1, m2, by omega, q_sk_i m2⟩, by rw [cm]; unfold q_M4; decide, m5, m6, m7⟩
    rw [pl_X0_readSum_8, if_neg q_n10, if_pos i2, q_nxC hN hs m3 hx.1, q_b, m4, cm, if_neg (by decide), if_neg (by decide)]
  | succ n ih =>
    intro pc pr i g f cs r0 P x u hn hg hi hx hu hP sg m1 m2 m3 m4 nm m5 m6 m7
    obtain ⟨g, rfl⟩ : ∃ f9, g = f9 + 1 := ⟨g - 1, by omega⟩
    have i2 : Int32.ofNat i < 200 := by rw [q_onltL (by omega) (by omega)]; omega
    have ei : Int32.ofNat i + 1 = Int32.ofNat (i + 1) := q_onaL i 1
    have r2 := q_sk_r (s := s) m2
    rw [pl_X0_readSum_8, if_neg q_n10, if_pos i2, q_nxC hN hs m3 hx.1, q_b, m4]
    by_cases c : q_chr s N (q_sk s N pr) = 43 ∨ q_chr s N (q_sk s N pr) = 45
    · obtain ⟨f, rfl⟩ : ∃ f9, f = f9 + 1 := ⟨f - 1, by omega⟩
      have qN : q_sk s N pr < N := (q_chr_lt (s := s) (N := N) (p := q_sk s N pr) (by rcases c with z | z <;> rw [z] <;> decide)).1
      have el : (P ++ O).length = P.length + O.length := by simp
      obtain ⟨u1, e1, h1, g1⟩ := q_m3add (f := f) (l := l) (v := v) (a2 := a2) (a3 := a3) hN hs m2 hu (by simp; omega) hP hO c rfl
      rw [e1]
      have cond : ∀ A B : Option (Int32 × pj_Z), (if q_chr s N (q_sk s N pr) = 43 then A else (if q_chr s N (q_sk s N pr) = 45 then A else B)) = A := by
        intro A B
        by_cases z : q_chr s N (q_sk s N pr) = 43
        · rw [if_pos z]
        · rw [if_neg z, if_pos (c.resolve_left z)]
      rw [cond]
      have hsg : q_Sn (q_chr s N (q_sk s N pr)) (q_opn (q_chr s N (q_sk s N pr))) := by
        unfold q_Sn
        rcases c with z | z <;> rw [z] <;> simp [q_opn]
      generalize q_chr s N (q_sk s N pr) = w at *
      have hx1 := q_CSt_26 (q_CSt_26 hx (q_sk s N pr)) (q_sk s N pr + 1)
      have gx1 : q_Gx x (pj_u (pj_u x 26 (Int32.ofNat (q_sk s N pr))) 26 (Int32.ofNat (q_sk s N pr + 1))) := q_Gx_t q_Gx26 q_Gx26
      unfold pl_X0_readSum_41
      rw [q_ua, show Int32.ofNat (q_sk s N pr) + 1 = Int32.ofNat (q_sk s N pr + 1) from q_onaL _ 1]
      generalize pj_u (pj_u x 26 (Int32.ofNat (q_sk s N pr))) 26 (Int32.ofNat (q_sk s N pr + 1)) = x1 at *
      have oc2 : q_ocn ((1, w) :: O) = K := by
        have := q_oc12 (P := []) (O := O) (q := (1, w)) (fun z hz => by cases hz) (Or.inl rfl)
        simp at this
        rw [this, hoc]
      rw [oc2] at h1
      rcases hF (q_sk s N pr + 1) f (C ++ cs) (R ++ r0 ++ q_opc P) ((1, w) :: O) x1 u1 a2 a3 hx1 h1 oc2 (by show ¬ (1 : Int32) = 2; decide) (by show ¬ (1 : Int32) = 3; decide) (by omega) (by simp; omega) (by simp [q_opc_l]; omega) (by omega) with ⟨pc', p', f', x', cs2, rs2, P2, e5, h5, g5, ⟨u', e6, h6, g6⟩, hP2, sg2, ⟨n1, n2, n6, n7⟩, n8, n3, n4, n5⟩ | ⟨pf, x', ⟨m0, mm, mm1, mm2⟩, e5, h5, g5, u', e6, g6⟩
      · have lc : (C ++ cs ++ cs2).length = C.length + cs.length + cs2.length := by simp; omega
        obtain ⟨x3, e7, h7, g7⟩ := q_addC9 (s := s) (l := l) (y := y) h5 (by omega) w 0
        have lcs : (C ++ cs).length = C.length + cs.length := by simp
        rw [lcs] at sg2
        have sg3 := q_SG_bin sg sg2 hsg
        rw [e5, q_b, e7, q_b, ei, e6]
        have E1 : C ++ (cs ++ cs2 ++ [(w, (0 : Int32))]) = C ++ cs ++ cs2 ++ [(w, 0)] := by simp
        have E2 : R ++ (r0 ++ q_opc P ++ rs2) = R ++ r0 ++ q_opc P ++ rs2 := by simp
        have E3 : (P2 ++ [((1 : Int32), w)]) ++ O = P2 ++ ((1, w) :: O) := by simp
        have E4 : r0 ++ q_opc P ++ rs2 ++ q_opc (P2 ++ [(1, w)]) = (r0 ++ q_opc P) ++ (rs2 ++ q_opc P2) ++ [(q_opn w, 0)] := by unfold q_opc; simp
        rw [← E1] at h7
        rw [← E2, ← E3] at h6
        rw [← E4] at sg3
        have A := ih pc' p' (i + 1) g f' (cs ++ cs2 ++ [(w, 0)]) (r0 ++ q_opc P ++ rs2) (P2 ++ [(1, w)]) x3 u' (by omega) (by omega) (by omega) h7 h6 (fun z hz => by
            rcases List.mem_append.mp hz with w1 | w1
            · exact Or.inr (hP2 z w1)
            · simp at w1; rw [w1]; exact Or.inl rfl) sg3 (by omega) n2 n6 n7 n8 (by simp; omega) (by simp [q_opc_l]; omega) n5
        rcases A with ⟨pc2, pr2, f2, x4, cs4, r4, P4, b1, b2, b3, ⟨u9, b4, b5, b6⟩, b7⟩ | ⟨pf, x4, b1, b2, b3, b4, u9, b5, b6⟩
        · left
          exact ⟨pc2, pr2, f2, x4, cs4, r4, P4, b1, b2, q_Gx_t gx1 (q_Gx_t g5 (q_Gx_t g7 b3)), ⟨u9, b4, b5, q_Gu_t g1 (q_Gu_t g6 b6)⟩, b7⟩
        · right
          exact ⟨pf, x4, b1, b2, b3, q_Gx_t gx1 (q_Gx_t g5 (q_Gx_t g7 b4)), u9, b5, q_Gu_t g1 (q_Gu_t g6 b6)⟩
      · right
        obtain ⟨r9, x3, e7, h7, h8, g7⟩ := q_addB (s := s) (l := l) (y := y) mm1 mm2 w 0
        rw [e5, q_b, e7, q_b, ei]
        obtain ⟨g, rfl⟩ : ∃ f9, g = f9 + 1 := ⟨g - 1, by omega⟩
        refine ⟨pf, x3, ⟨m0, h8⟩, ?_, by rw [h7]; exact h5, q_Gx_t gx1 (q_Gx_t g5 g7), u', e6, q_Gu_t g1 g6⟩
        rw [pl_X0_readSum_8, if_pos rfl, q_bz (Or.inl rfl)]
    · left
      refine ⟨q_sk s N pr, pr, f, pj_u x 26 (Int32.ofNat (q_sk s N pr)), cs, r0, P, ?_, q_CSt_26 hx _, q_Gx26, ⟨u, rfl, hu, q_Gu0⟩, hP, sg, ⟨m1, m2, by omega, q_sk_i m2⟩, ?_, m5, m6, m7⟩
      · rw [if_neg (fun z => c (Or.inl z)), if_neg (fun z => c (Or.inr z))]
      · intro z
        rcases z with z | z | z | z
        · exact nm (Or.inl z)
        · exact nm (Or.inr z)
        · exact c (Or.inl z)
        · exact c (Or.inr z)
theorem q_sumP (hN : N ≤ 200) (hs : s 1 = Int32.ofNat N) {rc rf : Int32 → pj_F (Int32 × pj_Z)} (hF : q_SPp N s l y v (pf_X0_readProduct rc rf) K) : q_SSp N s l y v (pf_X0_readSum rc rf) K := by
  intro p f C R O x u a2 a3 hx hu hoc hO hO3 hp hC hR hf
  unfold pf_X0_readSum po_X0_readSum
  rcases hF p f C R O x u a2 a3 hx hu hoc (fun z => hO (Or.inr z)) hO3 hp hC hR hf with ⟨pc', p', f', x', cs, rs, P2, e5, h5, g5, ⟨u', e6, h6, g6⟩, hP2, sg, ⟨n1, n2, n6, n7⟩, n8, n3, n4, n5⟩ | ⟨pf, x', b1, e5, h5, g5, u', e6, g6⟩
  · rw [e5, q_b, e6]
    have A := q_sumL hN hs hF (a2 := a2) (a3 := a3) (C := C) (R := R) (O := O) hO hoc hC hR (N - p') pc' p' 0 1000 f' cs rs P2 x' u' (by omega) (by omega) (by omega) h5 h6 (fun z hz => Or.inr (hP2 z hz)) sg n1 n2 n6 n7 n8 n3 n4 n5
    rcases A with ⟨pc2, pr2, f2, x4, cs4, r4, P4, b1, b2, b3, ⟨u9, b4, b5, b6⟩, b7⟩ | ⟨pf, x4, b1, b2, b3, b4, u9, b5, b6⟩
    · left
      exact ⟨pc2, pr2, f2, x4, cs4, r4, P4, b1, b2, q_Gx_t g5 b3, ⟨u9, b4, b5, q_Gu_t g6 b6⟩, b7⟩
    · right
      exact ⟨pf, x4, b1, b2, b3, q_Gx_t g5 b4, u9, b5, q_Gu_t g6 b6⟩
  · right
    refine ⟨pf, x', b1, ?_, h5, g5, u', e6, g6⟩
    rw [e5, q_b]
    show pl_X0_readSum_8 1000 rc rf (999 + 1) (Int32.ofNat K) 0 0 s l x' y = _
    rw [pl_X0_readSum_8, if_pos rfl, q_bz (Or.inl rfl)]
end QSUM

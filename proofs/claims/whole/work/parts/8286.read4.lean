/-! PURE: the BENCH: signs that go on -/
section QRS4
variable {s x u s' x' u' x2 u2 : Nat → Int32} {l y v l' y' v' : Nat → Int64} {D E W : Int} {fu f k n m N p : Nat} {t : Int64} {a b d e r c : Int32}
/-- it goes on from there -/
def q_On (s : Nat → Int32) (l : Nat → Int64) (u : Nat → Int32) (v : Nat → Int64) (a2 a3 : Int32) (f : Nat) (m : Int32) (p : Nat) (R O : q_Cd) (G : Option (Int32 × pj_Z)) : Prop := ∃ u', G = pl_X12_readText_26 1000 f m a2 a3 s l u' v ∧ q_RS p R O (q_ocn O) u' ∧ q_Gu u u'
theorem q_m3mul {R P O : q_Cd} {a2 a3 : Int32} (hN : N ≤ 200) (hs : s 1 = Int32.ofNat N) (hp : p ≤ N) (h : q_RS p R (P ++ O) (q_ocn (P ++ O)) u) (hb : R.length + (P ++ O).length ≤ 200) (hP : ∀ q ∈ P, q.1 = 2) (hO : ¬ q_tkd O = 2) (hc : c = 42 ∨ c = 47) (ec : q_chr s N (q_sk s N p) = c) : q_On s l u v a2 a3 f 2 (q_sk s N p + 1) (R ++ q_opc P) ((2, c) :: O) (pl_X12_readText_26 1000 (f + 1) 3 a2 a3 s l u v) := by
  rw [q_nxR hN hs hp h.1 (by decide) f, ec]
  have h1 := q_RS_24 h (q_sk s N p)
  generalize q_sk s N p = q at *
  have G0 : q_Gu u (pj_u u 24 (Int32.ofNat q)) := q_Gu24
  generalize pj_u u 24 (Int32.ofNat q) = u1 at h1 G0 ⊢
  have el : (P ++ O).length = P.length + O.length := by simp
  obtain ⟨u2, d1, h2, g2⟩ := q_redR (s := s) (l := l) (v := v) (a1 := 2) hO (fun z => absurd z (by decide)) (fun z hz => Or.inl (hP z hz)) h1 (by omega) (by omega)
  have lo : (R ++ q_opc P).length = R.length + P.length := by simp [q_opc_l]
  obtain ⟨u3, d3, h3, g3⟩ := q_awR9 (s := s) (l := l) (v := v) h2 (by omega) (by omega) 2 c
  have oc : q_ocn ((2, c) :: O) = q_ocn (P ++ O) := by
    rw [q_ocn_ap, q_ocn_none P (fun z hz => Or.inr (hP z hz))]
    have := q_ocn_ap (A := [(2, c)]) (B := O)
    rw [q_ocn_none [(2, c)] (fun z hz => by simp at hz; rw [hz]; exact Or.inr rfl)] at this
    exact this
  refine ⟨pj_u u3 24 (u3 24 + 1), ?_, ?_, ?_⟩
  · unfold pl_X12_readText_93 pl_X12_readText_331
    have n1 : ¬ c = 59 := by rcases hc with z | z <;> rw [z] <;> decide
    have n2 : ¬ c = -1 := by rcases hc with z | z <;> rw [z] <;> decide
    have e : pf_X12_takeSign c s l u1 v = pl_X12_takeSign_12 c s l u1 v := by
      unfold pf_X12_takeSign
      rcases hc with z | z
      · rw [if_pos z]
      · rw [if_neg (by rw [z]; decide), if_pos z]
    rw [if_neg (by decide), if_neg (by decide), if_neg (by decide), if_neg n1, if_neg n2, e]
    unfold pl_X12_takeSign_12
    rw [d1, q_b, d3, q_b, q_b]
  · rw [oc, h3.1, show Int32.ofNat q + 1 = Int32.ofNat (q + 1) from q_onaL q 1]
    exact q_RS_24 h3 (q + 1)
  · exact q_Gu_t G0 (q_Gu_t g2 (q_Gu_t g3 q_Gu24))
theorem q_oc12 {P O : q_Cd} {q : Int32 × Int32} (hP : ∀ q ∈ P, q.1 = 1 ∨ q.1 = 2) (hq : q.1 = 1 ∨ q.1 = 2 ∨ q.1 = 7) : q_ocn (q :: O) = q_ocn (P ++ O) := by
  rw [q_ocn_ap, q_ocn_none P hP]
  have e : q_ocn (q :: O) = q_ocn [q] + q_ocn O := q_ocn_ap (A := [q]) (B := O)
  have z : q_ocn [q] = 0 := by
    have e : ¬ q_opk q = true := by
      unfold q_opk
      rcases hq with z | z | z <;> rw [z] <;> decide
    unfold q_ocn
    rw [List.filter_cons_of_neg e]
    rfl
  omega
/-- behind the closing of sums -/
theorem q_m3r {R P O : q_Cd} {a2 a3 : Int32} (hN : N ≤ 200) (hs : s 1 = Int32.ofNat N) (hp : p ≤ N) (h : q_RS p R (P ++ O) (q_ocn (P ++ O)) u) (hb : R.length + (P ++ O).length ≤ 200) (hP : ∀ q ∈ P, q.1 = 1 ∨ q.1 = 2) (hO : ¬ (q_tkd O = 1 ∨ q_tkd O = 2)) : ∃ u1 u2, pl_X12_readText_26 1000 (f + 1) 3 a2 a3 s l u v = pl_X12_readText_93 1000 (pl_X12_readText_26 1000 f) 3 a2 a3 (q_chr s N (q_sk s N p)) s l u1 v ∧ pf_X12_reduce 1 s l u1 v = some ((), s, l, u2, v) ∧ q_RS (q_sk s N p) (R ++ q_opc P) O (q_ocn O) u2 ∧ q_Gu u u2 := by
  have h1 := q_RS_24 h (q_sk s N p)
  have G0 : q_Gu u (pj_u u 24 (Int32.ofNat (q_sk s N p))) := q_Gu24
  have el : (P ++ O).length = P.length + O.length := by simp
  obtain ⟨u2, d1, h2, g2⟩ := q_redR (s := s) (l := l) (v := v) (a1 := 1) (fun z => hO (Or.inr z)) (fun _ z => hO (Or.inl z)) (fun z hz => (hP z hz).elim (fun w => Or.inr ⟨rfl, w⟩) Or.inl) h1 (by omega) (by omega)
  have oc : q_ocn (P ++ O) = q_ocn O := by rw [q_ocn_ap, q_ocn_none P hP]; omega
  rw [oc] at h2
  exact ⟨_, u2, q_nxR hN hs hp h.1 (by decide) f, d1, h2, q_Gu_t G0 g2⟩
theorem q_m3add {R P O : q_Cd} {a2 a3 : Int32} (hN : N ≤ 200) (hs : s 1 = Int32.ofNat N) (hp : p ≤ N) (h : q_RS p R (P ++ O) (q_ocn (P ++ O)) u) (hb : R.length + (P ++ O).length ≤ 200) (hP : ∀ q ∈ P, q.1 = 1 ∨ q.1 = 2) (hO : ¬ (q_tkd O = 1 ∨ q_tkd O = 2)) (hc : c = 43 ∨ c = 45) (ec : q_chr s N (q_sk s N p) = c) : q_On s l u v a2 a3 f 2 (q_sk s N p + 1) (R ++ q_opc P) ((1, c) :: O) (pl_X12_readText_26 1000 (f + 1) 3 a2 a3 s l u v) := by
  obtain ⟨u1, u2, e1, d1, h2, g2⟩ := q_m3r (f := f) (l := l) (v := v) (a2 := a2) (a3 := a3) hN hs hp h hb hP hO
  rw [e1, ec]
  have el : (P ++ O).length = P.length + O.length := by simp
  have lo : (R ++ q_opc P).length = R.length + P.length := by simp [q_opc_l]
  obtain ⟨u3, d3, h3, g3⟩ := q_awR9 (s := s) (l := l) (v := v) h2 (by omega) (by omega) 1 c
  have oc : q_ocn ((1, c) :: O) = q_ocn O := by
    have := q_oc12 (P := []) (O := O) (q := (1, c)) (fun z hz => by cases hz) (Or.inl rfl)
    simpa using this
  refine ⟨pj_u u3 24 (u3 24 + 1), ?_, ?_, q_Gu_t g2 (q_Gu_t g3 q_Gu24)⟩
  · unfold pl_X12_readText_93 pl_X12_readText_331
    have n1 : ¬ c = 59 := by rcases hc with z | z <;> rw [z] <;> decide
    have n2 : ¬ c = -1 := by rcases hc with z | z <;> rw [z] <;> decide
    have n42 : ¬ c = 42 := by rcases hc with z | z <;> rw [z] <;> decide
    have n47 : ¬ c = 47 := by rcases hc with z | z <;> rw [z] <;> decide
    have e : pf_X12_takeSign c s l u1 v = pl_X12_takeSign_52 c s l u2 v := by
      unfold pf_X12_takeSign
      rw [if_neg n42, if_neg n47, d1, q_b]
      rcases hc with z | z
      · rw [if_pos z]
      · rw [if_neg (by rw [z]; decide), if_pos z]
    rw [if_neg (by decide), if_neg (by decide), if_neg (by decide), if_neg n1, if_neg n2, e]
    unfold pl_X12_takeSign_52 pl_X12_takeSign_278
    rw [d3, q_b, q_b]
  · rw [oc, h3.1, show Int32.ofNat (q_sk s N p) + 1 = Int32.ofNat (q_sk s N p + 1) from q_onaL _ 1]
    exact q_RS_24 h3 _
theorem q_tsC {u1 : Nat → Int32} (hc : c = 60 ∨ c = 62 ∨ c = 126) (d1 : pf_X12_reduce 1 s l u1 v = some ((), s, l, u2, v)) : pf_X12_takeSign c s l u1 v = pl_X12_takeSign_79 c s l u2 v := by
  unfold pf_X12_takeSign
  rw [d1, q_b]
  rcases hc with z | z | z
  · rw [if_neg (by rw [z]; decide), if_neg (by rw [z]; decide), if_neg (by rw [z]; decide), if_neg (by rw [z]; decide), if_pos z]
  · rw [if_neg (by rw [z]; decide), if_neg (by rw [z]; decide), if_neg (by rw [z]; decide), if_neg (by rw [z]; decide), if_neg (by rw [z]; decide), if_pos z]
  · rw [if_neg (by rw [z]; decide), if_neg (by rw [z]; decide), if_neg (by rw [z]; decide), if_neg (by rw [z]; decide), if_neg (by rw [z]; decide), if_neg (by rw [z]; decide), if_pos z]
theorem q_m3cmp {R P O : q_Cd} {a2 a3 : Int32} (hN : N ≤ 200) (hs : s 1 = Int32.ofNat N) (hp : p ≤ N) (h : q_RS p R (P ++ O) (q_ocn (P ++ O)) u) (hb : R.length + (P ++ O).length ≤ 200) (hP : ∀ q ∈ P, q.1 = 1 ∨ q.1 = 2) (hO : ¬ (q_tkd O = 1 ∨ q_tkd O = 2)) (h7 : ¬ q_tkd O = 7) (hc : c = 60 ∨ c = 62 ∨ c = 126) (ec : q_chr s N (q_sk s N p) = c) : q_On s l u v a2 a3 f 2 (q_sk s N p + 1) (R ++ q_opc P) ((7, c) :: O) (pl_X12_readText_26 1000 (f + 1) 3 a2 a3 s l u v) := by
  obtain ⟨u1, u2, e1, d1, h2, g2⟩ := q_m3r (f := f) (l := l) (v := v) (a2 := a2) (a3 := a3) hN hs hp h hb hP hO
  rw [e1, ec]
  have el : (P ++ O).length = P.length + O.length := by simp
  have lo : (R ++ q_opc P).length = R.length + P.length := by simp [q_opc_l]
  obtain ⟨u3, d3, h3, g3⟩ := q_awR9 (s := s) (l := l) (v := v) h2 (by omega) (by omega) 7 c
  have oc : q_ocn ((7, c) :: O) = q_ocn O := by
    have := q_oc12 (P := []) (O := O) (q := (7, c)) (fun z hz => by cases hz) (Or.inr (Or.inr rfl))
    simpa using this
  refine ⟨pj_u u3 24 (u3 24 + 1), ?_, ?_, q_Gu_t g2 (q_Gu_t g3 q_Gu24)⟩
  · unfold pl_X12_readText_93 pl_X12_readText_331
    have n1 : ¬ c = 59 := by rcases hc with z | z | z <;> rw [z] <;> decide
    have n2 : ¬ c = -1 := by rcases hc with z | z | z <;> rw [z] <;> decide
    rw [if_neg (by decide), if_neg (by decide), if_neg (by decide), if_neg n1, if_neg n2, q_tsC hc d1]
    unfold pl_X12_takeSign_79 pl_X12_takeSign_278
    rw [q_topR9 h2 (by omega), q_b, if_neg h7, d3, q_b, q_b]
  · rw [oc, h3.1, show Int32.ofNat (q_sk s N p) + 1 = Int32.ofNat (q_sk s N p + 1) from q_onaL _ 1]
    exact q_RS_24 h3 _
theorem q_m3cmF {R P O : q_Cd} {a2 a3 : Int32} (hN : N ≤ 200) (hs : s 1 = Int32.ofNat N) (hp : p ≤ N) (h : q_RS p R (P ++ O) (q_ocn (P ++ O)) u) (hb : R.length + (P ++ O).length ≤ 200) (hP : ∀ q ∈ P, q.1 = 1 ∨ q.1 = 2) (hO : ¬ (q_tkd O = 1 ∨ q_tkd O = 2)) (h7 : q_tkd O = 7) (hf : 0 < f) (hc : c = 60 ∨ c = 62 ∨ c = 126) (ec : q_chr s N (q_sk s N p) = c) : q_Ft s l u v (q_sk s N p) (pl_X12_readText_26 1000 (f + 1) 3 a2 a3 s l u v) := by
  obtain ⟨u1, u2, e1, d1, h2, g2⟩ := q_m3r (f := f) (l := l) (v := v) (a2 := a2) (a3 := a3) hN hs hp h hb hP hO
  rw [e1, ec]
  have el : (P ++ O).length = P.length + O.length := by simp
  unfold pl_X12_readText_93 pl_X12_readText_331
  have n1 : ¬ c = 59 := by rcases hc with z | z | z <;> rw [z] <;> decide
  have n2 : ¬ c = -1 := by rcases hc with z | z | z <;> rw [z] <;> decide
  rw [if_neg (by decide), if_neg (by decide), if_neg (by decide), if_neg n1, if_neg n2, q_tsC hc d1]
  unfold pl_X12_takeSign_79
  rw [q_topR9 h2 (by omega), q_b, if_pos h7, q_b]
  exact q_Ft_m hf h2.1 g2
-- ?
def q_cmp (d : Int32) : Int32 := if d = 60 then 8 else if d = 62 then 9 else 10
theorem q_tsQ {u1 : Nat → Int32} (d1 : pf_X12_reduce 1 s l u1 v = some ((), s, l, u2, v)) {R O : q_Cd} (h2 : q_RS p R O k u2) (hl : O.length ≤ 300) : pf_X12_takeSign 63 s l u1 v = (if q_tkd O = 7 then (if u2 28 = 12 then some ((-1), s, l, u2, v) else pj_g (u2 27 - 1) 300 ((if u2 (18000 + (u2 27 - 1).toNatClampNeg) = 60 then pl_X12_takeSign_163 8 s l u2 v else (if u2 (18000 + (u2 27 - 1).toNatClampNeg) = 62 then pl_X12_takeSign_163 9 s l u2 v else pl_X12_takeSign_163 10 s l u2 v)))) else some ((-1), s, l, u2, v)) := by
  unfold pf_X12_takeSign
  rw [if_neg (by decide), if_neg (by decide), d1, q_b, if_neg (by decide), if_neg (by decide), if_neg (by decide), if_neg (by decide), if_neg (by decide), if_pos rfl, q_topR9 h2 hl, q_b]
theorem q_m3qF {R P O : q_Cd} {a2 a3 : Int32} (hN : N ≤ 200) (hs : s 1 = Int32.ofNat N) (hp : p ≤ N) (h : q_RS p R (P ++ O) (q_ocn (P ++ O)) u) (hb : R.length + (P ++ O).length ≤ 200) (hP : ∀ q ∈ P, q.1 = 1 ∨ q.1 = 2) (hO : ¬ (q_tkd O = 1 ∨ q_tkd O = 2)) (h7 : ¬ q_tkd O = 7 ∨ q_ocn O = 12) (hf : 0 < f) (ec : q_chr s N (q_sk s N p) = 63) : q_Ft s l u v (q_sk s N p) (pl_X12_readText_26 1000 (f + 1) 3 a2 a3 s l u v) := by
  obtain ⟨u1, u2, e1, d1, h2, g2⟩ := q_m3r (f := f) (l := l) (v := v) (a2 := a2) (a3 := a3) hN hs hp h hb hP hO
  rw [e1, ec]
  have el : (P ++ O).length = P.length + O.length := by simp
  unfold pl_X12_readText_93 pl_X12_readText_331
  rw [if_neg (by decide), if_neg (by decide), if_neg (by decide), if_neg (by decide), if_neg (by decide), q_tsQ d1 h2 (by omega)]
  by_cases c7 : q_tkd O = 7
  · have z : u2 28 = 12 := by
      rw [h2.2.2.2.2.2, h7.resolve_left (fun w => w c7)]
      rfl
    rw [if_pos c7, if_pos z, q_b]
    exact q_Ft_m hf h2.1 g2
  · rw [if_neg c7, q_b]
    exact q_Ft_m hf h2.1 g2
theorem q_m3q {R P O : q_Cd} {a2 a3 d : Int32} (hN : N ≤ 200) (hs : s 1 = Int32.ofNat N) (hp : p ≤ N) (h : q_RS p R (P ++ ((7, d) :: O)) (q_ocn (P ++ ((7, d) :: O))) u) (hb : R.length + (P ++ ((7, d) :: O)).length ≤ 200) (hP : ∀ q ∈ P, q.1 = 1 ∨ q.1 = 2) (hk : q_ocn O < 12) (ec : q_chr s N (q_sk s N p) = 63) : q_On s l u v a2 a3 f 2 (q_sk s N p + 1) (R ++ q_opc P ++ [(q_cmp d, 0)]) ((5, d) :: O) (pl_X12_readText_26 1000 (f + 1) 3 a2 a3 s l u v) := by
  obtain ⟨u1, u2, e1, d1, h2, g2⟩ := q_m3r (f := f) (l := l) (v := v) (a2 := a2) (a3 := a3) hN hs hp h hb hP (by show ¬ ((7 : Int32) = 1 ∨ (7 : Int32) = 2); decide)
  rw [e1, ec]
  have el : (P ++ ((7, d) :: O)).length = P.length + (O.length + 1) := by simp
  have lo : (R ++ q_opc P).length = R.length + P.length := by simp [q_opc_l]
  have oc7 : q_ocn ((7, d) :: O) = q_ocn O := by
    have := q_oc12 (P := []) (O := O) (q := (7, d)) (fun z hz => by cases hz) (Or.inr (Or.inr rfl))
    simpa using this
  have oc5 : q_ocn ((5, d) :: O) = q_ocn O + 1 := by
    have e : q_ocn ((5, d) :: O) = q_ocn [(5, d)] + q_ocn O := q_ocn_ap (A := [(5, d)]) (B := O)
    have z : q_ocn [((5 : Int32), d)] = 1 := q_ocn_all [(5, d)] (fun w hw => by simp at hw; rw [hw]; exact Or.inr (Or.inr (Or.inl rfl)))
    omega
  rw [oc7] at h2
  have h4 : u2 27 = Int32.ofNat (O.length + 1) := h2.2.2.2.1
  have h28 : u2 28 = Int32.ofNat (q_ocn O) := h2.2.2.2.2.2
  have n12 : ¬ u2 28 = 12 := by
    rw [h28]
    intro z
    have : (Int32.ofNat (q_ocn O)).toInt = 12 := by rw [z]; rfl
    rw [q_onI (by omega)] at this
    omega
  have hd : u2 (18000 + O.length) = d := h2.2.2.2.2.1.2.1
  obtain ⟨u3, d3, h3, o3⟩ := q_addR9 (s := s) (l := l) (v := v) h2 (by omega) (q_cmp d) 0
  have h34 : u3 27 = Int32.ofNat (O.length + 1) := h3.2.2.2.1
  have h328 : u3 28 = Int32.ofNat (q_ocn O) := h3.2.2.2.2.2
  have h324 : u3 24 = Int32.ofNat (q_sk s N p) := h3.1
  refine ⟨pj_u (pj_u (pj_u u3 (17000 + O.length) 5) 28 (Int32.ofNat (q_ocn O + 1))) 24 (Int32.ofNat (q_sk s N p + 1)), ?_, ?_, ?_⟩
  · unfold pl_X12_readText_93 pl_X12_readText_331
    rw [if_neg (by decide), if_neg (by decide), if_neg (by decide), if_neg (by decide), if_neg (by decide), q_tsQ d1 h2 (by simp; omega), if_pos (show q_tkd ((7, d) :: O) = 7 from rfl), if_neg n12, h4, q_ofs, q_g (by omega) (by omega), q_onC (by omega), hd]
    have sel : ∀ K : Int32 → Option (Int32 × pj_Z), (if d = 60 then K 8 else (if d = 62 then K 9 else K 10)) = K (q_cmp d) := by
      intro K
      unfold q_cmp
      by_cases c1 : d = 60
      · rw [if_pos c1, if_pos c1]
      rw [if_neg c1, if_neg c1]
      by_cases c2 : d = 62
      · rw [if_pos c2, if_pos c2]
      rw [if_neg c2, if_neg c2]
    rw [sel (fun o => pl_X12_takeSign_163 o s l u2 v)]
    unfold pl_X12_takeSign_163 pl_X12_takeSign_278
    rw [d3, q_b, h34, q_ofs, q_g (by omega) (by omega), q_onC (by omega), q_un (show ¬ 28 = 17000 + O.length by omega), h328, q_b, q_un (show ¬ 24 = 28 by omega), q_un (show ¬ 24 = 17000 + O.length by omega), h324, show Int32.ofNat (q_ocn O) + 1 = Int32.ofNat (q_ocn O + 1) from q_onaL _ 1, show Int32.ofNat (q_sk s N p) + 1 = Int32.ofNat (q_sk s N p + 1) from q_onaL _ 1]
  · obtain ⟨k1, k2, k3, k4, k5, k6⟩ := h3
    have lo2 : (R ++ q_opc P ++ [(q_cmp d, (0 : Int32))]).length = R.length + P.length + 1 := by simp [q_opc_l]; omega
    refine ⟨q_ua, by rw [q_un (by omega), q_un (by omega), q_un (by omega)]; exact k2, q_cdA_c _ 0 (fun z hz => by rw [q_un (by omega), q_un (by omega), q_un (by omega)]) k3, by rw [q_un (by omega), q_un (by omega), q_un (by omega)]; exact k4, ⟨?_, ?_, ?_⟩, ?_⟩
    · rw [q_un (by omega), q_un (by omega), q_ua]
    · rw [q_un (by omega), q_un (by omega), q_un (by omega)]; exact k5.2.1
    · exact q_ops_c O (fun z hz => by rw [q_un (by omega), q_un (by omega), q_un (by omega)]) k5.2.2
    · rw [q_un (by omega), q_ua, oc5]
  · intro w a1 a2
    rw [q_un (by omega), q_un (by omega), q_un (by omega), o3 w (by omega) (by omega), g2 w a1 a2]
end QRS4

/-! PURE: the BENCH: signs that close -/
section QRS5
variable {s x u s' x' u' x2 u2 : Nat → Int32} {l y v l' y' v' : Nat → Int64} {D E W : Int} {fu f k n m N p : Nat} {t : Int64} {a b d e r c : Int32}
theorem q_m3s {R P S O : q_Cd} {a2 a3 : Int32} (hN : N ≤ 200) (hs : s 1 = Int32.ofNat N) (hp : p ≤ N) (h : q_RS p R (P ++ (S ++ O)) (q_ocn (P ++ (S ++ O))) u) (hb : R.length + (P ++ (S ++ O)).length ≤ 200) (hP : ∀ q ∈ P, q.1 = 1 ∨ q.1 = 2) (hS : ∀ q ∈ S, q.1 = 6) (hO : ¬ (q_tkd O = 1 ∨ q_tkd O = 2)) (h6 : ¬ q_tkd O = 6) : ∃ u1 u2 u3, pl_X12_readText_26 1000 (f + 1) 3 a2 a3 s l u v = pl_X12_readText_93 1000 (pl_X12_readText_26 1000 f) 3 a2 a3 (q_chr s N (q_sk s N p)) s l u1 v ∧ pf_X12_reduce 1 s l u1 v = some ((), s, l, u2, v) ∧ pf_X12_endSeconds s l u2 v = some ((), s, l, u3, v) ∧ q_RS (q_sk s N p) (R ++ q_opc P ++ List.replicate S.length (11, 0)) O (q_ocn O) u3 ∧ q_Gu u u3 := by
  have hSO : ¬ (q_tkd (S ++ O) = 1 ∨ q_tkd (S ++ O) = 2) := by
    cases S with
    | nil => exact hO
    | cons q r =>
      show ¬ (q.1 = 1 ∨ q.1 = 2)
      rw [hS q List.mem_cons_self]
      decide
  obtain ⟨u1, u2, e1, d1, h2, g2⟩ := q_m3r (f := f) (l := l) (v := v) (a2 := a2) (a3 := a3) hN hs hp h hb hP hSO
  have el : (P ++ (S ++ O)).length = P.length + (S.length + O.length) := by simp
  have lo : (R ++ q_opc P).length = R.length + P.length := by simp [q_opc_l]
  have ec : q_ocn (S ++ O) = q_ocn O + S.length := by rw [q_ocn_ap, q_ocn_all S (fun q hq => Or.inr (Or.inr (Or.inr (hS q hq))))]; omega
  rw [ec] at h2
  obtain ⟨u3, d2, h3, g3⟩ := q_esR (s := s) (l := l) (v := v) h6 hS h2 (by omega) (by simp; omega)
  exact ⟨u1, u2, u3, e1, d1, d2, h3, q_Gu_t g2 g3⟩
theorem q_oc1 {q : Int32 × Int32} {O : q_Cd} (h : q.1 = 3 ∨ q.1 = 4 ∨ q.1 = 5 ∨ q.1 = 6) : q_ocn (q :: O) = q_ocn O + 1 := by
  have e : q_ocn (q :: O) = q_ocn [q] + q_ocn O := q_ocn_ap (A := [q]) (B := O)
  have z : q_ocn [q] = 1 := q_ocn_all [q] (fun w hw => by simp at hw; rw [hw]; exact h)
  omega
theorem q_ts9 {u1 u3 : Nat → Int32} (hc : c = 58 ∨ c = 41) (d1 : pf_X12_reduce 1 s l u1 v = some ((), s, l, u2, v)) (d2 : pf_X12_endSeconds s l u2 v = some ((), s, l, u3, v)) : pf_X12_takeSign c s l u1 v = (if c = 58 then pj_b (pf_X12_top s l u3 v) (fun r4 s4 l4 x4 y4 => (if r4 = 5 then pj_g (x4 27 - 1) 300 (pl_X12_takeSign_278 s4 l4 (pj_u x4 (17000 + (x4 27 - 1).toNatClampNeg) 6) y4) else pl_X12_takeSign_226 c s4 l4 x4 y4)) else pl_X12_takeSign_226 c s l u3 v) := by
  unfold pf_X12_takeSign
  have nn : ¬ c = 42 ∧ ¬ c = 47 ∧ ¬ c = 43 ∧ ¬ c = 45 ∧ ¬ c = 60 ∧ ¬ c = 62 ∧ ¬ c = 126 ∧ ¬ c = 63 := by
    rcases hc with z | z <;> rw [z] <;> decide
  obtain ⟨n1, n2, n3, n4, n5, n6, n7, n8⟩ := nn
  rw [if_neg n1, if_neg n2, d1, q_b, if_neg n3, if_neg n4, if_neg n5, if_neg n6, if_neg n7, if_neg n8, d2, q_b]
-- :
theorem q_m3col {R P S O : q_Cd} {a2 a3 d : Int32} (hN : N ≤ 200) (hs : s 1 = Int32.ofNat N) (hp : p ≤ N) (h : q_RS p R (P ++ (S ++ ((5, d) :: O))) (q_ocn (P ++ (S ++ ((5, d) :: O)))) u) (hb : R.length + (P ++ (S ++ ((5, d) :: O))).length ≤ 200) (hP : ∀ q ∈ P, q.1 = 1 ∨ q.1 = 2) (hS : ∀ q ∈ S, q.1 = 6) (ec : q_chr s N (q_sk s N p) = 58) : q_On s l u v a2 a3 f 2 (q_sk s N p + 1) (R ++ q_opc P ++ List.replicate S.length (11, 0)) ((6, d) :: O) (pl_X12_readText_26 1000 (f + 1) 3 a2 a3 s l u v) := by
  obtain ⟨u1, u2, u3, e1, d1, d2, h3, g3⟩ := q_m3s (f := f) (l := l) (v := v) (a2 := a2) (a3 := a3) hN hs hp h hb hP hS (by show ¬ ((5 : Int32) = 1 ∨ (5 : Int32) = 2); decide) (by show ¬ (5 : Int32) = 6; decide)
  rw [e1, ec]
  have el : (P ++ (S ++ ((5, d) :: O))).length = P.length + (S.length + (O.length + 1)) := by simp
  have lo : (R ++ q_opc P ++ List.replicate S.length ((11, 0) : Int32 × Int32)).length = R.length + P.length + S.length := by simp [q_opc_l]; omega
  have h4 : u3 27 = Int32.ofNat (O.length + 1) := h3.2.2.2.1
  have h24 : u3 24 = Int32.ofNat (q_sk s N p) := h3.1
  have oc : q_ocn ((6, d) :: O) = q_ocn ((5, d) :: O) := by rw [q_oc1 (by simp), q_oc1 (by simp)]
  refine ⟨pj_u (pj_u u3 (17000 + O.length) 6) 24 (Int32.ofNat (q_sk s N p + 1)), ?_, ?_, ?_⟩
  · unfold pl_X12_readText_93 pl_X12_readText_331
    rw [if_neg (by decide), if_neg (by decide), if_neg (by decide), if_neg (by decide), if_neg (by decide), q_ts9 (Or.inl rfl) d1 d2, if_pos rfl, q_topR9 h3 (by simp; omega), q_b, if_pos (show q_tkd ((5, d) :: O) = 5 from rfl), h4, q_ofs, q_g (by omega) (by omega), q_onC (by omega)]
    unfold pl_X12_takeSign_278
    rw [q_b, q_un (show ¬ 24 = 17000 + O.length by omega), h24, show Int32.ofNat (q_sk s N p) + 1 = Int32.ofNat (q_sk s N p + 1) from q_onaL _ 1]
  · obtain ⟨k1, k2, k3, k4, k5, k6⟩ := h3
    refine ⟨q_ua, by rw [q_un (by omega), q_un (by omega)]; exact k2, q_cdA_c _ 0 (fun z hz => by rw [q_un (by omega), q_un (by omega)]) k3, by rw [q_un (by omega), q_un (by omega)]; exact k4, ⟨?_, ?_, ?_⟩, ?_⟩
    · rw [q_un (by omega), q_ua]
    · rw [q_un (by omega), q_un (by omega)]; exact k5.2.1
    · exact q_ops_c O (fun z hz => by rw [q_un (by omega), q_un (by omega)]) k5.2.2
    · rw [q_un (by omega), q_un (by omega), oc]; exact k6
  · intro w a1 a2
    rw [q_un (by omega), q_un (by omega), g3 w a1 a2]
-- )
theorem q_m3par {R P S L O : q_Cd} {a2 a3 d : Int32} (hN : N ≤ 200) (hs : s 1 = Int32.ofNat N) (hp : p ≤ N) (h : q_RS p R (P ++ (S ++ ((4, d) :: (L ++ O)))) (q_ocn (P ++ (S ++ ((4, d) :: (L ++ O))))) u) (hb : R.length + (P ++ (S ++ ((4, d) :: (L ++ O)))).length ≤ 200) (hP : ∀ q ∈ P, q.1 = 1 ∨ q.1 = 2) (hS : ∀ q ∈ S, q.1 = 6) (hL : ∀ q ∈ L, q.1 = 3) (hO : ¬ q_tkd O = 3) (ec : q_chr s N (q_sk s N p) = 41) : q_On s l u v a2 a3 f 3 (q_sk s N p + 1) (R ++ q_opc P ++ List.replicate S.length (11, 0) ++ List.replicate L.length (7, 0)) O (pl_X12_readText_26 1000 (f + 1) 3 a2 a3 s l u v) := by
  obtain ⟨u1, u2, u3, e1, d1, d2, h3, g3⟩ := q_m3s (f := f) (l := l) (v := v) (a2 := a2) (a3 := a3) hN hs hp h hb hP hS (by show ¬ ((4 : Int32) = 1 ∨ (4 : Int32) = 2); decide) (by show ¬ (4 : Int32) = 6; decide)
  rw [e1, ec]
  have el : (P ++ (S ++ ((4, d) :: (L ++ O)))).length = P.length + (S.length + (L.length + O.length + 1)) := by simp
  have lo : (R ++ q_opc P ++ List.replicate S.length ((11, 0) : Int32 × Int32)).length = R.length + P.length + S.length := by simp [q_opc_l]; omega
  have oc : q_ocn ((4, d) :: (L ++ O)) = q_ocn O + L.length + 1 := by
    rw [q_oc1 (by simp), q_ocn_ap, q_ocn_all L (fun q hq => Or.inl (hL q hq))]; omega
  have h28 : u3 28 = Int32.ofNat (q_ocn O + L.length + 1) := by rw [h3.2.2.2.2.2, oc]
  have h24 : u3 24 = Int32.ofNat (q_sk s N p) := h3.1
  have h4 := q_RS_24 (q_RS_28 (q_RS_pop h3) (q_ocn O + L.length)) (q_sk s N p + 1)
  obtain ⟨u5, d5, h5, g5⟩ := q_efR (s := s) (l := l) (v := v) hO hL h4 (by rw [lo]; omega) (by simp; omega)
  refine ⟨u5, ?_, h5, ?_⟩
  · unfold pl_X12_readText_93 pl_X12_readText_331
    rw [if_neg (by decide), if_neg (by decide), if_neg (by decide), if_neg (by decide), if_neg (by decide), q_ts9 (Or.inr rfl) d1 d2, if_neg (by decide)]
    unfold pl_X12_takeSign_226
    rw [if_pos rfl, q_topR9 h3 (by simp; omega), q_b, if_pos (show q_tkd ((4, d) :: (L ++ O)) = 4 from rfl), h28, q_ofs, h24, show Int32.ofNat (q_sk s N p) + 1 = Int32.ofNat (q_sk s N p + 1) from q_onaL _ 1, d5, q_b, q_b]
  · refine q_Gu_t g3 (q_Gu_t ?_ g5)
    intro w a1 a2
    rw [q_un (by omega), q_un (by omega), q_un (by omega)]
-- a RULE's end
theorem q_m3end {R P S : q_Cd} {a2 a3 d : Int32} (hN : N ≤ 200) (hs : s 1 = Int32.ofNat N) (hp : p ≤ N) (h : q_RS p R (P ++ (S ++ [(8, d)])) (q_ocn (P ++ (S ++ [(8, d)]))) u) (hb : R.length + (P ++ (S ++ [(8, d)])).length ≤ 200) (hP : ∀ q ∈ P, q.1 = 1 ∨ q.1 = 2) (hS : ∀ q ∈ S, q.1 = 6) (ec : q_chr s N (q_sk s N p) = c) (hc : c = 59 ∨ c = -1) : ∃ u', pl_X12_readText_26 1000 (f + 1) 3 a2 a3 s l u v = (if c = -1 then some ((-1), (pj_u s 2 (a3 + 1)), l, u', v) else (if (a3 + 1) = 8 then pl_X12_readText_308 1000 (pl_X12_readText_26 1000 f) a2 (a3 + 1) (-1) s l u' v else pl_X12_readText_308 1000 (pl_X12_readText_26 1000 f) a2 (a3 + 1) 0 s l u' v)) ∧ q_RS (q_sk s N p) (R ++ q_opc P ++ List.replicate S.length (11, 0) ++ [(12, a2)]) [] 0 u' ∧ q_Gu u u' := by
  obtain ⟨u1, u2, u3, e1, d1, d2, h3, g3⟩ := q_m3s (f := f) (l := l) (v := v) (a2 := a2) (a3 := a3) hN hs hp h hb hP hS (by show ¬ ((8 : Int32) = 1 ∨ (8 : Int32) = 2); decide) (by show ¬ (8 : Int32) = 6; decide)
  rw [e1, ec]
  have el : (P ++ (S ++ [((8 : Int32), d)])).length = P.length + (S.length + 1) := by simp
  have lo : (R ++ q_opc P ++ List.replicate S.length ((11, 0) : Int32 × Int32)).length = R.length + P.length + S.length := by simp [q_opc_l]; omega
  have oc : q_ocn [((8 : Int32), d)] = 0 := rfl
  rw [oc] at h3
  have h4 := q_RS_pop h3
  obtain ⟨u5, d5, h5, o5⟩ := q_addR9 (s := s) (l := l) (v := v) h4 (by omega) 12 a2
  refine ⟨u5, ?_, h5, ?_⟩
  · have e : pl_X12_readText_93 1000 (pl_X12_readText_26 1000 f) 3 a2 a3 c s l u1 v = pl_X12_readText_236 1000 (pl_X12_readText_26 1000 f) a2 a3 c s l u1 v := by
      unfold pl_X12_readText_93
      rw [if_neg (by decide), if_neg (by decide), if_neg (by decide)]
      rcases hc with z | z
      · rw [if_pos z]
      · rw [if_neg (by rw [z]; decide), if_pos z]
    rw [e]
    unfold pl_X12_readText_236
    rw [d1, q_b, d2, q_b, q_topR9 h3 (by simp), q_b, if_pos (show q_tkd [((8 : Int32), d)] = 8 from rfl)]
    unfold pl_X12_readText_259
    rw [if_pos rfl, d5, q_b]
  · intro w a1 a2
    rw [o5 w (by omega) (by omega), q_un (by omega), g3 w a1 a2]
end QRS5

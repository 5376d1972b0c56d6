/-! PURE: the BENCH: what waits is written -/
section QRE2
variable {s x u s' x' u' x2 u2 : Nat → Int32} {l y v l' y' v' : Nat → Int64} {D E W : Int} {fu f k n m N p : Nat} {t : Int64} {a b d e r c : Int32}
def q_opn (d : Int32) : Int32 := if d = 43 then 3 else if d = 45 then 4 else if d = 42 then 5 else 6
def q_opc (L : q_Cd) : q_Cd := L.map (fun q => (q_opn q.2, 0))
theorem q_opc_l {L : q_Cd} : (q_opc L).length = L.length := by unfold q_opc; simp
theorem q_apc {α : Type} {A B C : List α} {a : α} : A ++ (a :: B) ++ C = (A ++ [a]) ++ (B ++ C) := by simp
theorem q_redL {a1 : Int32} {O : q_Cd} (hO2 : ¬ q_tkd O = 2) (hO1 : a1 = 1 → ¬ q_tkd O = 1) : ∀ (L R : q_Cd) (f : Nat) (u : Nat → Int32), L.length < f → (∀ q ∈ L, q.1 = 2 ∨ (a1 = 1 ∧ q.1 = 1)) → q_RS p R (L ++ O) k u → R.length + L.length < 600 → (L ++ O).length ≤ 300 → ∃ u', pl_X12_reduce_0 1000 f a1 s l u v = some ((), s, l, u', v) ∧ q_RS p (R ++ q_opc L) O k u' ∧ q_Gu u u' := by
  intro L
  induction L with
  | nil =>
    intro R f u hf hL h hR hl
    obtain ⟨f, rfl⟩ : ∃ f9, f = f9 + 1 := ⟨f - 1, by omega⟩
    have h' : q_RS p R O k u := h
    have hl' : O.length ≤ 300 := by simpa using hl
    refine ⟨u, ?_, by unfold q_opc; simpa using h', q_Gu0⟩
    rw [pl_X12_reduce_0, q_topR9 h' hl', q_b, if_neg hO2]
    by_cases c : a1 = 1
    · rw [if_pos c, q_topR9 h' hl', q_b, if_neg (hO1 c)]
    · rw [if_neg c]
  | cons q r ih =>
    intro R f u hf hL h hR hl
    have e : (q :: r).length = r.length + 1 := rfl
    rw [e] at hf hR
    obtain ⟨f, rfl⟩ : ∃ f9, f = f9 + 1 := ⟨f - 1, by omega⟩
    have h' : q_RS p R (q :: (r ++ O)) k u := h
    have el : (q :: r ++ O).length = (r ++ O).length + 1 := rfl
    have hl9 : (q :: (r ++ O)).length ≤ 300 := hl
    have step : ∃ u', pl_X12_reduce_21 1000 (pl_X12_reduce_0 1000 f) a1 s l u v = some ((), s, l, u', v) ∧ q_RS p (R ++ q_opc (q :: r)) O k u' ∧ q_Gu u u' := by
      have h4 : u 27 = Int32.ofNat ((r ++ O).length + 1) := h'.2.2.2.1
      have hd : u (18000 + (r ++ O).length) = q.2 := h'.2.2.2.2.1.2.1
      have L9 : (r ++ O).length + 1 ≤ 300 := by rw [← el]; exact hl
      obtain ⟨u1, e1, h1, o1⟩ := q_addR9 (s := s) (l := l) (v := v) h' (by omega) (q_opn q.2) 0
      have h2 := q_RS_pop h1
      obtain ⟨u2, e2, h3, g2⟩ := ih (R ++ [(q_opn q.2, 0)]) f (pj_u u1 27 (u1 27 - 1)) (by omega) (fun z hz => hL z (List.mem_cons_of_mem _ hz)) h2 (by simp; omega) (by omega)
      refine ⟨u2, ?_, ?_, ?_⟩
      · unfold pl_X12_reduce_21 pl_X12_reduce_66
        rw [h4, q_ofs, q_g (by omega) (by omega), q_onC (by omega), hd]
        have sel : ∀ K : Int32 → Option (Unit × pj_Z), (if q.2 = 43 then K 3 else (if q.2 = 45 then K 4 else (if q.2 = 42 then K 5 else K 6))) = K (q_opn q.2) := by
          intro K
          unfold q_opn
          by_cases c1 : q.2 = 43
          · rw [if_pos c1, if_pos c1]
          rw [if_neg c1, if_neg c1]
          by_cases c2 : q.2 = 45
          · rw [if_pos c2, if_pos c2]
          rw [if_neg c2, if_neg c2]
          by_cases c3 : q.2 = 42
          · rw [if_pos c3, if_pos c3]
          rw [if_neg c3, if_neg c3]
        rw [sel (fun o => pj_b (pf_X12_add o 0 s l u v) (fun r1 s1 l1 x1 y1 => pl_X12_reduce_0 1000 f a1 s1 l1 (pj_u x1 27 (x1 27 - 1)) y1)), e1, q_b, e2]
      · have : R ++ q_opc (q :: r) = R ++ [(q_opn q.2, 0)] ++ q_opc r := by unfold q_opc; simp
        rw [this]; exact h3
      · intro w a1 a2
        rw [g2 w a1 a2, q_un (by omega), o1 w (by omega) (by omega)]
    rw [pl_X12_reduce_0, q_topR9 h' hl9, q_b]
    rcases hL q (List.mem_cons_self) with z | ⟨z1, z2⟩
    · rw [if_pos (show q_tkd (q :: (r ++ O)) = 2 from z)]
      exact step
    · have n2 : ¬ q_tkd (q :: (r ++ O)) = 2 := by
        show ¬ q.1 = 2
        rw [z2]; decide
      rw [if_neg n2, if_pos z1, q_topR9 h' hl9, q_b, if_pos (show q_tkd (q :: (r ++ O)) = 1 from z2)]
      exact step
theorem q_redR {a1 : Int32} {O L R : q_Cd} (hO2 : ¬ q_tkd O = 2) (hO1 : a1 = 1 → ¬ q_tkd O = 1) (hL : ∀ q ∈ L, q.1 = 2 ∨ (a1 = 1 ∧ q.1 = 1)) (h : q_RS p R (L ++ O) k u) (hR : R.length + L.length < 600) (hl : (L ++ O).length ≤ 300) : ∃ u', pf_X12_reduce a1 s l u v = some ((), s, l, u', v) ∧ q_RS p (R ++ q_opc L) O k u' ∧ q_Gu u u' := by
  have e : (L ++ O).length = L.length + O.length := by simp
  exact q_redL hO2 hO1 L R 1000 u (by omega) hL h hR hl
theorem q_efL {O : q_Cd} (hO : ¬ q_tkd O = 3) : ∀ (L R : q_Cd) (f k : Nat) (u : Nat → Int32), L.length < f → (∀ q ∈ L, q.1 = 3) → q_RS p R (L ++ O) (k + L.length) u → R.length + L.length < 600 → (L ++ O).length ≤ 300 → ∃ u', pl_X12_endFactor_0 1000 f s l u v = some ((), s, l, u', v) ∧ q_RS p (R ++ List.replicate L.length (7, 0)) O k u' ∧ q_Gu u u' := by
  intro L
  induction L with
  | nil =>
    intro R f k u hf hL h hR hl
    obtain ⟨f, rfl⟩ : ∃ f9, f = f9 + 1 := ⟨f - 1, by omega⟩
    have h' : q_RS p R O k u := h
    have hl' : O.length ≤ 300 := by simpa using hl
    refine ⟨u, ?_, by simpa using h', q_Gu0⟩
    rw [pl_X12_endFactor_0, q_topR9 h' hl', q_b, if_neg hO]
  | cons q r ih =>
    intro R f k u hf hL h hR hl
    have e : (q :: r).length = r.length + 1 := rfl
    rw [e] at hf hR h
    obtain ⟨f, rfl⟩ : ∃ f9, f = f9 + 1 := ⟨f - 1, by omega⟩
    have h' : q_RS p R (q :: (r ++ O)) (k + (r.length + 1)) u := h
    have hl9 : (q :: (r ++ O)).length ≤ 300 := hl
    have el : (q :: (r ++ O)).length = (r ++ O).length + 1 := rfl
    obtain ⟨u1, e1, h1, o1⟩ := q_addR9 (s := s) (l := l) (v := v) h' (by omega) 7 0
    have h2 := q_RS_28 (q_RS_pop h1) (k + r.length)
    have z28 : (pj_u u1 27 (u1 27 - 1)) 28 - 1 = Int32.ofNat (k + r.length) := by
      rw [q_un (by omega), h1.2.2.2.2.2, show k + (r.length + 1) = k + r.length + 1 by omega, q_ofs]
    have u28 : u1 28 - 1 = Int32.ofNat (k + r.length) := by rw [q_un (by omega)] at z28; exact z28
    obtain ⟨u2, e2, h3, g2⟩ := ih (R ++ [(7, 0)]) f k _ (by omega) (fun z hz => hL z (List.mem_cons_of_mem _ hz)) h2 (by simp; omega) (by omega)
    refine ⟨u2, ?_, ?_, ?_⟩
    · rw [pl_X12_endFactor_0, q_topR9 h' hl9, q_b, if_pos (show q_tkd (q :: (r ++ O)) = 3 from hL q List.mem_cons_self), e1, q_b, u28, e2]
    · have : R ++ List.replicate (q :: r).length ((7, 0) : Int32 × Int32) = R ++ [(7, 0)] ++ List.replicate r.length (7, 0) := by
        rw [e, List.replicate_succ]; simp
      rw [this]; exact h3
    · intro w a1 a2
      rw [g2 w a1 a2, q_un (by omega), q_un (by omega), o1 w (by omega) (by omega)]
theorem q_efR {O L R : q_Cd} (hO : ¬ q_tkd O = 3) (hL : ∀ q ∈ L, q.1 = 3) (h : q_RS p R (L ++ O) (k + L.length) u) (hR : R.length + L.length < 600) (hl : (L ++ O).length ≤ 300) : ∃ u', pf_X12_endFactor s l u v = some ((), s, l, u', v) ∧ q_RS p (R ++ List.replicate L.length (7, 0)) O k u' ∧ q_Gu u u' := by
  have e : (L ++ O).length = L.length + O.length := by simp
  exact q_efL hO L R 1000 k u (by omega) hL h hR hl
theorem q_esL {O : q_Cd} (hO : ¬ q_tkd O = 6) : ∀ (L R : q_Cd) (f k : Nat) (u : Nat → Int32), L.length < f → (∀ q ∈ L, q.1 = 6) → q_RS p R (L ++ O) (k + L.length) u → R.length + L.length < 600 → (L ++ O).length ≤ 300 → ∃ u', pl_X12_endSeconds_0 1000 f s l u v = some ((), s, l, u', v) ∧ q_RS p (R ++ List.replicate L.length (11, 0)) O k u' ∧ q_Gu u u' := by
  intro L
  induction L with
  | nil =>
    intro R f k u hf hL h hR hl
    obtain ⟨f, rfl⟩ : ∃ f9, f = f9 + 1 := ⟨f - 1, by omega⟩
    have h' : q_RS p R O k u := h
    have hl' : O.length ≤ 300 := by simpa using hl
    refine ⟨u, ?_, by simpa using h', q_Gu0⟩
    rw [pl_X12_endSeconds_0, q_topR9 h' hl', q_b, if_neg hO]
  | cons q r ih =>
    intro R f k u hf hL h hR hl
    have e : (q :: r).length = r.length + 1 := rfl
    rw [e] at hf hR h
    obtain ⟨f, rfl⟩ : ∃ f9, f = f9 + 1 := ⟨f - 1, by omega⟩
    have h' : q_RS p R (q :: (r ++ O)) (k + (r.length + 1)) u := h
    have hl9 : (q :: (r ++ O)).length ≤ 300 := hl
    have el : (q :: (r ++ O)).length = (r ++ O).length + 1 := rfl
    obtain ⟨u1, e1, h1, o1⟩ := q_addR9 (s := s) (l := l) (v := v) h' (by omega) 11 0
    have h2 := q_RS_28 (q_RS_pop h1) (k + r.length)
    have u28 : u1 28 - 1 = Int32.ofNat (k + r.length) := by
      rw [h1.2.2.2.2.2, show k + (r.length + 1) = k + r.length + 1 by omega, q_ofs]
    obtain ⟨u2, e2, h3, g2⟩ := ih (R ++ [(11, 0)]) f k _ (by omega) (fun z hz => hL z (List.mem_cons_of_mem _ hz)) h2 (by simp; omega) (by omega)
    refine ⟨u2, ?_, ?_, ?_⟩
    · rw [pl_X12_endSeconds_0, q_topR9 h' hl9, q_b, if_pos (show q_tkd (q :: (r ++ O)) = 6 from hL q List.mem_cons_self), e1, q_b, u28, e2]
    · have : R ++ List.replicate (q :: r).length ((11, 0) : Int32 × Int32) = R ++ [(11, 0)] ++ List.replicate r.length (11, 0) := by
        rw [e, List.replicate_succ]; simp
      rw [this]; exact h3
    · intro w a1 a2
      rw [g2 w a1 a2, q_un (by omega), q_un (by omega), o1 w (by omega) (by omega)]
theorem q_esR {O L R : q_Cd} (hO : ¬ q_tkd O = 6) (hL : ∀ q ∈ L, q.1 = 6) (h : q_RS p R (L ++ O) (k + L.length) u) (hR : R.length + L.length < 600) (hl : (L ++ O).length ≤ 300) : ∃ u', pf_X12_endSeconds s l u v = some ((), s, l, u', v) ∧ q_RS p (R ++ List.replicate L.length (11, 0)) O k u' ∧ q_Gu u u' := by
  have e : (L ++ O).length = L.length + O.length := by simp
  exact q_esL hO L R 1000 k u (by omega) hL h hR hl
end QRE2

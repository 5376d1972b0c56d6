/-! PURE: the BENCH: signs behind a factor -/
section QRS3
variable {s x u s' x' u' x2 u2 : Nat → Int32} {l y v l' y' v' : Nat → Int64} {D E W : Int} {fu f k n m N p : Nat} {t : Int64} {a b d e r c : Int32}
def q_opk (q : Int32 × Int32) : Bool := q.1 == 3 || q.1 == 4 || q.1 == 5 || q.1 == 6
/-- how many of ( and - and ? are open -/
def q_ocn (O : q_Cd) : Nat := (O.filter q_opk).length
theorem q_ocn_ap {A B : q_Cd} : q_ocn (A ++ B) = q_ocn A + q_ocn B := by unfold q_ocn; simp
theorem q_ocn_all : ∀ (L : q_Cd), (∀ q ∈ L, q.1 = 3 ∨ q.1 = 4 ∨ q.1 = 5 ∨ q.1 = 6) → q_ocn L = L.length := by
  intro L
  induction L with
  | nil => intro _; rfl
  | cons q r ih =>
    intro h
    have e : q_opk q = true := by
      unfold q_opk
      rcases h q List.mem_cons_self with z | z | z | z <;> rw [z] <;> rfl
    have i := ih (fun z hz => h z (List.mem_cons_of_mem _ hz))
    unfold q_ocn at i ⊢
    rw [List.filter_cons_of_pos e]
    simp [i]
theorem q_ocn_none : ∀ (L : q_Cd), (∀ q ∈ L, q.1 = 1 ∨ q.1 = 2) → q_ocn L = 0 := by
  intro L
  induction L with
  | nil => intro _; rfl
  | cons q r ih =>
    intro h
    have e : ¬ q_opk q = true := by
      unfold q_opk
      rcases h q List.mem_cons_self with z | z <;> rw [z] <;> decide
    have i := ih (fun z hz => h z (List.mem_cons_of_mem _ hz))
    unfold q_ocn at i ⊢
    rw [List.filter_cons_of_neg e]
    exact i
/-- the beginning of a list, as long as something holds -/
theorem q_split (P : Int32 → Prop) [DecidablePred P] (h0 : ¬ P 0) : ∀ (O : q_Cd), ∃ L O', O = L ++ O' ∧ (∀ q ∈ L, P q.1) ∧ ¬ P (q_tkd O') := by
  intro O
  induction O with
  | nil => exact ⟨[], [], rfl, (fun _ h => by cases h), h0⟩
  | cons q r ih =>
    by_cases c : P q.1
    · obtain ⟨L, O', e, h1, h2⟩ := ih
      refine ⟨q :: L, O', by rw [e]; rfl, ?_, h2⟩
      intro z hz
      rcases List.mem_cons.mp hz with w | w
      · rw [w]; exact c
      · exact h1 z w
    · exact ⟨[], q :: r, rfl, (fun _ h => by cases h), c⟩
/-- closing: what is added and multiplied is written -/
theorem q_red1 {O R : q_Cd} (h : q_RS p R O k u) (hb : R.length + O.length ≤ 200) : ∃ L O' u', O = L ++ O' ∧ (∀ q ∈ L, q.1 = 1 ∨ q.1 = 2) ∧ ¬ (q_tkd O' = 1 ∨ q_tkd O' = 2) ∧ pf_X12_reduce 1 s l u v = some ((), s, l, u', v) ∧ q_RS p (R ++ q_opc L) O' k u' ∧ q_Gu u u' := by
  obtain ⟨L, O', e, h1, h2⟩ := q_split (fun w => w = 1 ∨ w = 2) (by decide) O
  have el : O.length = L.length + O'.length := by rw [e]; simp
  rw [e] at h
  obtain ⟨u', a1, a2, a3⟩ := q_redR (s := s) (l := l) (v := v) (a1 := 1) (fun z => h2 (Or.inr z)) (fun _ z => h2 (Or.inl z)) (fun q hq => (h1 q hq).elim (fun z => Or.inr ⟨rfl, z⟩) Or.inl) h (by omega) (by rw [← e]; omega)
  exact ⟨L, O', u', e, h1, h2, a1, a2, a3⟩
theorem q_end6 {O R : q_Cd} (h : q_RS p R O (q_ocn O) u) (hb : R.length + O.length ≤ 200) : ∃ L O' u', O = L ++ O' ∧ (∀ q ∈ L, q.1 = 6) ∧ ¬ q_tkd O' = 6 ∧ pf_X12_endSeconds s l u v = some ((), s, l, u', v) ∧ q_RS p (R ++ List.replicate L.length (11, 0)) O' (q_ocn O') u' ∧ q_Gu u u' := by
  obtain ⟨L, O', e, h1, h2⟩ := q_split (fun w => w = 6) (by decide) O
  have el : O.length = L.length + O'.length := by rw [e]; simp
  have ec : q_ocn O = q_ocn O' + L.length := by rw [e, q_ocn_ap, q_ocn_all L (fun q hq => Or.inr (Or.inr (Or.inr (h1 q hq))))]; omega
  rw [ec, e] at h
  obtain ⟨u', a1, a2, a3⟩ := q_esR (s := s) (l := l) (v := v) h2 h1 h (by omega) (by rw [← e]; omega)
  exact ⟨L, O', u', e, h1, h2, a1, a2, a3⟩
/-- a FAULT in the reference -/
def q_Ft (s : Nat → Int32) (l : Nat → Int64) (u : Nat → Int32) (v : Nat → Int64) (pf : Nat) (G : Option (Int32 × pj_Z)) : Prop := ∃ u', G = some (Int32.ofNat pf, s, l, u', v) ∧ q_Gu u u'
theorem q_Ft_m {pf : Nat} {a2 a3 : Int32} {f : Nat} (hf : 0 < f) (hu : u' 24 = Int32.ofNat pf) (hg : q_Gu u u') : q_Ft s l u v pf (pl_X12_readText_26 1000 f (-1) a2 a3 s l u' v) := by
  obtain ⟨f, rfl⟩ : ∃ f9, f = f9 + 1 := ⟨f - 1, by omega⟩
  exact ⟨u', q_faultR hu f, hg⟩
theorem q_Gu24 {p9 : Int32} : q_Gu u (pj_u u 24 p9) := fun w a1 a2 => q_un (by omega)
/-- signs that begin nothing -/
def q_Sp (c : Int32) : Prop := c = 42 ∨ c = 47 ∨ c = 43 ∨ c = 45 ∨ c = 60 ∨ c = 62 ∨ c = 126
theorem q_m3n {R O : q_Cd} {a2 a3 : Int32} (hN : N ≤ 200) (hs : s 1 = Int32.ofNat N) (hp : p ≤ N) (h : q_RS p R O (q_ocn O) u) (hb : R.length + O.length ≤ 200) (hf : 1 < f) (hc : ¬ q_Sp (q_chr s N (q_sk s N p))) (h63 : q_chr s N (q_sk s N p) = 63 → ∀ L O', O = L ++ O' → (∀ q ∈ L, q.1 = 1 ∨ q.1 = 2) → ¬ (q_tkd O' = 1 ∨ q_tkd O' = 2) → ¬ q_tkd O' = 7) (h9 : ∀ L L6 O', O = L ++ (L6 ++ O') → (∀ q ∈ L, q.1 = 1 ∨ q.1 = 2) → (∀ q ∈ L6, q.1 = 6) → ¬ q_tkd O' = 6 → ¬ (q_tkd O' = 1 ∨ q_tkd O' = 2) ∨ ¬ L6 = [] → (q_chr s N (q_sk s N p) = 58 → ¬ q_tkd O' = 5) ∧ (q_chr s N (q_sk s N p) = 41 → ¬ q_tkd O' = 4) ∧ (q_chr s N (q_sk s N p) = 59 ∨ q_chr s N (q_sk s N p) = -1 → ¬ q_tkd O' = 8)) : q_Ft s l u v (q_sk s N p) (pl_X12_readText_26 1000 f 3 a2 a3 s l u v) := by
  obtain ⟨f, rfl⟩ : ∃ f9, f = f9 + 1 := ⟨f - 1, by omega⟩
  have r := q_sk_r (s := s) hp
  rw [q_nxR hN hs hp h.1 (by decide) f]
  have h1 := q_RS_24 h (q_sk s N p)
  generalize hc9 : q_chr s N (q_sk s N p) = c at *
  generalize q_sk s N p = q at *
  have G0 : q_Gu u (pj_u u 24 (Int32.ofNat q)) := q_Gu24
  generalize hu1 : pj_u u 24 (Int32.ofNat q) = u1 at h1 G0 ⊢
  obtain ⟨L, O1, u2, e1, l1, t1, d1, h2, g2⟩ := q_red1 (s := s) (l := l) (v := v) h1 hb
  have eO : O.length = L.length + O1.length := by rw [e1]; simp
  have c1 : q_ocn O = q_ocn O1 := by rw [e1, q_ocn_ap, q_ocn_none L l1]; omega
  rw [c1] at h2
  have lo : (R ++ q_opc L).length = R.length + L.length := by simp [q_opc_l]
  obtain ⟨L6, O2, u3, e2, l2, t2, d2, h3, g3⟩ := q_end6 (s := s) (l := l) (v := v) h2 (by rw [lo]; omega)
  have hO2 : O2.length ≤ 300 := by
    have : O1.length = L6.length + O2.length := by rw [e2]; simp
    omega
  have g123 : q_Gu u u3 := q_Gu_t G0 (q_Gu_t g2 g3)
  have t12 : ¬ (q_tkd O2 = 1 ∨ q_tkd O2 = 2) ∨ ¬ L6 = [] := by
    by_cases z : L6 = []
    · left
      rw [z] at e2
      rw [← show O1 = O2 from e2]
      exact t1
    · exact Or.inr z
  obtain ⟨k58, k41, k59⟩ := h9 L L6 O2 (by rw [e1, e2]) l1 l2 t2 t12
  unfold pl_X12_readText_93 pl_X12_readText_331
  rw [if_neg (by decide), if_neg (by decide), if_neg (by decide)]
  have P : q_Ft s l u v q (pl_X12_readText_236 1000 (pl_X12_readText_26 1000 f) a2 a3 c s l u1 v) → (c = 59 ∨ c = -1) → q_Ft s l u v q (if c = 59 then pl_X12_readText_236 1000 (pl_X12_readText_26 1000 f) a2 a3 c s l u1 v else (if c = (-1) then pl_X12_readText_236 1000 (pl_X12_readText_26 1000 f) a2 a3 c s l u1 v else pj_b (pf_X12_takeSign c s l u1 v) (fun r3 s3 l3 x3 y3 => pl_X12_readText_26 1000 f r3 a2 a3 s3 l3 x3 y3))) := by
    intro z hz
    by_cases c59 : c = 59
    · rw [if_pos c59]; exact z
    · rw [if_neg c59, if_pos (hz.resolve_left c59)]; exact z
  by_cases ce : c = 59 ∨ c = -1
  · refine P ?_ ce
    unfold pl_X12_readText_236
    rw [d1, q_b, d2, q_b, q_topR9 h3 hO2, q_b, if_neg (k59 ce)]
    unfold pl_X12_readText_259 pl_X12_readText_331
    rw [if_neg (by decide)]
    exact q_Ft_m (by omega) h3.1 g123
  · rw [if_neg (fun z => ce (Or.inl z)), if_neg (fun z => ce (Or.inr z))]
    unfold q_Sp at hc
    have n42 : ¬ c = 42 := fun z => hc (by simp [z])
    have n47 : ¬ c = 47 := fun z => hc (by simp [z])
    have n43 : ¬ c = 43 := fun z => hc (by simp [z])
    have n45 : ¬ c = 45 := fun z => hc (by simp [z])
    have n60 : ¬ c = 60 := fun z => hc (by simp [z])
    have n62 : ¬ c = 62 := fun z => hc (by simp [z])
    have n126 : ¬ c = 126 := fun z => hc (by simp [z])
    unfold pf_X12_takeSign
    rw [if_neg n42, if_neg n47, d1, q_b, if_neg n43, if_neg n45, if_neg n60, if_neg n62, if_neg n126]
    by_cases c63 : c = 63
    · rw [if_pos c63, q_topR9 h2 (by omega), q_b, if_neg (h63 c63 L O1 e1 l1 t1), q_b]
      exact q_Ft_m (by omega) h2.1 (q_Gu_t G0 g2)
    · rw [if_neg c63, d2, q_b]
      have Z : q_Ft s l u v q (pj_b (pl_X12_takeSign_226 c s l u3 v) (fun r3 s3 l3 x3 y3 => pl_X12_readText_26 1000 f r3 a2 a3 s3 l3 x3 y3)) := by
        unfold pl_X12_takeSign_226
        by_cases c41 : c = 41
        · rw [if_pos c41, q_topR9 h3 hO2, q_b, if_neg (k41 c41), q_b]
          exact q_Ft_m (by omega) h3.1 g123
        · rw [if_neg c41, q_b]
          exact q_Ft_m (by omega) h3.1 g123
      by_cases c58 : c = 58
      · rw [if_pos c58, q_topR9 h3 hO2, q_b, if_neg (k58 c58)]
        exact Z
      · rw [if_neg c58]
        exact Z
end QRS3

/-! PURE: the BENCH: a FACTOR -/
section QFAC
variable {s x u s' x' u' x2 u2 : Nat → Int32} {l y v l' y' v' : Nat → Int64} {D E W : Int} {fu f k n m N p K : Nat} {t : Int64} {a b d e r c : Int32}
theorem q_uni {P : Int32 → Prop} : ∀ (A L B O : q_Cd), A ++ B = L ++ O → (∀ q ∈ A, P q.1) → (∀ q ∈ L, P q.1) → ¬ P (q_tkd B) → ¬ P (q_tkd O) → B = O := by
  intro A
  induction A with
  | nil =>
    intro L B O e hA hL hB hO
    cases L with
    | nil => exact e
    | cons q r =>
      have e' : B = q :: (r ++ O) := e
      rw [e'] at hB
      exact absurd (hL q List.mem_cons_self) hB
  | cons w z ih =>
    intro L B O e hA hL hB hO
    cases L with
    | nil =>
      have e' : w :: (z ++ B) = O := e
      rw [← e'] at hO
      exact absurd (hA w List.mem_cons_self) hO
    | cons q r =>
      have e' : w :: (z ++ B) = q :: (r ++ O) := e
      exact ih r B O (List.cons.inj e').2 (fun a ha => hA a (List.mem_cons_of_mem _ ha)) (fun a ha => hL a (List.mem_cons_of_mem _ ha)) hB hO
theorem q_top6 {S O : q_Cd} (hS : ∀ q ∈ S, q.1 = 6) (hO : ¬ (q_tkd O = 1 ∨ q_tkd O = 2)) : ¬ (q_tkd (S ++ O) = 1 ∨ q_tkd (S ++ O) = 2) := by
  cases S with
  | nil => exact hO
  | cons q r =>
    show ¬ (q.1 = 1 ∨ q.1 = 2)
    rw [hS q List.mem_cons_self]
    decide
theorem q_m3f {R P S O : q_Cd} {a2 a3 : Int32} (hN : N ≤ 200) (hs : s 1 = Int32.ofNat N) (hp : p ≤ N) (h : q_RS p R (P ++ (S ++ O)) (q_ocn (P ++ (S ++ O))) u) (hb : R.length + (P ++ (S ++ O)).length ≤ 200) (hf : 1 < f) (hP : ∀ q ∈ P, q.1 = 1 ∨ q.1 = 2) (hS : ∀ q ∈ S, q.1 = 6) (hO : ¬ (q_tkd O = 1 ∨ q_tkd O = 2)) (h6 : ¬ q_tkd O = 6 ∨ True) (hc : ¬ q_Sp (q_chr s N (q_sk s N p))) (h63 : q_chr s N (q_sk s N p) = 63 → ¬ q_tkd (S ++ O) = 7) (h9 : ∀ L6 O', S ++ O = L6 ++ O' → (∀ q ∈ L6, q.1 = 6) → ¬ q_tkd O' = 6 → (q_chr s N (q_sk s N p) = 58 → ¬ q_tkd O' = 5) ∧ (q_chr s N (q_sk s N p) = 41 → ¬ q_tkd O' = 4) ∧ (q_chr s N (q_sk s N p) = 59 ∨ q_chr s N (q_sk s N p) = -1 → ¬ q_tkd O' = 8)) : q_Ft s l u v (q_sk s N p) (pl_X12_readText_26 1000 f 3 a2 a3 s l u v) := by
  refine q_m3n hN hs hp h hb hf hc ?_ ?_
  · intro z L O' e h1 h2
    have := q_uni (P := fun w => w = 1 ∨ w = 2) P L (S ++ O) O' e hP h1 (q_top6 hS hO) h2
    rw [← this]
    exact h63 z
  · intro L L6 O' e h1 h2 h3 h4
    have t : ¬ (q_tkd (L6 ++ O') = 1 ∨ q_tkd (L6 ++ O') = 2) := by
      cases L6 with
      | nil =>
        rcases h4 with z | z
        · exact z
        · exact absurd rfl z
      | cons q r =>
        show ¬ (q.1 = 1 ∨ q.1 = 2)
        rw [h2 q List.mem_cons_self]
        decide
    have := q_uni (P := fun w => w = 1 ∨ w = 2) P L (S ++ O) (L6 ++ O') e hP h1 (q_top6 hS hO) t
    exact h9 L6 O' this h2 h3
/-- both give up at the same place -/
def q_Bad (s : Nat → Int32) (l : Nat → Int64) (x : Nat → Int32) (y : Nat → Int64) (u : Nat → Int32) (v : Nat → Int64) (F G : Option (Int32 × pj_Z)) : Prop := ∃ pf x', (pf ≤ 200 ∧ ∃ m : Nat, m ≤ 256 ∧ x' 25 = Int32.ofNat m) ∧ F = some (0, s, l, x', y) ∧ x' 26 = Int32.ofNat pf ∧ q_Gx x x' ∧ q_Ft s l u v pf G
def q_OkF (N : Nat) (s : Nat → Int32) (l : Nat → Int64) (x : Nat → Int32) (y : Nat → Int64) (u : Nat → Int32) (v : Nat → Int64) (a2 a3 : Int32) (p : Nat) (C R L O : q_Cd) (F G : Option (Int32 × pj_Z)) : Prop := ∃ (p' f' : Nat) (x' : Nat → Int32) (cs rs : q_Cd), F = some (1, s, l, x', y) ∧ q_CSt p' (C ++ cs) x' ∧ q_Gx x x' ∧ q_On s l u v a2 a3 f' 3 p' (R ++ rs ++ List.replicate L.length (7, 0)) O G ∧ q_SG C.length cs rs ∧ p < p' ∧ p' ≤ N ∧ cs.length ≤ p' - p ∧ rs.length ≤ p' - p ∧ N - p' + 1 < f'
def q_SFp (N : Nat) (s : Nat → Int32) (l y v : Nat → Int64) (g : Int32 → pj_F (Int32 × pj_Z)) (K : Nat) : Prop := ∀ (p f : Nat) (C R L O : q_Cd) (x u : Nat → Int32) (a2 a3 : Int32), q_CSt p C x → q_RS p R (L ++ O) K u → q_ocn (L ++ O) = K → (∀ q ∈ L, q.1 = 3) → ¬ q_tkd O = 3 → p ≤ N → C.length ≤ p → R.length + (L ++ O).length ≤ p → N - p + 1 < f → q_OkF N s l x y u v a2 a3 p C R L O (g (Int32.ofNat K) s l x y) (pl_X12_readText_26 1000 f 2 a2 a3 s l u v) ∨ q_Bad s l x y u v (g (Int32.ofNat K) s l x y) (pl_X12_readText_26 1000 f 2 a2 a3 s l u v)
def q_OkC (N : Nat) (s : Nat → Int32) (l : Nat → Int64) (x : Nat → Int32) (y : Nat → Int64) (u : Nat → Int32) (v : Nat → Int64) (a2 a3 : Int32) (p : Nat) (C R O : q_Cd) (F G : Option (Int32 × pj_Z)) : Prop := ∃ (pc pr f' : Nat) (x' : Nat → Int32) (cs r0 P S : q_Cd), F = some (1, s, l, x', y) ∧ q_CSt pc (C ++ cs) x' ∧ q_Gx x x' ∧ q_On s l u v a2 a3 f' 3 pr (R ++ r0) (P ++ (S ++ O)) G ∧ (∀ q ∈ P, q.1 = 1 ∨ q.1 = 2) ∧ (∀ q ∈ S, q.1 = 6) ∧ q_SG C.length cs (r0 ++ q_opc P ++ List.replicate S.length (11, 0)) ∧ (p < pr ∧ pr ≤ N ∧ pc ≤ N ∧ q_sk s N pc = q_sk s N pr) ∧ ¬ q_Sp (q_chr s N (q_sk s N pr)) ∧ cs.length ≤ pr - p ∧ r0.length + P.length + S.length ≤ pr - p ∧ N - pr + 1 < f'
def q_SCp (N : Nat) (s : Nat → Int32) (l y v : Nat → Int64) (g : Int32 → pj_F (Int32 × pj_Z)) (K : Nat) : Prop := ∀ (p f : Nat) (C R O : q_Cd) (x u : Nat → Int32) (a2 a3 : Int32), q_CSt p C x → q_RS p R O K u → q_ocn O = K → (q_tkd O = 4 ∨ q_tkd O = 5 ∨ q_tkd O = 6 ∨ q_tkd O = 8) → p ≤ N → C.length ≤ p → R.length + O.length ≤ p → N - p + 1 < f → q_OkC N s l x y u v a2 a3 p C R O (g (Int32.ofNat K) s l x y) (pl_X12_readText_26 1000 f 2 a2 a3 s l u v) ∨ q_Bad s l x y u v (g (Int32.ofNat K) s l x y) (pl_X12_readText_26 1000 f 2 a2 a3 s l u v)
-- numbers
def q_p10 : Nat → Int
  | 0 => 1
  | n + 1 => 10 * q_p10 n
theorem q_p10b {i : Nat} (h : i ≤ 5) : 1 ≤ q_p10 i ∧ q_p10 i ≤ 100000 := by
  have c : i = 0 ∨ i = 1 ∨ i = 2 ∨ i = 3 ∨ i = 4 ∨ i = 5 := by omega
  rcases c with z | z | z | z | z | z <;> subst z <;> decide
theorem q_numP (hN : N ≤ 200) (hs : s 1 = Int32.ofNat N) : ∀ (j i p f1 f2 : Nat) (a : Int32) (x u : Nat → Int32), i + j = 5 → j + 1 < f1 → j < f2 → p ≤ N → x 26 = Int32.ofNat p → u 24 = Int32.ofNat p → ∃ p' a', p ≤ p' ∧ p' ≤ N ∧ p' ≤ p + j ∧ (pl_X12_takeFactor_18 1000 f2 a (Int32.ofNat i) s l u v = pl_X12_takeFactor_90 1000 a' s l (pj_u u 24 (Int32.ofNat p')) v) ∧ ((pl_X0_readNumber_4 1000 f1 a (Int32.ofNat i) s l x y = some (a', s, l, pj_u x 26 (Int32.ofNat p'), y) ∧ (p' < N → s (1000 + p') < 48 ∨ 57 < s (1000 + p'))) ∨ (p' < N ∧ ¬ s (1000 + p') < 48 ∧ ¬ 57 < s (1000 + p') ∧ pl_X0_readNumber_4 1000 f1 a (Int32.ofNat i) s l x y = some (-1, s, l, pj_u x 26 (Int32.ofNat p'), y))) ∧ (0 < j → p < N → ¬ s (1000 + p) < 48 → ¬ 57 < s (1000 + p) → p < p') ∧ (0 ≤ a.toInt → a.toInt < q_p10 i → 0 ≤ a'.toInt) := by
  intro j
  induction j with
  | zero =>
    intro i p f1 f2 a x u hi h1 h2 hp hx hu
    have : i = 5 := by omega
    subst this
    obtain ⟨f1, rfl⟩ : ∃ f9, f1 = f9 + 1 := ⟨f1 - 1, by omega⟩
    obtain ⟨f2, rfl⟩ : ∃ f9, f2 = f9 + 1 := ⟨f2 - 1, by omega⟩
    refine ⟨p, a, Nat.le_refl _, hp, by omega, ?_, ?_, fun z => by omega, fun z _ => z⟩
    · rw [pl_X12_takeFactor_18, if_neg (by decide), q_uv hu]
    · rw [pl_X0_readNumber_4, if_pos (by decide)]
      by_cases c : p < N
      · have c1 : x 26 < s 1 := by rw [hx, hs, q_onlt (by omega) (by omega)]; omega
        have c2 : x 26 < 200 := by rw [hx, q_onltL (by omega) (by omega)]; omega
        rw [if_pos c1, if_pos c2, hx, q_g (by omega) (by omega), q_onC (by omega)]
        by_cases d1 : s (1000 + p) < 48
        · rw [if_pos d1, q_uv hx]
          exact Or.inl ⟨rfl, fun _ => Or.inl d1⟩
        · rw [if_neg d1, q_g (by omega) (by omega)]
          by_cases d2 : 57 < s (1000 + p)
          · rw [if_pos d2, q_uv hx]
            exact Or.inl ⟨rfl, fun _ => Or.inr d2⟩
          · rw [if_neg d2, if_pos (by decide), q_uv hx]
            exact Or.inr ⟨c, d1, d2, rfl⟩
      · have c1 : ¬ x 26 < s 1 := by rw [hx, hs, q_onlt (by omega) (by omega)]; omega
        rw [if_neg c1, q_uv hx]
        exact Or.inl ⟨rfl, fun z => absurd z c⟩
  | succ j ih =>
    intro i p f1 f2 a x u hi h1 h2 hp hx hu
    obtain ⟨f1, rfl⟩ : ∃ f9, f1 = f9 + 1 := ⟨f1 - 1, by omega⟩
    obtain ⟨f2, rfl⟩ : ∃ f9, f2 = f9 + 1 := ⟨f2 - 1, by omega⟩
    have i5 : Int32.ofNat i < 5 := by rw [q_onltL (by omega) (by omega)]; omega
    have i6 : Int32.ofNat i < 6 := by rw [q_onltL (by omega) (by omega)]; omega
    have ei : Int32.ofNat i + 1 = Int32.ofNat (i + 1) := q_onaL i 1
    have n6 : ¬ Int32.ofNat (i + 1) = 6 := by
      intro z
      have : (Int32.ofNat (i + 1)).toInt = 6 := by rw [z]; rfl
      rw [q_onI (by omega)] at this
      omega
    have ep : Int32.ofNat p + 1 = Int32.ofNat (p + 1) := q_onaL p 1
    rw [pl_X12_takeFactor_18, if_pos i5, pl_X0_readNumber_4, if_pos i6]
    by_cases c : p < N
    · have c1 : x 26 < s 1 := by rw [hx, hs, q_onlt (by omega) (by omega)]; omega
      have c2 : x 26 < 200 := by rw [hx, q_onltL (by omega) (by omega)]; omega
      have c3 : u 24 < s 1 := by rw [hu, hs, q_onlt (by omega) (by omega)]; omega
      have q1 : pf_X12_isIn ((s (1000 + p)).toInt64) 48 57 s l u v = some (if s (1000 + p) < 48 then 0 else if 57 < s (1000 + p) then 0 else 1, s, l, u, v) := q_isI (s (1000 + p)) 48 57
      rw [if_pos c1, if_pos c2, hx, q_g (by omega) (by omega), q_onC (by omega), if_pos c3, hu, q_g (by omega) (by omega), q_onC (by omega), q1, q_b]
      by_cases d1 : s (1000 + p) < 48
      · rw [if_pos d1, if_pos d1, if_pos rfl]
        exact ⟨p, a, Nat.le_refl _, hp, by omega, by rw [q_uv hu], Or.inl ⟨by rw [q_uv hx], fun _ => Or.inl d1⟩, fun _ _ z => absurd d1 z, fun z _ => z⟩
      · rw [if_neg d1, if_neg d1, q_g (by omega) (by omega)]
        by_cases d2 : 57 < s (1000 + p)
        · rw [if_pos d2, if_pos d2, if_pos rfl]
          exact ⟨p, a, Nat.le_refl _, hp, by omega, by rw [q_uv hu], Or.inl ⟨by rw [q_uv hx], fun _ => Or.inr d2⟩, fun _ _ _ z => absurd d2 z, fun z _ => z⟩
        · rw [if_neg d2, if_neg d2, if_neg q_n10, hu, q_g (by omega) (by omega), q_onC (by omega), ei, if_neg n6, q_g (by omega) (by omega), ep]
          obtain ⟨p', a', k1, k2, k3, k4, k5, -, k7⟩ := ih (i + 1) (p + 1) f1 f2 (10 * a + s (1000 + p) - 48) (pj_u x 26 (Int32.ofNat (p + 1))) (pj_u u 24 (Int32.ofNat (p + 1))) (by omega) (by omega) (by omega) (by omega) q_ua q_ua
          rw [q_uu] at k4 k5
          refine ⟨p', a', by omega, k2, by omega, k4, k5, fun _ _ _ _ => by omega, fun z1 z2 => ?_⟩
          have pb := q_p10b (i := i) (by omega)
          have pe : q_p10 (i + 1) = 10 * q_p10 i := rfl
          have o10 : (10 : Int32).toInt = 10 := rfl
          have o48 : (48 : Int32).toInt = 48 := rfl
          have o57 : (57 : Int32).toInt = 57 := rfl
          rw [Int32.lt_iff_toInt_lt] at d1 d2
          have m1 : (10 * a).toInt = 10 * a.toInt := by rw [q_mul (by rw [o10]; omega) (by rw [o10]; omega), o10]
          have m2 : (10 * a + s (1000 + p)).toInt = 10 * a.toInt + (s (1000 + p)).toInt := by rw [q_add (by rw [m1]; omega) (by rw [m1]; omega), m1]
          have m3 : (10 * a + s (1000 + p) - 48).toInt = 10 * a.toInt + (s (1000 + p)).toInt - 48 := by rw [q_sub (by rw [m2, o48]; omega) (by rw [m2, o48]; omega), m2, o48]
          exact k7 (by rw [m3]; omega) (by rw [m3, pe]; omega)
    · have c1 : ¬ x 26 < s 1 := by rw [hx, hs, q_onlt (by omega) (by omega)]; omega
      have c3 : ¬ u 24 < s 1 := by rw [hu, hs, q_onlt (by omega) (by omega)]; omega
      rw [if_neg c1, if_neg c3]
      exact ⟨p, a, Nat.le_refl _, hp, by omega, by rw [q_uv hu], Or.inl ⟨by rw [q_uv hx], fun z => absurd z c⟩, fun _ z => absurd z c, fun z _ => z⟩
theorem q_inpE : ∀ i : Nat, i < 127 → (Int32.ofNat i < 97 ∨ 100 < Int32.ofNat i) → pj_sidx 1 (pj_i2c (Int32.ofNat i)) = (if Int32.ofNat i = 107 then 5 else if Int32.ofNat i = 108 then 3 else if Int32.ofNat i = 109 then 6 else if Int32.ofNat i = 110 then 7 else if Int32.ofNat i = 112 then 1 else if Int32.ofNat i = 115 then 0 else if Int32.ofNat i = 116 then 2 else if Int32.ofNat i = 118 then 4 else (-1)) := by decide +kernel
theorem q_inpR (c : Int32) : pf_X12_inputOf c s l u v = some ((if c = 107 then 5 else if c = 108 then 3 else if c = 109 then 6 else if c = 110 then 7 else if c = 112 then 1 else if c = 115 then 0 else if c = 116 then 2 else if c = 118 then 4 else (-1)), s, l, u, v) := by
  unfold pf_X12_inputOf
  by_cases c1 : c = 107
  · rw [if_pos c1, if_pos c1]
  rw [if_neg c1, if_neg c1]
  by_cases c2 : c = 108
  · rw [if_pos c2, if_pos c2]
  rw [if_neg c2, if_neg c2]
  by_cases c3 : c = 109
  · rw [if_pos c3, if_pos c3]
  rw [if_neg c3, if_neg c3]
  by_cases c4 : c = 110
  · rw [if_pos c4, if_pos c4]
  rw [if_neg c4, if_neg c4]
  by_cases c11 : c = 111
  · rw [if_pos c11, if_neg (by rw [c11]; decide), if_neg (by rw [c11]; decide), if_neg (by rw [c11]; decide), if_neg (by rw [c11]; decide)]
  rw [if_neg c11]
  by_cases c5 : c = 112
  · rw [if_pos c5, if_pos c5]
  rw [if_neg c5, if_neg c5]
  by_cases c13 : c = 113
  · rw [if_pos c13, if_neg (by rw [c13]; decide), if_neg (by rw [c13]; decide), if_neg (by rw [c13]; decide)]
  rw [if_neg c13]
  by_cases c14 : c = 114
  · rw [if_pos c14, if_neg (by rw [c14]; decide), if_neg (by rw [c14]; decide), if_neg (by rw [c14]; decide)]
  rw [if_neg c14]
  by_cases c6 : c = 115
  · rw [if_pos c6, if_pos c6]
  rw [if_neg c6, if_neg c6]
  by_cases c7 : c = 116
  · rw [if_pos c7, if_pos c7]
  rw [if_neg c7, if_neg c7]
  by_cases c17 : c = 117
  · rw [if_pos c17, if_neg (by rw [c17]; decide)]
  rw [if_neg c17]
  by_cases c8 : c = 118
  · rw [if_pos c8, if_pos c8]
  rw [if_neg c8, if_neg c8]
end QFAC

/-! PURE: the BENCH: the two machines run lists -/
section QBF
variable {s x u s' x' u' x2 u2 : Nat → Int32} {l y v l' y' v' : Nat → Int64} {D E W : Int} {fu f k n m : Nat} {t : Int64} {a b d e p r c : Int32} {ip : Nat → Int32}
def q_stk (B : Nat) : List Int32 → (Nat → Int32) → Prop
  | [], _ => True
  | a :: r, x => x (B + r.length) = a ∧ q_stk B r x
theorem q_stk_c {B : Nat} : ∀ (st : List Int32), (∀ w, B ≤ w → w < B + st.length → x' w = x w) → q_stk B st x → q_stk B st x' := by
  intro st
  induction st with
  | nil => intro _ _; trivial
  | cons a r ih =>
    intro h hs
    have e : (a :: r).length = r.length + 1 := rfl
    exact ⟨by rw [h _ (by omega) (by omega)]; exact hs.1, ih (fun w h1 h2 => h w h1 (by omega)) hs.2⟩
def q_cdA (bo bn : Nat) (x : Nat → Int32) : q_Cd → Nat → Prop
  | [], _ => True
  | q :: r, i => x (bo + i) = q.1 ∧ x (bn + i) = q.2 ∧ q_cdA bo bn x r (i + 1)
theorem q_cdA_c {bo bn : Nat} : ∀ (C : q_Cd) (i : Nat), (∀ w, (bo + i ≤ w ∧ w < bo + i + C.length) ∨ (bn + i ≤ w ∧ w < bn + i + C.length) → x' w = x w) → q_cdA bo bn x C i → q_cdA bo bn x' C i := by
  intro C
  induction C with
  | nil => intro _ _ _; trivial
  | cons q r ih =>
    intro i h hs
    have e : (q :: r).length = r.length + 1 := rfl
    exact ⟨by rw [h _ (by omega)]; exact hs.1, by rw [h _ (by omega)]; exact hs.2.1, ih (i + 1) (fun w hw => h w (by omega)) hs.2.2⟩
theorem q_cdA_ap {bo bn : Nat} : ∀ (C1 C2 : q_Cd) (i : Nat), q_cdA bo bn x (C1 ++ C2) i ↔ q_cdA bo bn x C1 i ∧ q_cdA bo bn x C2 (i + C1.length) := by
  intro C1
  induction C1 with
  | nil => intro C2 i; show q_cdA bo bn x C2 i ↔ True ∧ q_cdA bo bn x C2 (i + 0); simp
  | cons q r ih =>
    intro C2 i
    have e : i + (q :: r).length = i + 1 + r.length := by simp; omega
    show (x (bo + i) = q.1 ∧ x (bn + i) = q.2 ∧ q_cdA bo bn x (r ++ C2) (i + 1)) ↔ (x (bo + i) = q.1 ∧ x (bn + i) = q.2 ∧ q_cdA bo bn x r (i + 1)) ∧ q_cdA bo bn x C2 (i + (q :: r).length)
    rw [ih, e]
    constructor
    · rintro ⟨h1, h2, h3, h4⟩; exact ⟨⟨h1, h2, h3⟩, h4⟩
    · rintro ⟨⟨h1, h2, h3⟩, h4⟩; exact ⟨h1, h2, h3, h4⟩
theorem q_reckon (w b a : Int32) : pf_X0_reckon w b a s l x y = some (q_rk w b a, s, l, x, y) := by
  unfold pf_X0_reckon q_rk
  by_cases c1 : w = 42
  · rw [if_pos c1, if_pos c1]
  rw [if_neg c1, if_neg c1]
  by_cases c2 : w = 43
  · rw [if_pos c2, if_pos c2]
  rw [if_neg c2, if_neg c2]
  by_cases c3 : w = 45
  · rw [if_pos c3, if_pos c3]
  rw [if_neg c3, if_neg c3]
  by_cases c4 : w = 47
  · rw [if_pos c4, if_pos c4]
    by_cases z : a = 0
    · rw [if_pos z, if_pos z]
    · rw [if_neg z, if_neg z]
      unfold pj_d
      rw [if_neg z]
  rw [if_neg c4, if_neg c4]
  by_cases c5 : w = 60
  · rw [if_pos c5, if_pos c5]
    split <;> rfl
  rw [if_neg c5, if_neg c5]
  by_cases c6 : w = 62
  · rw [if_pos c6, if_pos c6]
    split <;> rfl
  rw [if_neg c6, if_neg c6]
  split <;> rfl
theorem q_joinR {w b a : Int32} (hw : ¬ w = 7) : pf_X12_join w b a s l u v = some (q_jn w b a, s, l, u, v) := by
  unfold pf_X12_join q_jn
  by_cases c1 : w = 3
  · rw [if_pos c1, if_pos c1]
  rw [if_neg c1, if_neg c1]
  by_cases c2 : w = 4
  · rw [if_pos c2, if_pos c2]
  rw [if_neg c2, if_neg c2]
  by_cases c3 : w = 5
  · rw [if_pos c3, if_pos c3]
  rw [if_neg c3, if_neg c3]
  by_cases c4 : w = 6
  · rw [if_pos c4, if_pos c4]
    by_cases z : a = 0
    · rw [if_pos z, if_pos z]
    · rw [if_neg z, if_neg z]
      unfold pj_d
      rw [if_neg z]
  rw [if_neg c4, if_neg c4, if_neg hw]
  by_cases c5 : w = 8
  · rw [if_pos c5, if_pos c5]
    split <;> rfl
  rw [if_neg c5, if_neg c5]
  by_cases c6 : w = 9
  · rw [if_pos c6, if_pos c6]
    split <;> rfl
  rw [if_neg c6, if_neg c6]
  split <;> rfl
theorem q_ofs {n : Nat} : Int32.ofNat (n + 1) - 1 = Int32.ofNat n := by
  rw [← show Int32.ofNat n + 1 = Int32.ofNat (n + 1) from q_onaL n 1, Int32.add_sub_cancel]
theorem q_ofm {n : Nat} : Int32.ofNat (n + 1) + (-1) = Int32.ofNat n := by
  rw [← show Int32.ofNat n + 1 = Int32.ofNat (n + 1) from q_onaL n 1, Int32.add_assoc, show (1 : Int32) + (-1) = 0 from rfl, Int32.add_zero]
/-- a step of the class's, as the class does it -/
theorem q_ds {st st' : List Int32} {w n : Int32} (h : q_cs ip w n st s = some (st', s')) (hs : q_stk 14000 st x) (hl : st.length < 256) (hi : ∀ i, i < 8 → x (13000 + i) = ip i) : ∃ x', pf_X0_doStep w n (Int32.ofNat st.length) s l x y = some (Int32.ofNat st'.length, s', l, x', y) ∧ q_stk 14000 st' x' ∧ st'.length ≤ st.length + 1 ∧ ∀ w, w < 14000 ∨ 14256 ≤ w → x' w = x w := by
  have n0 : ¬ Int32.ofNat st.length < 0 := q_onnn (by omega)
  have n1 : Int32.ofNat st.length < 256 := by rw [q_onltL (by omega) (by omega)]; omega
  have ej : Int32.ofNat st.length + 1 = Int32.ofNat (st.length + 1) := q_onaL _ 1
  have push : ∀ a : Int32, ∃ x', some (Int32.ofNat (st.length + 1), s, l, pj_u x (14000 + st.length) a, y) = some (Int32.ofNat (a :: st).length, s, l, x', y) ∧ q_stk 14000 (a :: st) x' ∧ (a :: st).length ≤ st.length + 1 ∧ ∀ w, w < 14000 ∨ 14256 ≤ w → x' w = x w := by
    intro a
    refine ⟨pj_u x (14000 + st.length) a, rfl, ⟨q_ua, q_stk_c st (fun w _ h2 => q_un (by omega)) hs⟩, Nat.le_refl _, fun w hw => q_un (by omega)⟩
  unfold q_cs at h
  unfold pf_X0_doStep
  rw [if_neg n0, if_pos n1]
  by_cases c0 : w = 0
  · rw [if_pos c0] at h
    cases h
    rw [if_pos c0, q_g hl (by omega), q_onC (by omega), ej]
    exact push n
  rw [if_neg c0] at h
  rw [if_neg c0]
  by_cases c1 : w = 1
  · rw [if_pos c1] at h
    by_cases d1 : n < 0
    · rw [if_pos d1] at h; cases h
    · rw [if_neg d1] at h
      by_cases d2 : n < 4
      · rw [if_pos d2] at h
        cases h
        obtain ⟨i, hi4, rfl⟩ := q_inN (n := 4) d1 d2 (by omega)
        rw [if_pos c1, if_neg d1, if_pos d2, q_g hi4 (by omega)]
        unfold pl_X0_doStep_91
        rw [q_g hl (by omega), q_onC (show st.length < 2147483648 by omega), ej]
        exact push _
      · rw [if_neg d2] at h; cases h
  rw [if_neg c1] at h
  rw [if_neg c1]
  by_cases c2 : w = 2
  · rw [if_pos c2] at h
    by_cases d1 : n < 0
    · rw [if_pos d1] at h; cases h
    · rw [if_neg d1] at h
      by_cases d2 : n < 8
      · rw [if_pos d2] at h
        cases h
        obtain ⟨i, hi8, rfl⟩ := q_inN (n := 8) d1 d2 (by omega)
        rw [if_pos c2, if_neg d1, if_pos d2, q_g hi8 (by omega)]
        unfold pl_X0_doStep_121
        rw [q_g hl (by omega), q_onC (show st.length < 2147483648 by omega), ej, q_onC (show i < 2147483648 by omega), hi i hi8]
        exact push _
      · rw [if_neg d2] at h; cases h
  rw [if_neg c2] at h
  rw [if_neg c2]
  by_cases c6 : w = 6
  · rw [if_pos c6] at h
    cases h
    rw [if_neg (by rw [c6]; decide), if_neg (by rw [c6]; decide), if_neg (by rw [c6]; decide), if_pos c6]
    exact ⟨x, rfl, hs, by omega, fun _ _ => rfl⟩
  rw [if_neg c6] at h
  cases st with
  | nil => cases h
  | cons a r =>
    have e : (a :: r).length = r.length + 1 := rfl
    rw [e] at hl n0 n1 ej ⊢
    have g1 : ¬ Int32.ofNat (r.length + 1) < 1 := by
      rw [Int32.lt_iff_toInt_lt, q_onI (by omega)]
      have o : (1 : Int32).toInt = 1 := rfl
      omega
    have T : (if w = 3 then (if Int32.ofNat (r.length + 1) < 1 then some (Int32.ofNat (r.length + 1), s, l, x, y) else pj_b (pf_X0_takeTop w n (Int32.ofNat (r.length + 1) - 1) s l x y) (fun r1 s1 l1 x1 y1 => some (r1, s1, l1, x1, y1))) else if w = 4 then (if Int32.ofNat (r.length + 1) < 1 then some (Int32.ofNat (r.length + 1), s, l, x, y) else pj_b (pf_X0_takeTop w n (Int32.ofNat (r.length + 1) - 1) s l x y) (fun r2 s2 l2 x2 y2 => some (r2, s2, l2, x2, y2))) else if w = 5 then (if Int32.ofNat (r.length + 1) < 1 then some (Int32.ofNat (r.length + 1), s, l, x, y) else pj_b (pf_X0_takeTop w n (Int32.ofNat (r.length + 1) - 1) s l x y) (fun r3 s3 l3 x3 y3 => some (r3, s3, l3, x3, y3))) else if w = 6 then some (Int32.ofNat (r.length + 1), s, l, x, y) else (if Int32.ofNat (r.length + 1) < 1 then some (Int32.ofNat (r.length + 1), s, l, x, y) else pj_b (pf_X0_takeTop w n (Int32.ofNat (r.length + 1) - 1) s l x y) (fun r4 s4 l4 x4 y4 => some (r4, s4, l4, x4, y4)))) = pf_X0_takeTop w n (Int32.ofNat r.length) s l x y := by
      simp only [q_bI, if_neg g1, q_ofs, if_neg c6, ite_self]
    rw [T]
    have m0 : ¬ Int32.ofNat r.length < 0 := q_onnn (by omega)
    have m1 : Int32.ofNat r.length < 256 := by rw [q_onltL (by omega) (by omega)]; omega
    obtain ⟨ha, hr⟩ := hs
    unfold pf_X0_takeTop
    rw [if_neg m0, if_pos m1]
    have h' := h
    dsimp only at h'
    by_cases c5 : w = 5
    · rw [if_pos c5] at h'
      have hh := Option.some.inj h'
      rw [← show _ = st' from congrArg Prod.fst hh, ← show _ = s' from congrArg Prod.snd hh, if_pos c5]
      exact ⟨x, rfl, hr, by show r.length ≤ r.length + 1 + 1; omega, fun _ _ => rfl⟩
    rw [if_neg c5] at h'
    rw [if_neg c5]
    by_cases c4 : w = 4
    · rw [if_pos c4] at h'
      by_cases d1 : n < 0
      · rw [if_pos d1] at h'; cases h'
      · rw [if_neg d1] at h'
        by_cases d2 : n < 4
        · rw [if_pos d2] at h'
          have hh := Option.some.inj h'
          rw [← show _ = st' from congrArg Prod.fst hh, ← show _ = s' from congrArg Prod.snd hh]
          clear h h' hh
          obtain ⟨i, hi4, rfl⟩ := q_inN (n := 4) d1 d2 (by omega)
          rw [if_pos c4, if_neg d1, if_pos d2, q_g (by omega) (by omega), q_g hi4 (by omega), q_onC (show r.length < 2147483648 by omega), ha]
          exact ⟨x, rfl, hr, by show r.length ≤ r.length + 1 + 1; omega, fun _ _ => rfl⟩
        · rw [if_neg d2] at h'; cases h'
    rw [if_neg c4] at h'
    rw [if_neg c4]
    by_cases c3 : w = 3
    · rw [if_pos c3] at h'
      have hh := Option.some.inj h'
      rw [← show _ = st' from congrArg Prod.fst hh, ← show _ = s' from congrArg Prod.snd hh, if_pos c3, q_g (by omega) (by omega), q_g (by omega) (by omega), q_onC (by omega), ha, show Int32.ofNat r.length + 1 = Int32.ofNat (r.length + 1) from q_onaL _ 1]
      exact ⟨_, rfl, ⟨q_ua, q_stk_c r (fun w _ h2 => q_un (by omega)) hr⟩, by simp, fun w hw => q_un (by omega)⟩
    rw [if_neg c3] at h'
    rw [if_neg c3]
    cases r with
    | nil => cases h'
    | cons b q =>
      have e2 : (b :: q).length = q.length + 1 := rfl
      rw [e2] at hl m0 m1 ha ⊢
      have gp : 0 < Int32.ofNat (q.length + 1) := by
        rw [Int32.lt_iff_toInt_lt, q_onI (by omega)]
        have o : (0 : Int32).toInt = 0 := rfl
        omega
      have hh := Option.some.inj h'
      rw [← show _ = st' from congrArg Prod.fst hh, ← show _ = s' from congrArg Prod.snd hh]
      obtain ⟨hb, hq⟩ := hr
      rw [if_pos gp, q_ofs, q_g (by omega) (by omega), q_g (by omega) (by omega), q_onC (show q.length < 2147483648 by omega), q_onC (show q.length + 1 < 2147483648 by omega), ha, hb, q_reckon, q_b, q_g (by omega) (by omega)]
      exact ⟨_, rfl, ⟨q_ua, q_stk_c q (fun w _ h2 => q_un (by omega)) hq⟩, by simp, fun w hw => q_un (by omega)⟩
theorem q_ltc {z : Int32} {i : Nat} (hi : i < 2147483648) : Int32.ofNat i < z ↔ i < z.toNatClampNeg := by
  rw [Int32.lt_iff_toInt_lt, q_onI hi]
  have e : z.toNatClampNeg = z.toInt.toNat := rfl
  rw [e]
  omega
theorem q_spB {w : Int32} {st : List Int32} (hl : st.length < 256) (hs : q_stk 14000 st x) {A : Option (Unit × pj_Z)} {B : Option (Unit × pj_Z)} : (if w = 6 then A else (if w = 5 then (if 0 < Int32.ofNat st.length then pj_g (Int32.ofNat st.length - 1) 256 ((if x (14000 + (Int32.ofNat st.length - 1).toNatClampNeg) = 0 then A else B)) else B) else B)) = if q_sp9 w st = true then A else B := by
  unfold q_sp9
  by_cases c6 : w = 6
  · rw [if_pos c6, if_pos c6]; rfl
  rw [if_neg c6, if_neg c6]
  by_cases c5 : w = 5
  · rw [if_pos c5, if_pos c5]
    cases st with
    | nil =>
      have n : ¬ 0 < Int32.ofNat ([] : List Int32).length := by decide
      rw [if_neg n]
      rfl
    | cons a r =>
      have e : (a :: r).length = r.length + 1 := rfl
      rw [e] at hl ⊢
      have gp : 0 < Int32.ofNat (r.length + 1) := by
        rw [Int32.lt_iff_toInt_lt, q_onI (by omega)]
        have o : (0 : Int32).toInt = 0 := rfl
        omega
      rw [if_pos gp, q_ofs, q_g (by omega) (by omega), q_onC (by omega), hs.1]
      by_cases z : a = 0
      · rw [if_pos z, if_pos (show decide (a = 0) = true by simp [z])]
      · rw [if_neg z, if_neg (show ¬ decide (a = 0) = true by simp [z])]
  · rw [if_neg c5, if_neg c5]
    rfl
theorem q_flw {N : Nat} (hN : N ≤ 256) : ∀ (C : q_Cd) (i nx' : Nat) (z : Int32) (st st' : List Int32) (s s' x : Nat → Int32) (f : Nat), i + C.length = N → C.length < f → q_cdA 11000 11256 x C i → x 24 = Int32.ofNat N → q_stk 14000 st x → st.length ≤ i → (∀ i, i < 8 → x (13000 + i) = ip i) → q_cr ip C i z.toNatClampNeg st s = some (nx', st', s') → ∃ x', pl_X0_followProgram_6 1000 f (Int32.ofNat st.length) z (Int32.ofNat i) s l x y = some ((), s', l, x', y) ∧ ∀ w, w < 14000 ∨ 14256 ≤ w → x' w = x w := by
  intro C
  induction C with
  | nil =>
    intro i nx' z st st' s s' x f hi hf hc h24 hs hl hin h
    obtain ⟨f, rfl⟩ : ∃ f9, f = f9 + 1 := ⟨f - 1, by simp at hf; omega⟩
    have e : i = N := by simpa using hi
    subst e
    have n : ¬ Int32.ofNat i < x 24 := by rw [h24, q_onlt (by omega) (by omega)]; omega
    cases h
    exact ⟨x, by rw [pl_X0_followProgram_6, if_neg n], fun _ _ => rfl⟩
  | cons q r ih =>
    intro i nx' z st st' s s' x f hi hf hc h24 hs hl hin h
    have e : (q :: r).length = r.length + 1 := rfl
    rw [e] at hi hf
    obtain ⟨f, rfl⟩ : ∃ f9, f = f9 + 1 := ⟨f - 1, by omega⟩
    have c1 : Int32.ofNat i < x 24 := by rw [h24, q_onlt (by omega) (by omega)]; omega
    have c2 : Int32.ofNat i < 256 := by rw [q_onltL (by omega) (by omega)]; omega
    have ej : Int32.ofNat i + 1 = Int32.ofNat (i + 1) := q_onaL i 1
    obtain ⟨h1, h2, h3⟩ := hc
    rw [q_cr_c] at h
    rw [pl_X0_followProgram_6, if_pos c1, if_pos c2]
    by_cases c : i < z.toNatClampNeg
    · rw [if_pos c] at h
      rw [if_pos ((q_ltc (by omega)).mpr c)]
      unfold pl_X0_followProgram_105
      rw [ej]
      exact ih (i + 1) nx' z st st' s s' x f (by omega) (by omega) h3 h24 hs (by omega) hin h
    · rw [if_neg c] at h
      rw [if_neg (fun w => c ((q_ltc (by omega)).mp w)), q_g (by omega) (by omega), q_g (by omega) (by omega), q_onC (by omega), h1, h2]
      unfold pl_X0_followProgram_74 pl_X0_followProgram_78
      rw [q_spB (by omega) hs]
      cases hz : q_cs ip q.1 q.2 st s with
      | none => rw [hz] at h; cases h
      | some w =>
        obtain ⟨w1, w2⟩ := w
        rw [hz] at h
        have h' : q_cr ip r (i + 1) (if q_sp9 q.1 st = true then q.2.toNatClampNeg else i + 1) w1 w2 = some (nx', st', s') := h
        obtain ⟨x1, d1, d2, d3, d4⟩ := q_ds (l := l) (y := y) hz hs (by omega) hin
        have fin : ∀ z1 : Int32, z1.toNatClampNeg = (if q_sp9 q.1 st = true then q.2.toNatClampNeg else i + 1) → ∃ x', pl_X0_followProgram_94 1000 (pl_X0_followProgram_6 1000 f) (Int32.ofNat st.length) (Int32.ofNat i) q.1 q.2 z1 s l x y = some ((), s', l, x', y) ∧ ∀ w, w < 14000 ∨ 14256 ≤ w → x' w = x w := by
          intro z1 hz1
          unfold pl_X0_followProgram_94 pl_X0_followProgram_105
          rw [d1, q_b, ej]
          obtain ⟨x', e1, e2⟩ := ih (i + 1) nx' z1 w1 st' w2 s' x1 f (by omega) (by omega) (q_cdA_c r (i + 1) (fun w hw => d4 w (by omega)) h3) (by rw [d4 24 (by omega)]; exact h24) d2 (by omega) (fun j hj => by rw [d4 _ (by omega)]; exact hin j hj) (by rw [hz1]; exact h')
          exact ⟨x', e1, fun w hw => by rw [e2 w hw, d4 w hw]⟩
        unfold pl_X0_followProgram_79
        by_cases sk : q_sp9 q.1 st = true
        · rw [if_pos sk, if_neg q_n10]
          exact fin q.2 (by rw [if_pos sk])
        · rw [if_neg sk, if_pos rfl, ej]
          exact fin _ (by rw [if_neg sk, q_onC (by omega)])
end QBF

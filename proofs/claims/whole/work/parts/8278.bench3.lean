/-! PURE: the BENCH: the reference's machine -/
section QBG
variable {s x u s' x' u' x2 u2 : Nat → Int32} {l y v l' y' v' : Nat → Int64} {D E W : Int} {fu f k n m : Nat} {t : Int64} {a b d e p r c : Int32} {ip : Nat → Int32}
/-- one step of it -/
theorem q_wst {N : Nat} (hN : N ≤ 290) {q : Int32 × Int32} {i : Nat} {st st' : List Int32} {s s' s0 u : Nat → Int32} {f : Nat} (hi : i < N) (h1 : u (13000 + i) = q.1) (h2 : u (14000 + i) = q.2) (h25 : u 25 = Int32.ofNat N) (hs : q_stk 19000 st u) (hl : st.length ≤ i) (hin : ∀ (s2 u2 : Nat → Int32) (i : Nat), (∀ w, w < 2000 ∨ 2004 ≤ w → s2 w = s0 w) → i < 8 → pf_X12_input (Int32.ofNat i) s2 l u2 v = some (ip i, s2, l, u2, v)) (ho : ∀ w, w < 2000 ∨ 2004 ≤ w → s w = s0 w) (h : q_rst ip q.1 q.2 st s = some (st', s')) : ∃ u', pl_X12_work_4 1000 (f + 1) (Int32.ofNat st.length) (Int32.ofNat i) s l u v = pl_X12_work_4 1000 f (Int32.ofNat st'.length) (Int32.ofNat (i + 1)) s' l u' v ∧ q_stk 19000 st' u' ∧ st'.length ≤ st.length + 1 ∧ (∀ w, w < 19000 ∨ 19300 ≤ w → u' w = u w) ∧ ∀ w, w < 2000 ∨ 2004 ≤ w → s' w = s0 w := by
  obtain ⟨w, n⟩ := q
  have c1 : Int32.ofNat i < u 25 := by rw [h25, q_onlt (by omega) (by omega)]; omega
  have ej : Int32.ofNat i + 1 = Int32.ofNat (i + 1) := q_onaL i 1
  have el : Int32.ofNat st.length + 1 = Int32.ofNat (st.length + 1) := q_onaL _ 1
  have h1' : u (13000 + i) = w := h1
  have h2' : u (14000 + i) = n := h2
  have gi : ∀ {A : Type} (K : Option A), pj_g (Int32.ofNat i) 600 K = K := fun K => q_g (by omega) (by omega)
  rw [pl_X12_work_4, if_pos c1, gi, q_onC (show i < 2147483648 by omega), h1', h2']
  unfold q_rst at h
  dsimp only at h
  -- a number is put on the stack
  have push : ∀ a : Int32, ∃ u', pl_X12_work_71 1000 (pl_X12_work_4 1000 f) (Int32.ofNat st.length) (Int32.ofNat i) (Int32.ofNat st.length) a s l u v = pl_X12_work_4 1000 f (Int32.ofNat (a :: st).length) (Int32.ofNat (i + 1)) s l u' v ∧ q_stk 19000 (a :: st) u' ∧ (a :: st).length ≤ st.length + 1 ∧ (∀ w, w < 19000 ∨ 19300 ≤ w → u' w = u w) ∧ ∀ w, w < 2000 ∨ 2004 ≤ w → s w = s0 w := by
    intro a
    unfold pl_X12_work_71 pl_X12_work_211
    rw [q_g (by omega) (by omega), q_onC (by omega), el, ej]
    exact ⟨_, rfl, ⟨q_ua, q_stk_c st (fun w _ h2 => q_un (by omega)) hs⟩, Nat.le_refl _, fun w hw => q_un (by omega), ho⟩
  by_cases c0 : w = 0
  · rw [if_pos c0] at h
    cases h
    rw [if_pos (by rw [c0]; decide), if_pos c0, gi]
    exact push n
  rw [if_neg c0] at h
  by_cases c1' : w = 1
  · rw [if_pos c1'] at h
    by_cases d1 : n < 0
    · rw [if_pos d1] at h; cases h
    · rw [if_neg d1] at h
      by_cases d2 : n < 8
      · rw [if_pos d2] at h
        cases h
        obtain ⟨j, hj, rfl⟩ := q_inN (n := 8) d1 d2 (by omega)
        rw [if_pos (by rw [c1']; decide), if_neg c0, if_pos c1', gi, hin s u j ho hj, q_b, q_onC (by omega)]
        exact push _
      · rw [if_neg d2] at h; cases h
  rw [if_neg c1'] at h
  by_cases c2 : w = 2
  · rw [if_pos c2] at h
    by_cases d1 : n < 0
    · rw [if_pos d1] at h; cases h
    · rw [if_neg d1] at h
      by_cases d2 : n < 4
      · rw [if_pos d2] at h
        cases h
        obtain ⟨j, hj, rfl⟩ := q_inN (n := 4) d1 d2 (by omega)
        rw [if_pos (by rw [c2]; decide), if_neg c0, if_neg c1', gi, q_g hj (by omega), q_onC (by omega)]
        exact push _
      · rw [if_neg d2] at h; cases h
  rw [if_neg c2] at h
  by_cases c3 : w < 3
  · rw [if_pos c3] at h; cases h
  rw [if_neg c3] at h
  rw [if_neg c3]
  cases st with
  | nil => cases h
  | cons a r =>
    dsimp only at h
    have e : (a :: r).length = r.length + 1 := rfl
    rw [e] at hl el ⊢
    obtain ⟨ha, hr⟩ := hs
    rw [q_ofs, q_ofm, q_onC (show r.length < 2147483648 by omega)]
    by_cases c7 : w = 7
    · rw [if_pos c7] at h
      have hh := Option.some.inj h
      rw [← show _ = st' from congrArg Prod.fst hh, ← show _ = s' from congrArg Prod.snd hh]
      rw [if_pos c7, q_g (by omega) (by omega), q_g (by omega) (by omega), ha]
      unfold pl_X12_work_211
      rw [ej]
      exact ⟨_, rfl, ⟨q_ua, q_stk_c r (fun w _ h2 => q_un (by omega)) hr⟩, by show r.length + 1 ≤ r.length + 1 + 1; omega, fun w hw => q_un (by omega), ho⟩
    rw [if_neg c7] at h
    rw [if_neg c7]
    by_cases c12 : w = 12
    · rw [if_pos c12] at h
      by_cases d1 : n < 0
      · rw [if_pos d1] at h; cases h
      · rw [if_neg d1] at h
        by_cases d2 : n < 4
        · rw [if_pos d2] at h
          have hh := Option.some.inj h
          rw [← show _ = st' from congrArg Prod.fst hh, ← show _ = s' from congrArg Prod.snd hh]
          clear h hh
          obtain ⟨j, hj, rfl⟩ := q_inN (n := 4) d1 d2 (by omega)
          rw [if_neg (by rw [c12]; decide), if_pos c12, gi, q_g (by omega) (by omega), q_g hj (by omega), ha]
          unfold pl_X12_work_211
          rw [ej]
          refine ⟨u, rfl, hr, by show r.length ≤ r.length + 1 + 1; omega, fun w hw => rfl, ?_⟩
          intro w hw
          show pj_u s (2000 + (Int32.ofNat j).toNatClampNeg) a w = s0 w
          rw [q_onC (by omega), q_un (by omega)]
          exact ho w hw
        · rw [if_neg d2] at h; cases h
    rw [if_neg c12] at h
    cases r with
    | nil => cases h
    | cons b q =>
      dsimp only at h
      have e2 : (b :: q).length = q.length + 1 := rfl
      rw [e2] at hl ha ⊢
      obtain ⟨hb, hq⟩ := hr
      have e22 : Int32.ofNat (q.length + 1 + 1) - 2 = Int32.ofNat q.length := by
        have : Int32.ofNat (q.length + 1 + 1) - 2 = Int32.ofNat (q.length + 1 + 1) - 1 - 1 := by
          rw [Int32.sub_eq_add_neg, Int32.sub_eq_add_neg, Int32.sub_eq_add_neg, Int32.add_assoc]
          rfl
        rw [this, q_ofs, q_ofs]
      by_cases c11 : w = 11
      · rw [if_pos c11] at h
        cases q with
        | nil => cases h
        | cons c q2 =>
          dsimp only at h
          have e3 : (c :: q2).length = q2.length + 1 := rfl
          rw [e3] at hl ha hb e22 ⊢
          obtain ⟨hc, hq2⟩ := hq
          have hh := Option.some.inj h
          rw [← show _ = st' from congrArg Prod.fst hh, ← show _ = s' from congrArg Prod.snd hh]
          rw [if_pos c11, e22, q_ofs, q_g (show q2.length < 300 by omega) (by omega), q_onC (show q2.length < 2147483648 by omega), hc, show Int32.ofNat (q2.length + 1) + 1 = Int32.ofNat (q2.length + 1 + 1) from q_onaL _ 1]
          unfold pl_X12_work_149 pl_X12_work_211
          rw [ej]
          by_cases z : c = 0
          · rw [if_pos z, q_g (show q2.length + 1 + 1 < 300 by omega) (by omega), q_g (show q2.length < 300 by omega) (by omega), q_onC (show q2.length + 1 + 1 < 2147483648 by omega), q_onC (show q2.length < 2147483648 by omega), ha]
            refine ⟨pj_u u (19000 + q2.length) a, rfl, ⟨?_, q_stk_c q2 (fun w _ h2 => q_un (by omega)) hq2⟩, by show q2.length + 1 ≤ q2.length + 1 + 1 + 1 + 1; omega, fun w hw => q_un (by omega), ho⟩
            rw [q_ua, if_pos z]
          · rw [if_neg z, q_g (show q2.length + 1 < 300 by omega) (by omega), q_g (show q2.length < 300 by omega) (by omega), q_onC (show q2.length + 1 < 2147483648 by omega), q_onC (show q2.length < 2147483648 by omega), hb]
            refine ⟨pj_u u (19000 + q2.length) b, rfl, ⟨?_, q_stk_c q2 (fun w _ h2 => q_un (by omega)) hq2⟩, by show q2.length + 1 ≤ q2.length + 1 + 1 + 1 + 1; omega, fun w hw => q_un (by omega), ho⟩
            rw [q_ua, if_neg z]
      · rw [if_neg c11] at h
        have hh := Option.some.inj h
        rw [← show _ = st' from congrArg Prod.fst hh, ← show _ = s' from congrArg Prod.snd hh]
        rw [if_neg c11, if_neg c12, q_ofs, q_g (show q.length < 300 by omega) (by omega), q_g (show q.length + 1 < 300 by omega) (by omega), q_onC (show q.length < 2147483648 by omega), hb, ha, q_joinR c7, q_b, q_g (show q.length < 300 by omega) (by omega)]
        unfold pl_X12_work_211
        rw [ej]
        exact ⟨_, rfl, ⟨q_ua, q_stk_c q (fun w _ h2 => q_un (by omega)) hq⟩, by show q.length + 1 ≤ q.length + 1 + 1 + 1; omega, fun w hw => q_un (by omega), ho⟩
theorem q_wrk {N : Nat} (hN : N ≤ 290) {s0 : Nat → Int32} (hin : ∀ (s2 u2 : Nat → Int32) (i : Nat), (∀ w, w < 2000 ∨ 2004 ≤ w → s2 w = s0 w) → i < 8 → pf_X12_input (Int32.ofNat i) s2 l u2 v = some (ip i, s2, l, u2, v)) : ∀ (R : q_Cd) (i : Nat) (st st' : List Int32) (s s' u : Nat → Int32) (f : Nat), i + R.length = N → R.length < f → q_cdA 13000 14000 u R i → u 25 = Int32.ofNat N → q_stk 19000 st u → st.length ≤ i → (∀ w, w < 2000 ∨ 2004 ≤ w → s w = s0 w) → q_rr ip R st s = some (st', s') → ∃ u', pl_X12_work_4 1000 f (Int32.ofNat st.length) (Int32.ofNat i) s l u v = some ((), s', l, u', v) ∧ (∀ w, w < 19000 ∨ 19300 ≤ w → u' w = u w) ∧ ∀ w, w < 2000 ∨ 2004 ≤ w → s' w = s0 w := by
  intro R
  induction R with
  | nil =>
    intro i st st' s s' u f hi hf hc h25 hs hl ho h
    obtain ⟨f, rfl⟩ : ∃ f9, f = f9 + 1 := ⟨f - 1, by simp at hf; omega⟩
    have e : i = N := by simpa using hi
    subst e
    have n : ¬ Int32.ofNat i < u 25 := by rw [h25, q_onlt (by omega) (by omega)]; omega
    cases h
    exact ⟨u, by rw [pl_X12_work_4, if_neg n], fun _ _ => rfl, ho⟩
  | cons q r ih =>
    intro i st st' s s' u f hi hf hc h25 hs hl ho h
    have e : (q :: r).length = r.length + 1 := rfl
    rw [e] at hi hf
    obtain ⟨f, rfl⟩ : ∃ f9, f = f9 + 1 := ⟨f - 1, by omega⟩
    obtain ⟨h1, h2, h3⟩ := hc
    rw [q_rr_c] at h
    cases hz : q_rst ip q.1 q.2 st s with
    | none => rw [hz] at h; cases h
    | some w =>
      obtain ⟨w1, w2⟩ := w
      rw [hz] at h
      have h' : q_rr ip r w1 w2 = some (st', s') := h
      obtain ⟨u1, e1, e2, e3, e4, e5⟩ := q_wst (f := f) hN (by omega) h1 h2 h25 hs hl hin ho hz
      obtain ⟨u', g1, g2, g3⟩ := ih (i + 1) w1 st' w2 s' u1 f (by omega) (by omega) (q_cdA_c r (i + 1) (fun w hw => e4 w (by omega)) h3) (by rw [e4 25 (by omega)]; exact h25) e2 (by omega) e5 h'
      exact ⟨u', by rw [e1, g1], fun w hw => by rw [g2 w hw, e4 w hw], g3⟩
/-- programs that do the same -/
def q_PG (C R : q_Cd) : Prop := ∀ (s ip : Nat → Int32), ∃ nx s', q_cr ip C 0 0 [] s = some (nx, [], s') ∧ q_rr ip R [] s = some ([], s')
theorem q_Pg_mk {C R : q_Cd} (h : q_PG C R) (hC : C.length ≤ 256) (hR : R.length ≤ 290) (cC : q_cdA 11000 11256 x C 0) (cR : q_cdA 13000 14000 u R 0) (x24 : x 24 = Int32.ofNat C.length) (u25 : u 25 = Int32.ofNat R.length) : q_Pg x u := by
  intro s l x1 y u1 v a1 a2 a3 a4 hin
  obtain ⟨nx, s', e1, e2⟩ := h s (fun i => x1 (13000 + i))
  obtain ⟨x', f1, f2⟩ := q_flw (ip := fun i => x1 (13000 + i)) (l := l) (y := y) (N := C.length) hC C 0 nx 0 [] [] s s' x1 1000 (by omega) (by omega) (q_cdA_c C 0 (fun w hw => a2 w (by omega) (by omega)) cC) (by rw [a1, x24]) trivial (by simp) (fun i hi => rfl) e1
  obtain ⟨u', g1, g2, g3⟩ := q_wrk (N := R.length) (s0 := s) (ip := fun i => x1 (13000 + i)) (l := l) (v := v) hR hin R 0 [] [] s s' u1 1000 (by omega) (by omega) (q_cdA_c R 0 (fun w hw => a4 w (by omega) (by omega)) cR) (by rw [a3, u25]) trivial (by simp) (fun _ _ => rfl) e2
  exact ⟨s', x', u', f1, g1, g3, f2, g2⟩
end QBG

/-! PURE: the face: the tester's bytes -/
section QHE
variable {s x u s' x' u' x2 u2 : Nat → Int32} {l y v l' y' v' : Nat → Int64} {D E W : Int} {fu f k n m : Nat} {t : Int64} {a b d e p r c : Int32}
/-- time passes, then a byte comes -/
theorem q_byteQ (hI : q_I 0 E W s l x y u v) (hK : q_Kl x v) (hA : q_Af s) {t : Int64} (h1 : 0 ≤ t.toInt) (K : Nat) (h2 : t.toInt ≤ 10000 * K) (hK2 : K ≤ 5000) (h3 : (l 93).toInt + t.toInt ≤ 20000000000) (hE : E + 128 + 160 * K < 2147483647) (hW : W + 60 * K + 60 < 2147483647) (hb : 0 ≤ b.toInt ∧ b.toInt ≤ 255) : q_Lp (E + 128 + 160 * K) (W + 60 * K + 60) (l 93 + t) (pj_b (pf_X11_passTo (l 93 + t) s l x y) (fun _ s1 l1 x1 y1 => pf_X11_listen b s1 l1 x1 y1)) (pj_b (pf_X12_passTo (l 93 + t) s l u v) (fun _ s1 l1 x1 y1 => pf_X12_heard b s1 l1 x1 y1)) := by
  obtain ⟨s1, l1, x1, y1, u1, v1, F, G, hI1, hK1, hA1, e1⟩ := q_pass2 hI hK hA h1 K h2 hK2 h3 hE (by omega)
  rw [F, G, q_b, q_b, ← e1]
  exact q_listenP hI1 hK1 hA1 hb hW
theorem q_F_hear (hV : q_V k s l x y u v) (hk : k < 512) (h1 : ¬ b < 0) (h2 : ¬ 1000000 < b) : q_Fa (k + 1) (pf_X11_hear a b s l x y) (pf_X12_hear a b s l u v) := by
  obtain ⟨t1, t2, t3⟩ := q_V_t hV hk
  obtain ⟨a1, a2, a3⟩ := q_inr h1 h2
  have o : (1000000 : Int32).toInt = 1000000 := rfl
  rw [o] at a2
  obtain ⟨hI, hK, hA, -⟩ := hV
  obtain ⟨s2, l2, x2, y2, u2, v2, F, G, hI2, hK2, hA2, e2⟩ := q_byteQ (b := a &&& (255 : Int32)) hI hK hA (t := b.toInt64) (by omega) 100 (by omega) (by omega) (by omega) (by omega) (by omega) (q_byI a)
  have e3 : (l 93 + b.toInt64).toInt = (l 93).toInt + b.toInt := by rw [q_addL (by omega) (by omega), a3]
  obtain ⟨z1, z2⟩ := q_V_L (k := k + 1) hI2 hK2 hA2 (by omega) (by omega) (by rw [e2, e3]; omega)
  have q : pf_X12_isIn b.toInt64 0 1000000 s l u v = some (if b < 0 then 0 else if 1000000 < b then 0 else 1, s, l, u, v) := q_isI b 0 1000000
  refine ⟨s2 69, s2, l2, x2, y2, u2, v2, ?_, ?_, z1, z2⟩
  · unfold pf_X11_hear
    rw [if_neg h1, if_neg h2]
    have e : pj_b (pf_X11_passTo (l 93 + b.toInt64) s l x y) (fun r1 s1 l1 x1 y1 => pj_b (pf_X11_listen (a &&& (255 : Int32)) s1 l1 x1 y1) (fun r2 s2 l2 x2 y2 => some (s2 69, s2, l2, x2, y2))) = pj_b (pj_b (pf_X11_passTo (l 93 + b.toInt64) s l x y) (fun _ s1 l1 x1 y1 => pf_X11_listen (a &&& (255 : Int32)) s1 l1 x1 y1)) (fun r2 s2 l2 x2 y2 => some (s2 69, s2, l2, x2, y2)) := by
      cases pf_X11_passTo (l 93 + b.toInt64) s l x y <;> rfl
    rw [e, F, q_b]
  · unfold pf_X12_hear pl_X12_hear_18
    rw [q, q_b, q_in1 h1 h2, if_neg q_n10, if_neg q_l00]
    have e : pj_b (pf_X12_passTo (l 93 + b.toInt64) s l (pj_u u 1 0) v) (fun r1 s1 l1 x1 y1 => pj_b (pf_X12_heard (a &&& (255 : Int32)) s1 l1 x1 y1) (fun r2 s2 l2 x2 y2 => some (s2 69, s2, l2, x2, y2))) = pj_b (pj_b (pf_X12_passTo (l 93 + b.toInt64) s l (pj_u u 1 0) v) (fun _ s1 l1 x1 y1 => pf_X12_heard (a &&& (255 : Int32)) s1 l1 x1 y1)) (fun r2 s2 l2 x2 y2 => some (s2 69, s2, l2, x2, y2)) := by
      cases pf_X12_passTo (l 93 + b.toInt64) s l (pj_u u 1 0) v <;> rfl
    rw [e, G, q_b]
theorem q_F_hear0 (hV : q_V k s l x y u v) (h : b < 0 ∨ (1000000 : Int32) < b) : q_Rf (k + 1) 1 s l x y (pf_X12_hear a b s l u v) := by
  have q : pf_X12_isIn b.toInt64 0 1000000 s l u v = some (if b < 0 then 0 else if 1000000 < b then 0 else 1, s, l, u, v) := q_isI b 0 1000000
  unfold pf_X12_hear pl_X12_hear_18
  rw [q, q_b, q_in0 h, if_pos rfl, if_pos q_l01]
  exact q_Rf_s 0 1 rfl hV
-- ask
/-- one byte of a REQUEST that is asked -/
def q_Nx (E W : Int) (l : Nat → Int64) (s' : Nat → Int32) (l' : Nat → Int64) (x' : Nat → Int32) (y' : Nat → Int64) (u' : Nat → Int32) (v' : Nat → Int64) : Prop := q_I 0 (E + 608) (W + 240) s' l' x' y' u' v' ∧ q_Kl x' v' ∧ q_Af s' ∧ (l' 93).toInt ≤ (l 93).toInt + 30000 ∧ 0 ≤ (l' 93).toInt
theorem q_askB (hI : q_I 0 E W s l x y u v) (hK : q_Kl x v) (hA : q_Af s) {t : Int64} (ht : t = 1000 ∨ t = 30000) (h3 : (l 93).toInt ≤ 15000000000) (hE : E + 608 < 2147483647) (hW : W + 240 < 2147483647) (b : Int32) : ∃ s' l' x' y' u' v', pj_b (pf_X11_passTo (l 93 + t) s l x y) (fun _ s1 l1 x1 y1 => pf_X11_listen (b &&& (255 : Int32)) s1 l1 x1 y1) = some ((), s', l', x', y') ∧ pf_X12_byteAfter b t s l u v = some ((), s', l', u', v') ∧ q_Nx E W l s' l' x' y' u' v' := by
  have tv : 0 ≤ t.toInt ∧ t.toInt ≤ 30000 := by
    rcases ht with z | z <;> rw [z] <;> decide
  have tl := hI.2.2.1.2.2.2.2
  obtain ⟨s2, l2, x2, y2, u2, v2, F, G, hI2, hK2, hA2, e2⟩ := q_byteQ (b := b &&& (255 : Int32)) hI hK hA (t := t) tv.1 3 (by omega) (by omega) (by omega) (by omega) (by omega) (q_byI b)
  have e3 : (l 93 + t).toInt = (l 93).toInt + t.toInt := q_addL (by omega) (by omega)
  refine ⟨s2, l2, x2, y2, u2, v2, F, ?_, q_I_mono hI2 (by omega) (by omega), hK2, hA2, by rw [e2, e3]; omega, by rw [e2, e3]; omega⟩
  unfold pf_X12_byteAfter
  simp only [q_bU]
  exact G
theorem q_pbA {A B C : Type} {F : Option (A × pj_Z)} {G : A → (Nat → Int32) → (Nat → Int64) → (Nat → Int32) → (Nat → Int64) → Option (B × pj_Z)} {H : B → (Nat → Int32) → (Nat → Int64) → (Nat → Int32) → (Nat → Int64) → Option C} : pj_b F (fun r s l x y => pj_b (G r s l x y) H) = pj_b (pj_b F G) H := by
  cases F <;> rfl
/-- the class's step -/
def q_aby (A a2 a3 a4 a5 a6 q : Int32) (n i : Nat) : Int32 := if i = 0 then 128 + A else if i = 1 then 17 else if i = 2 then 241 else if i < n + 3 then ((if i = 3 then a2 else if i = 4 then a3 else if i = 5 then a4 else if i = 6 then a5 else a6) &&& (255 : Int32)) else q &&& (255 : Int32)
theorem q_askC {a2 a3 a4 a5 a6 q : Int32} {i n : Nat} (hn : n ≤ 5) (hi : i < n + 4) (f : Nat) : pl_X11_ask_27 1000 (f + 1) (Int32.ofNat n) a2 a3 a4 a5 a6 q (Int32.ofNat i) s l x y = pj_b (pj_b (pf_X11_passTo (l 93 + (if i = 0 then 30000 else 1000)) s l x y) (fun _ s1 l1 x1 y1 => pf_X11_listen (q_aby (Int32.ofNat n) a2 a3 a4 a5 a6 q n i) s1 l1 x1 y1)) (fun _ s2 l2 x2 y2 => pl_X11_ask_27 1000 f (Int32.ofNat n) a2 a3 a4 a5 a6 (q + q_aby (Int32.ofNat n) a2 a3 a4 a5 a6 q n i) (Int32.ofNat (i + 1)) s2 l2 x2 y2) := by
  have e4 : Int32.ofNat n + 4 = Int32.ofNat (n + 4) := q_onaL n 4
  have e3 : Int32.ofNat n + 3 = Int32.ofNat (n + 3) := q_onaL n 3
  have c : Int32.ofNat i < Int32.ofNat n + 4 := by rw [e4, q_onlt (by omega) (by omega)]; omega
  have ez : ∀ j : Nat, j < 10 → ((Int32.ofNat i = Int32.ofNat j) ↔ i = j) := by
    intro j hj
    constructor
    · intro z
      have : (Int32.ofNat i).toInt = (Int32.ofNat j).toInt := by rw [z]
      rw [q_onI (by omega), q_onI (by omega)] at this
      omega
    · intro z; rw [z]
  have z0 : (Int32.ofNat i = 0) ↔ i = 0 := ez 0 (by omega)
  have z1 : (Int32.ofNat i = 1) ↔ i = 1 := ez 1 (by omega)
  have z2 : (Int32.ofNat i = 2) ↔ i = 2 := ez 2 (by omega)
  have z3 : (Int32.ofNat i = 3) ↔ i = 3 := ez 3 (by omega)
  have z4 : (Int32.ofNat i = 4) ↔ i = 4 := ez 4 (by omega)
  have z5 : (Int32.ofNat i = 5) ↔ i = 5 := ez 5 (by omega)
  have z6 : (Int32.ofNat i = 6) ↔ i = 6 := ez 6 (by omega)
  have zl : (Int32.ofNat i < Int32.ofNat n + 3) ↔ i < n + 3 := by rw [e3, q_onlt (by omega) (by omega)]
  have ej : Int32.ofNat i + 1 = Int32.ofNat (i + 1) := q_onaL i 1
  rw [pl_X11_ask_27, if_pos c]
  -- which of the data
  have D : ∀ K : Int32 → Option (Int32 × pj_Z), (if Int32.ofNat i = 3 then K a2 else if Int32.ofNat i = 4 then K a3 else if Int32.ofNat i = 5 then K a4 else if Int32.ofNat i = 6 then K a5 else K a6) = K (if i = 3 then a2 else if i = 4 then a3 else if i = 5 then a4 else if i = 6 then a5 else a6) := by
    intro K
    by_cases c3 : i = 3
    · rw [if_pos (z3.mpr c3), if_pos c3]
    rw [if_neg (fun w => c3 (z3.mp w)), if_neg c3]
    by_cases c4 : i = 4
    · rw [if_pos (z4.mpr c4), if_pos c4]
    rw [if_neg (fun w => c4 (z4.mp w)), if_neg c4]
    by_cases c5 : i = 5
    · rw [if_pos (z5.mpr c5), if_pos c5]
    rw [if_neg (fun w => c5 (z5.mp w)), if_neg c5]
    by_cases c6 : i = 6
    · rw [if_pos (z6.mpr c6), if_pos c6]
    rw [if_neg (fun w => c6 (z6.mp w)), if_neg c6]
  rw [D (fun b0 => pl_X11_ask_80 1000 (pl_X11_ask_27 1000 f) (Int32.ofNat n) a2 a3 a4 a5 a6 q (Int32.ofNat i) b0 s l x y)]
  generalize hd : (if i = 3 then a2 else if i = 4 then a3 else if i = 5 then a4 else if i = 6 then a5 else a6) = b0
  have B : pl_X11_ask_80 1000 (pl_X11_ask_27 1000 f) (Int32.ofNat n) a2 a3 a4 a5 a6 q (Int32.ofNat i) b0 s l x y = pl_X11_ask_141 1000 (pl_X11_ask_27 1000 f) (Int32.ofNat n) a2 a3 a4 a5 a6 q (Int32.ofNat i) (q_aby (Int32.ofNat n) a2 a3 a4 a5 a6 q n i) s l x y := by
    unfold pl_X11_ask_80 q_aby
    rw [hd]
    by_cases c0 : i = 0
    · rw [if_pos (z0.mpr c0), if_pos c0]
    rw [if_neg (fun w => c0 (z0.mp w)), if_neg c0]
    by_cases c1 : i = 1
    · rw [if_pos (z1.mpr c1), if_pos c1]
    rw [if_neg (fun w => c1 (z1.mp w)), if_neg c1]
    by_cases c2 : i = 2
    · rw [if_pos (z2.mpr c2), if_pos c2]
    rw [if_neg (fun w => c2 (z2.mp w)), if_neg c2]
    by_cases c3 : i < n + 3
    · rw [if_pos (zl.mpr c3), if_pos c3]
    · rw [if_neg (fun w => c3 (zl.mp w)), if_neg c3]
  rw [B]
  generalize q_aby (Int32.ofNat n) a2 a3 a4 a5 a6 q n i = w
  unfold pl_X11_ask_141 pl_X11_ask_162
  rw [← q_pbA, ej]
  by_cases c0 : i = 0
  · rw [if_pos (z0.mpr c0), if_pos c0]
    rfl
  · rw [if_neg (fun w => c0 (z0.mp w)), if_neg c0]
    rfl
theorem q_askR {a2 a3 a4 a5 a6 q : Int32} {i n : Nat} (hn : n ≤ 5) (hi : i < n) (f : Nat) : pl_X12_ask_78 1000 (f + 1) (Int32.ofNat n) a2 a3 a4 a5 a6 q (Int32.ofNat i) s l u v = pj_b (pf_X12_byteAfter ((if i = 0 then a2 else if i = 1 then a3 else if i = 2 then a4 else if i = 3 then a5 else a6) &&& (255 : Int32)) 1000 s l u v) (fun _ s1 l1 x1 y1 => pl_X12_ask_78 1000 f (Int32.ofNat n) a2 a3 a4 a5 a6 (q + ((if i = 0 then a2 else if i = 1 then a3 else if i = 2 then a4 else if i = 3 then a5 else a6) &&& (255 : Int32))) (Int32.ofNat (i + 1)) s1 l1 x1 y1) := by
  have c : Int32.ofNat i < Int32.ofNat n := by rw [q_onlt (by omega) (by omega)]; omega
  have ez : ∀ j : Nat, j < 10 → ((Int32.ofNat i = Int32.ofNat j) ↔ i = j) := by
    intro j hj
    constructor
    · intro z
      have : (Int32.ofNat i).toInt = (Int32.ofNat j).toInt := by rw [z]
      rw [q_onI (by omega), q_onI (by omega)] at this
      omega
    · intro z; rw [z]
  have z0 : (Int32.ofNat i = 0) ↔ i = 0 := ez 0 (by omega)
  have z1 : (Int32.ofNat i = 1) ↔ i = 1 := ez 1 (by omega)
  have z2 : (Int32.ofNat i = 2) ↔ i = 2 := ez 2 (by omega)
  have z3 : (Int32.ofNat i = 3) ↔ i = 3 := ez 3 (by omega)
  have ej : Int32.ofNat i + 1 = Int32.ofNat (i + 1) := q_onaL i 1
  rw [pl_X12_ask_78, if_pos c]
  unfold pl_X12_ask_127
  rw [ej]
  by_cases c0 : i = 0
  · simp only [if_pos (z0.mpr c0), if_pos c0]
  simp only [if_neg (fun w => c0 (z0.mp w)), if_neg c0]
  by_cases c1 : i = 1
  · simp only [if_pos (z1.mpr c1), if_pos c1]
  simp only [if_neg (fun w => c1 (z1.mp w)), if_neg c1]
  by_cases c2 : i = 2
  · simp only [if_pos (z2.mpr c2), if_pos c2]
  simp only [if_neg (fun w => c2 (z2.mp w)), if_neg c2]
  by_cases c3 : i = 3
  · simp only [if_pos (z3.mpr c3), if_pos c3]
  · simp only [if_neg (fun w => c3 (z3.mp w)), if_neg c3]
theorem q_askL {a2 a3 a4 a5 a6 : Int32} {n : Nat} (hn : n ≤ 5) : ∀ (m i fC fR : Nat) (q : Int32) (E W : Int) (s x u : Nat → Int32) (l y v : Nat → Int64), i + m = n → m + 1 < fC → m < fR → q_I 0 E W s l x y u v → q_Kl x v → q_Af s → (l 93).toInt + 30000 * (m + 1) ≤ 15000000000 → E + 608 * (m + 1) < 2147483647 → W + 240 * (m + 1) < 2147483647 → ∃ s' l' x' y' u' v', pl_X11_ask_27 1000 fC (Int32.ofNat n) a2 a3 a4 a5 a6 q (Int32.ofNat (3 + i)) s l x y = some (s' 69, s', l', x', y') ∧ pl_X12_ask_78 1000 fR (Int32.ofNat n) a2 a3 a4 a5 a6 q (Int32.ofNat i) s l u v = some (s' 69, s', l', u', v') ∧ q_I 0 (E + 608 * (m + 1)) (W + 240 * (m + 1)) s' l' x' y' u' v' ∧ q_Kl x' v' ∧ q_Af s' ∧ (l' 93).toInt ≤ (l 93).toInt + 30000 * (m + 1) := by
  intro m
  induction m with
  | zero =>
    intro i fC fR q E W s x u l y v hi hC hR hI hK hA ht hE hW
    have : i = n := by omega
    subst this
    obtain ⟨fC, rfl⟩ : ∃ f9, fC = f9 + 1 + 1 := ⟨fC - 2, by omega⟩
    obtain ⟨fR, rfl⟩ : ∃ f9, fR = f9 + 1 := ⟨fR - 1, by omega⟩
    obtain ⟨s', l', x', y', u', v', F, G, n1, n2, n3, n4, n5⟩ := q_askB hI hK hA (t := 1000) (Or.inl rfl) (by omega) (by omega) (by omega) q
    refine ⟨s', l', x', y', u', v', ?_, ?_, q_I_mono n1 (by omega) (by omega), n2, n3, by omega⟩
    · have by9 : q_aby (Int32.ofNat i) a2 a3 a4 a5 a6 q i (3 + i) = q &&& (255 : Int32) := by
        unfold q_aby
        rw [if_neg (by omega), if_neg (by omega), if_neg (by omega), if_neg (by omega)]
      rw [q_askC (i := 3 + i) hn (by omega), by9, if_neg (by omega), F, q_b]
      have c : ¬ Int32.ofNat (3 + i + 1) < Int32.ofNat i + 4 := by
        rw [show Int32.ofNat i + 4 = Int32.ofNat (i + 4) from q_onaL i 4, q_onlt (by omega) (by omega)]; omega
      rw [pl_X11_ask_27, if_neg c]
    · have c : ¬ Int32.ofNat i < Int32.ofNat i := by rw [q_onlt (by omega) (by omega)]; omega
      rw [pl_X12_ask_78, if_neg c, G, q_b]
  | succ m ih =>
    intro i fC fR q E W s x u l y v hi hC hR hI hK hA ht hE hW
    obtain ⟨fC, rfl⟩ : ∃ f9, fC = f9 + 1 := ⟨fC - 1, by omega⟩
    obtain ⟨fR, rfl⟩ : ∃ f9, fR = f9 + 1 := ⟨fR - 1, by omega⟩
    have eb : (if 3 + i = 3 then a2 else if 3 + i = 4 then a3 else if 3 + i = 5 then a4 else if 3 + i = 6 then a5 else a6) = (if i = 0 then a2 else if i = 1 then a3 else if i = 2 then a4 else if i = 3 then a5 else a6) := by
      have h5 : i = 0 ∨ i = 1 ∨ i = 2 ∨ i = 3 ∨ i = 4 := by omega
      rcases h5 with z | z | z | z | z <;> subst z <;> rfl
    have by9 : q_aby (Int32.ofNat n) a2 a3 a4 a5 a6 q n (3 + i) = (if i = 0 then a2 else if i = 1 then a3 else if i = 2 then a4 else if i = 3 then a5 else a6) &&& (255 : Int32) := by
      unfold q_aby
      rw [if_neg (by omega), if_neg (by omega), if_neg (by omega), if_pos (by omega), eb]
    rw [q_askC (i := 3 + i) hn (by omega), by9, if_neg (show ¬ 3 + i = 0 by omega), q_askR hn (by omega)]
    generalize (if i = 0 then a2 else if i = 1 then a3 else if i = 2 then a4 else if i = 3 then a5 else a6) = w
    obtain ⟨s1, l1, x1, y1, u1, v1, F, G, n1, n2, n3, n4, n5⟩ := q_askB hI hK hA (t := 1000) (Or.inl rfl) (by omega) (by omega) (by omega) (w &&& (255 : Int32))
    rw [q_255i] at F
    rw [F, G, q_b, q_b, show 3 + i + 1 = 3 + (i + 1) by omega]
    obtain ⟨s', l', x', y', u', v', F2, G2, m1, m2, m3, m4⟩ := ih (i + 1) fC fR (q + (w &&& (255 : Int32))) (E + 608) (W + 240) s1 x1 u1 l1 y1 v1 (by omega) (by omega) (by omega) n1 n2 n3 (by omega) (by omega) (by omega)
    exact ⟨s', l', x', y', u', v', F2, G2, q_I_mono m1 (by omega) (by omega), m2, m3, by omega⟩
theorem q_F_ask (hV : q_V k s l x y u v) (hk : k < 512) {a2 a3 a4 a5 a6 : Int32} (h1 : ¬ a < 1) (h2 : ¬ 5 < a) : q_Fa (k + 1) (pf_X11_ask a a2 a3 a4 a5 a6 s l x y) (pf_X12_ask a a2 a3 a4 a5 a6 s l u v) := by
  obtain ⟨t1, t2, t3⟩ := q_V_t hV hk
  have a0 : 1 ≤ a.toInt ∧ a.toInt ≤ 5 := by
    rw [Int32.lt_iff_toInt_lt] at h1 h2
    have o : (1 : Int32).toInt = 1 := rfl
    have o2 : (5 : Int32).toInt = 5 := rfl
    omega
  obtain ⟨n, en, hn, -⟩ := q_nat (a := a) (by omega)
  have n5 : n ≤ 5 := by omega
  obtain ⟨hI, hK, hA, hT⟩ := hV
  have q : pf_X12_isIn a.toInt64 1 5 s l u v = some (if a < 1 then 0 else if 5 < a then 0 else 1, s, l, u, v) := q_isI a 1 5
  have o128 : (128 : Int32).toInt = 128 := rfl
  have b0 : (128 + Int32.ofNat n) &&& (255 : Int32) = 128 + Int32.ofNat n := by
    have e : (128 + Int32.ofNat n).toInt = 128 + n := by rw [q_add (by rw [q_onI (by omega), o128]; omega) (by rw [q_onI (by omega), o128]; omega), q_onI (by omega), o128]
    exact q_by (by rw [e]; omega) (by rw [e]; omega)
  obtain ⟨s1, l1, x1, y1, u1, v1, F1, G1, p1, p2, p3, p4, p5⟩ := q_askB hI hK hA (t := 30000) (Or.inr rfl) (by omega) (by omega) (by omega) (128 + Int32.ofNat n)
  obtain ⟨s2, l2, x2, y2, u2, v2, F2, G2, q1, q2, q3, q4, q5⟩ := q_askB p1 p2 p3 (t := 1000) (Or.inl rfl) (by omega) (by omega) (by omega) 17
  obtain ⟨s3, l3, x3, y3, u3, v3, F3, G3, r1, r2, r3, r4, r5⟩ := q_askB q1 q2 q3 (t := 1000) (Or.inl rfl) (by omega) (by omega) (by omega) 241
  rw [b0] at F1
  have F2' : pj_b (pf_X11_passTo (l1 93 + 1000) s1 l1 x1 y1) (fun _ s1 l1 x1 y1 => pf_X11_listen 17 s1 l1 x1 y1) = some ((), s2, l2, x2, y2) := F2
  have F3' : pj_b (pf_X11_passTo (l2 93 + 1000) s2 l2 x2 y2) (fun _ s1 l1 x1 y1 => pf_X11_listen 241 s1 l1 x1 y1) = some ((), s3, l3, x3, y3) := F3
  obtain ⟨s', l', x', y', u', v', F4, G4, m1, m2, m3, m4⟩ := q_askL (a2 := a2) (a3 := a3) (a4 := a4) (a5 := a5) (a6 := a6) n5 n 0 997 1000 (((128 + Int32.ofNat n) + 17) + 241) _ _ s3 x3 u3 l3 y3 v3 (by omega) (by omega) (by omega) r1 r2 r3 (by omega) (by omega) (by omega)
  obtain ⟨z1, z2⟩ := q_V_L (k := k + 1) m1 m2 m3 (by omega) (by omega) (by omega)
  refine ⟨s' 69, s', l', x', y', u', v', ?_, ?_, z1, z2⟩
  · unfold pf_X11_ask po_X11_ask
    rw [if_neg h1, if_neg h2, en]
    show pl_X11_ask_27 1000 (999 + 1) (Int32.ofNat n) a2 a3 a4 a5 a6 0 (Int32.ofNat 0) s l x y = _
    have c0 : q_aby (Int32.ofNat n) a2 a3 a4 a5 a6 0 n 0 = 128 + Int32.ofNat n := rfl
    rw [q_askC n5 (by omega), if_pos rfl, c0, F1, q_b, Int32.zero_add]
    show pl_X11_ask_27 1000 (998 + 1) (Int32.ofNat n) a2 a3 a4 a5 a6 (128 + Int32.ofNat n) (Int32.ofNat 1) s1 l1 x1 y1 = _
    have c1 : q_aby (Int32.ofNat n) a2 a3 a4 a5 a6 (128 + Int32.ofNat n) n 1 = 17 := rfl
    rw [q_askC n5 (by omega), if_neg (by omega), c1, F2', q_b]
    show pl_X11_ask_27 1000 (997 + 1) (Int32.ofNat n) a2 a3 a4 a5 a6 (128 + Int32.ofNat n + 17) (Int32.ofNat 2) s2 l2 x2 y2 = _
    have c2 : q_aby (Int32.ofNat n) a2 a3 a4 a5 a6 (128 + Int32.ofNat n + 17) n 2 = 241 := rfl
    rw [q_askC n5 (by omega), if_neg (by omega), c2, F3', q_b]
    exact F4
  · unfold pf_X12_ask po_X12_ask pl_X12_ask_18
    rw [q, q_b, q_in1 h1 h2, if_neg q_n10, if_neg q_l00, en, G1, q_b, G2, q_b, G3, q_b]
    exact G4
theorem q_F_ask0 (hV : q_V k s l x y u v) {a2 a3 a4 a5 a6 : Int32} (h : a < 1 ∨ (5 : Int32) < a) : q_Rf (k + 1) 1 s l x y (pf_X12_ask a a2 a3 a4 a5 a6 s l u v) := by
  have q : pf_X12_isIn a.toInt64 1 5 s l u v = some (if a < 1 then 0 else if 5 < a then 0 else 1, s, l, u, v) := q_isI a 1 5
  unfold pf_X12_ask po_X12_ask pl_X12_ask_18
  rw [q, q_b, q_in0 h, if_pos rfl, if_pos q_l01]
  exact q_Rf_s 0 1 rfl hV
end QHE

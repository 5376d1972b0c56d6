/-! PURE: the TESTER: PIDS -/
section QSPI
variable {s x u s' x' u' x2 u2 : Nat → Int32} {l y v l' y' v' : Nat → Int64} {D E W : Int} {fu f k n m : Nat} {t : Int64} {a b d e p r : Int32}
def q_Pd (p : Int32) : Prop := p = 0 ∨ p = 1 ∨ p = 3 ∨ p = 4 ∨ p = 5 ∨ p = 6 ∨ p = 7 ∨ p = 11 ∨ p = 12 ∨ p = 14 ∨ p = 15 ∨ p = 17 ∨ p = 20 ∨ p = 28 ∨ p = 31
theorem q_37 (h1 : ¬ p < 3) (h2 : ¬ 7 < p) : p = 3 ∨ p = 4 ∨ p = 5 ∨ p = 6 ∨ p = 7 := by
  by_cases c : p < 4
  · refine Or.inl (q_eqI (k := 3) (by omega) ?_)
    rw [Int32.lt_iff_toInt_lt] at h1 c
    have o : (4 : Int32).toInt = 4 := rfl
    have o7 : (3 : Int32).toInt = 3 := rfl
    omega
  · exact Or.inr (q_47 c h2)
theorem q_isPid1 (h : q_Pd p) : pf_X12_isPid p s l u v = some (1, s, l, u, v) := by
  have q1 : pf_X12_isIn p.toInt64 3 7 s l u v = some (if p < 3 then 0 else if 7 < p then 0 else 1, s, l, u, v) := q_isI p 3 7
  unfold pf_X12_isPid pl_X12_isPid_71
  rw [q1, q_b]
  unfold q_Pd at h
  rcases h with z | z | z | z | z | z | z | z | z | z | z | z | z | z | z
  · subst z; rw [if_pos (by decide), if_pos rfl]
  · subst z; rw [if_pos (by decide), if_neg (by decide), if_pos rfl]
  · subst z; rw [if_neg (by decide)]
  · subst z; rw [if_neg (by decide)]
  · subst z; rw [if_neg (by decide)]
  · subst z; rw [if_neg (by decide)]
  · subst z; rw [if_neg (by decide)]
  · subst z; rw [if_pos (by decide), if_neg (by decide), if_neg (by decide), if_pos rfl]
  · subst z; rw [if_pos (by decide), if_neg (by decide), if_neg (by decide), if_neg (by decide), if_pos rfl]
  · subst z; rw [if_pos (by decide), if_neg (by decide), if_neg (by decide), if_neg (by decide), if_neg (by decide), if_pos rfl]
  · subst z; rw [if_pos (by decide), if_neg (by decide), if_neg (by decide), if_neg (by decide), if_neg (by decide), if_neg (by decide), if_pos rfl]
  · subst z; rw [if_pos (by decide), if_neg (by decide), if_neg (by decide), if_neg (by decide), if_neg (by decide), if_neg (by decide), if_neg (by decide), if_pos rfl]
  · subst z; rw [if_pos (by decide), if_neg (by decide), if_neg (by decide), if_neg (by decide), if_neg (by decide), if_neg (by decide), if_neg (by decide), if_neg (by decide), if_pos rfl]
  · subst z; rw [if_pos (by decide), if_neg (by decide), if_neg (by decide), if_neg (by decide), if_neg (by decide), if_neg (by decide), if_neg (by decide), if_neg (by decide), if_neg (by decide), if_pos rfl]
  · subst z; rw [if_pos (by decide), if_neg (by decide), if_neg (by decide), if_neg (by decide), if_neg (by decide), if_neg (by decide), if_neg (by decide), if_neg (by decide), if_neg (by decide), if_neg (by decide), if_pos rfl]
theorem q_isPid0 (h : ¬ q_Pd p) : pf_X12_isPid p s l u v = some (0, s, l, u, v) := by
  have q1 : pf_X12_isIn p.toInt64 3 7 s l u v = some (if p < 3 then 0 else if 7 < p then 0 else 1, s, l, u, v) := q_isI p 3 7
  unfold q_Pd at h
  have e : (if p < 3 then (0 : Int32) else if 7 < p then 0 else 1) = 0 := by
    by_cases c1 : p < 3
    · rw [if_pos c1]
    · rw [if_neg c1]
      by_cases c2 : 7 < p
      · rw [if_pos c2]
      · exact absurd (by rcases q_37 c1 c2 with z | z | z | z | z <;> simp [z]) h
  unfold pf_X12_isPid
  rw [q1, q_b, e, if_pos rfl, if_neg (show ¬ p = 0 from fun z => h (by simp [z])), if_neg (show ¬ p = 1 from fun z => h (by simp [z])), if_neg (show ¬ p = 11 from fun z => h (by simp [z])), if_neg (show ¬ p = 12 from fun z => h (by simp [z])), if_neg (show ¬ p = 14 from fun z => h (by simp [z])), if_neg (show ¬ p = 15 from fun z => h (by simp [z])), if_neg (show ¬ p = 17 from fun z => h (by simp [z])), if_neg (show ¬ p = 20 from fun z => h (by simp [z])), if_neg (show ¬ p = 28 from fun z => h (by simp [z])), if_neg (show ¬ p = 31 from fun z => h (by simp [z]))]
-- the bits of the PIDS
def q_pdb (p : Int32) : Bool := p == 0 || p == 1 || p == 3 || p == 4 || p == 5 || p == 6 || p == 7 || p == 11 || p == 12 || p == 14 || p == 15 || p == 17 || p == 20 || p == 28 || p == 31
theorem q_pdb_iff : q_pdb p = true ↔ q_Pd p := by
  unfold q_pdb q_Pd
  simp [or_assoc]
def q_pb : Nat → Nat → Int32 → Int32
  | 0, _, a => a
  | m + 1, i, a => q_pb m (i + 1) (if q_pdb (Int32.ofNat i) then (a ||| ((1 : Int32) <<< ((32 - Int32.ofNat i) &&& (31 : Int32)))) else a)
theorem q_pbR : ∀ (m i f : Nat) (a : Int32), i + m = 33 → m < f → pl_X12_live_56 fu f a (Int32.ofNat i) s l u v = pj_b (pf_X12_two (pj_shr (q_pb m i a) 16) s l u v) (fun r1 s1 l1 x1 y1 => pj_b (pf_X12_two (q_pb m i a) s1 l1 x1 y1) (fun r2 s2 l2 x2 y2 => some ((), s2, l2, x2, y2))) := by
  intro m
  induction m with
  | zero =>
    intro i f a hi hf
    have : i = 33 := by omega
    subst this
    obtain ⟨f, rfl⟩ : ∃ f9, f = f9 + 1 := ⟨f - 1, by omega⟩
    rw [pl_X12_live_56, if_pos (by decide)]
    rfl
  | succ m ih =>
    intro i f a hi hf
    obtain ⟨f, rfl⟩ : ∃ f9, f = f9 + 1 := ⟨f - 1, by omega⟩
    have e : ¬ 32 < Int32.ofNat i := by rw [q_onltR (by omega) (by omega)]; omega
    have ej : Int32.ofNat i + 1 = Int32.ofNat (i + 1) := q_onaL i 1
    rw [pl_X12_live_56, if_neg e]
    unfold pl_X12_live_84
    have z : ∀ a9, q_pb (m + 1) i a9 = q_pb m (i + 1) (if q_pdb (Int32.ofNat i) then (a9 ||| ((1 : Int32) <<< ((32 - Int32.ofNat i) &&& (31 : Int32)))) else a9) := fun _ => rfl
    by_cases c : q_pdb (Int32.ofNat i) = true
    · rw [q_isPid1 (q_pdb_iff.mp c), q_b, if_neg q_n10, ej, ih (i + 1) f _ (by omega) (by omega), z, if_pos c]
    · rw [q_isPid0 (fun q => c (q_pdb_iff.mpr q)), q_b, if_pos rfl, ej, ih (i + 1) f _ (by omega) (by omega), z, if_neg c]
def q_pc : Nat → Nat → Int64 → Int64
  | 0, _, a => a
  | m + 1, i, a => q_pc m (i + 1) (a ||| ((1 : Int64) <<< ((32 - (pj_xf 7 i)).toInt64 &&& (63 : Int64))))
theorem q_pcC : ∀ (m i f : Nat) (a : Int64), i + m = 14 → m < f → pl_X8_sayPids_4 fu f a (Int32.ofNat i) s l x y = pf_X8_sayFour (q_pc m i a) s l x y := by
  intro m
  induction m with
  | zero =>
    intro i f a hi hf
    have : i = 14 := by omega
    subst this
    obtain ⟨f, rfl⟩ : ∃ f9, f = f9 + 1 := ⟨f - 1, by omega⟩
    rw [pl_X8_sayPids_4, if_neg (by decide), q_bI]
    rfl
  | succ m ih =>
    intro i f a hi hf
    obtain ⟨f, rfl⟩ : ∃ f9, f = f9 + 1 := ⟨f - 1, by omega⟩
    have e : Int32.ofNat i < 14 := by rw [q_onltL (by omega) (by omega)]; omega
    rw [pl_X8_sayPids_4, if_pos e, q_g (by omega) (by omega), q_onC (by omega), show Int32.ofNat i + 1 = Int32.ofNat (i + 1) from q_onaL i 1, ih (i + 1) f _ (by omega) (by omega)]
    rfl
theorem q_pidsE : (q_pc 14 0 0).toInt32 = q_pb 32 1 0 := by decide +kernel
-- how many are confirmed
def q_cn (s : Nat → Int32) : Nat → Nat → Int32 → Int32
  | 0, _, a => a
  | m + 1, i, a => q_cn s m (i + 1) (a + s (40084 + i))
theorem q_cnC : ∀ (m i f : Nat) (a : Int32), i + m = 28 → m < f → pl_X10_countOf_4 fu f 3 a (Int32.ofNat i) s l x y = some (q_cn s m i a, s, l, x, y) := by
  intro m
  induction m with
  | zero =>
    intro i f a hi hf
    have : i = 28 := by omega
    subst this
    obtain ⟨f, rfl⟩ : ∃ f9, f = f9 + 1 := ⟨f - 1, by omega⟩
    rw [pl_X10_countOf_4, if_neg (by decide)]
    rfl
  | succ m ih =>
    intro i f a hi hf
    obtain ⟨f, rfl⟩ : ∃ f9, f = f9 + 1 := ⟨f - 1, by omega⟩
    have e : Int32.ofNat i < 28 := by rw [q_onltL (by omega) (by omega)]; omega
    have g3 : ∀ {A : Type} (K : Option A), pj_g 3 8 K = K := fun K => q_g (i := 3) (by omega) (by omega)
    have t3 : (3 : Int32).toNatClampNeg = 3 := rfl
    rw [pl_X10_countOf_4, if_pos e, if_neg (by decide), if_pos (by decide), g3, t3, q_r (by omega), q_g (by omega) (by omega), q_onC (by omega), show Int32.ofNat i + 1 = Int32.ofNat (i + 1) from q_onaL i 1, show 40000 + 28 * 3 + i = 40084 + i by omega, ih (i + 1) f _ (by omega) (by omega)]
    rfl
theorem q_cnR (hr : q_R s) : ∀ (m i f : Nat) (a : Int32), i + m = 28 → m < f → pl_X12_live_117 fu f a (Int32.ofNat i) s l u v = (if q_lm s = 0 then pl_X12_live_164 fu (q_cn s m i a) 0 s l u v else pl_X12_live_164 fu (q_cn s m i a) 128 s l u v) := by
  intro m
  induction m with
  | zero =>
    intro i f a hi hf
    have : i = 28 := by omega
    subst this
    obtain ⟨f, rfl⟩ : ∃ f9, f = f9 + 1 := ⟨f - 1, by omega⟩
    rw [pl_X12_live_117, if_neg (by decide), q_lmR, q_b]
    rfl
  | succ m ih =>
    intro i f a hi hf
    obtain ⟨f, rfl⟩ : ∃ f9, f = f9 + 1 := ⟨f - 1, by omega⟩
    have e : Int32.ofNat i < 28 := by rw [q_onltL (by omega) (by omega)]; omega
    have ej : Int32.ofNat i + 1 = Int32.ofNat (i + 1) := q_onaL i 1
    have r := hr (40000 + 28 * 3 + i)
    rw [q_rgT (by omega) (by omega), if_neg (by omega), if_neg (by omega)] at r
    have s01 : s (40084 + i) = 0 ∨ s (40084 + i) = 1 := q_b01 r.1 r.2
    have z : ∀ a9, q_cn s (m + 1) i a9 = q_cn s m (i + 1) (a9 + s (40084 + i)) := fun _ => rfl
    rw [pl_X12_live_117, if_pos e, q_g (by omega) (by omega), q_onC (by omega)]
    unfold pl_X12_live_141
    rw [ej]
    rcases s01 with c | c
    · rw [if_pos c, ih (i + 1) f _ (by omega) (by omega), z, c, Int32.add_zero]
    · rw [if_neg (by rw [c]; decide), ih (i + 1) f _ (by omega) (by omega), z, c]
theorem q_cnI (hr : q_R s) : ∀ (m i : Nat) (a : Int32), i + m = 28 → 0 ≤ a.toInt → a.toInt ≤ i → 0 ≤ (q_cn s m i a).toInt ∧ (q_cn s m i a).toInt ≤ 28 := by
  intro m
  induction m with
  | zero =>
    intro i a hi h1 h2
    show 0 ≤ a.toInt ∧ a.toInt ≤ 28
    omega
  | succ m ih =>
    intro i a hi h1 h2
    have r := hr (40000 + 28 * 3 + i)
    rw [q_rgT (by omega) (by omega), if_neg (by omega), if_neg (by omega)] at r
    have r1 : 0 ≤ (s (40084 + i)).toInt ∧ (s (40084 + i)).toInt ≤ 1 := r
    have e : (a + s (40084 + i)).toInt = a.toInt + (s (40084 + i)).toInt := q_add (by omega) (by omega)
    exact ih (i + 1) _ (by omega) (by rw [e]; omega) (by rw [e]; omega)
/-- one byte, three zeros -/
theorem q_b24 (w : Int32) (h1 : 0 ≤ w.toInt) (h2 : w.toInt ≤ 255) : (((w.toInt64 <<< (24 : Int64)) >>> (16 : Int64)) >>> (8 : Int64)).toInt32 &&& (255 : Int32) = w &&& (255 : Int32) ∧ ((w.toInt64 <<< (24 : Int64)) >>> (16 : Int64)).toInt32 &&& (255 : Int32) = 0 &&& (255 : Int32) ∧ (w.toInt64 <<< (24 : Int64)).toInt32 &&& (65535 : Int32) = 0 &&& (65535 : Int32) := by
  have H : ∀ i : Nat, i < 256 → (((((Int32.ofNat i).toInt64 <<< (24 : Int64)) >>> (16 : Int64)) >>> (8 : Int64)).toInt32 &&& (255 : Int32) = Int32.ofNat i &&& (255 : Int32) ∧ (((Int32.ofNat i).toInt64 <<< (24 : Int64)) >>> (16 : Int64)).toInt32 &&& (255 : Int32) = 0 &&& (255 : Int32) ∧ ((Int32.ofNat i).toInt64 <<< (24 : Int64)).toInt32 &&& (65535 : Int32) = 0 &&& (65535 : Int32)) := by decide +kernel
  obtain ⟨i, rfl, hi, -⟩ := q_nat h1
  exact H i (by omega)

theorem q_view1 (h : 0 ≤ (x 5).toInt) : ∃ X, pf_X11_fillView_v1 0 s l x y = some ((), s, l, X, y) ∧ X 10001 = x 5 ∧ X 10002 = s 34004 ∧ X 10003 = s 34005 ∧ X 10004 = s 72 ∧ X 10005 = s 43 ∧ X 10006 = s (9000 + (q_ca (x 5) (s 34004)).toNatClampNeg) ∧ (∀ w, ¬ (10000 ≤ w ∧ w < 10008) → X w = x w) := by
  have cv := q_caV (x 5) (s 34004) h
  obtain ⟨i, ei, hi, -⟩ := q_nat cv.1
  unfold pf_X11_fillView_v1
  rw [q_cellC, q_b]
  have e5 : pj_u (pj_u (pj_u (pj_u (pj_u (pj_u x 10000 0) 10001 (x 5)) 10002 (s 34004)) 10003 (s 34005)) 10004 (s 72)) 10005 (s 43) 5 = x 5 := by simp (disch := omega) only [q_un]
  rw [e5, ei, q_g (by omega) (by omega)]
  refine ⟨_, rfl, ?_, ?_, ?_, ?_, ?_, ?_, ?_⟩
  · simp (disch := omega) only [q_un, q_ua]
  · simp (disch := omega) only [q_un, q_ua]
  · simp (disch := omega) only [q_un, q_ua]
  · simp (disch := omega) only [q_un, q_ua]
  · simp (disch := omega) only [q_un, q_ua]
  · simp (disch := omega) only [q_un, q_ua]
  · intro w hw
    simp (disch := omega) only [q_un]
theorem q_SPid (h : q_S0 E W s l x y u v) (hc : s 37003 = 1) : q_Sv E W (s 37003) (l 93) (pf_X11_servePid (s 37004) s l x y) (pf_X12_live 2 s l u v) := by
  obtain ⟨hI, h0, hK, hA, hS, h65⟩ := h
  have hr := hI.1
  have hw := hI.2.2.2.1
  have x5 := q_x5 hw
  have c1 := hI.2.2.1
  obtain ⟨x1, u1, f1, g1, s1, a1, b1⟩ := q_say (s := s) (l := l) (y := y) (v := v) (a := 65) (b := 65) hS (by omega) rfl
  obtain ⟨x2, u2, f2, g2, s2, a2, b2⟩ := q_say (s := s) (l := l) (y := y) (v := v) (a := s 37004) (b := s 37004) s1 (by omega) rfl
  have fx2 : q_Fx x x2 := q_Fx_t a1 a2
  have fu2 : q_Fu u u2 := q_Fu_t b1 b2
  have e5 : x2 5 = x 5 := fx2 5 (by omega) (by omega) (by omega)
  obtain ⟨X, f3, v1, v2, v3, v4, v5, v6, vo⟩ := q_view1 (s := s) (l := l) (x := x2) (y := y) (by rw [e5]; exact x5.1)
  rw [e5] at v1 v6
  have fxX : q_Fx x X := q_Fx_t fx2 (fun w p q r => vo w r)
  have sX : q_Sy 2 X u2 := q_Sy_x s2 (vo _ (by omega)) rfl (fun i hi => vo _ (by omega)) (fun _ _ => rfl)
  unfold pf_X11_servePid pf_X12_live po_X12_live pl_X12_live_15
  rw [f1, q_b, f2, q_b, f3, q_b, if_pos (show (1 : Int32) < 2 by decide), if_pos rfl]
  generalize s 37004 = p at *
  -- one more said
  have ok : ∀ (n' : Nat) (x' u' : Nat → Int32) (F : Option (Int32 × pj_Z)) (G : Option (Unit × pj_Z)), 1 ≤ n' → q_Sy n' x' u' → q_Fx X x' → q_Fu u2 u' → F = some (0, s, l, x', y) → G = some ((), s, l, u', v) → q_Sv E W (s 37003) (l 93) F G := fun n' x' u' F G hn hs hx hu e1 e2 => q_Sv_ok hI h0 hK hA (q_Fx_t fxX hx) (q_Fu_t fu2 hu) hs hn e1 e2
  by_cases hp : q_Pd p
  · rw [q_isPid1 hp, q_b, if_neg q_n10, g1, q_b, g2, q_b]
    by_cases hd : p = 4 ∨ p = 5 ∨ p = 6 ∨ p = 7 ∨ p = 11 ∨ p = 12 ∨ p = 17
    · obtain ⟨n', x4, u4, f4, g4, hn, s4, a4, b4⟩ := q_descV (s := s) (l := l) (y := y) (v := v) sX (by omega) v1 v2 v3 v4 v5 v6 hd
      rw [f4, q_b, if_neg q_n10]
      refine ok n' x4 u4 _ _ (by omega) s4 a4 b4 rfl ?_
      have nn : ¬ p = 0 ∧ ¬ p = 1 ∧ ¬ p = 3 ∧ ¬ p = 14 ∧ ¬ p = 15 ∧ ¬ p = 20 ∧ ¬ p = 28 ∧ ¬ p = 31 := by
        rcases hd with z | z | z | z | z | z | z <;> rw [z] <;> decide
      obtain ⟨k0, k1, k3, k14, k15, k20, k28, k31⟩ := nn
      rw [if_neg k0, if_neg k1, if_neg k3, if_neg k14, if_neg k15, if_neg k20, if_neg k28, if_neg k31]
      have sp := q_spd (s2 := s) (l2 := l) (u2 := u2) (v2 := v) hw rfl rfl
      have cn := q_cellR (s2 := s) (l2 := l) (u2 := u2) (v2 := v) hw rfl rfl
      have cv := q_caV (x 5) (s 34004) x5.1
      obtain ⟨i, ei, hi, -⟩ := q_nat cv.1
      rw [sp, q_b, cn, q_b, ei, q_g (by omega) (by omega), ← ei, g4, q_b]
    · have d0 := q_descW (p := p) (s := s) (l := l) (x := X) (y := y) (fun z => hd (by simp [z])) (fun z => hd (by simp [z])) (fun z => hd (by simp [z])) (fun z => hd (by simp [z])) (fun z => hd (by simp [z])) (fun z => hd (by simp [z])) (fun z => hd (by simp [z]))
      rw [d0, q_b, if_pos rfl]
      simp only [q_bI]
      by_cases p0 : p = 0
      · rw [if_pos p0, if_pos p0]
        have nc := q_pcC (fu := 1000) (s := s) (l := l) (x := X) (y := y) 14 0 1000 0 (by omega) (by omega)
        have nc' : pf_X8_sayPids s l X y = _ := nc
        have nr := q_pbR (fu := 1000) (s := s) (l := l) (u := u2) (v := v) 32 1 1000 0 (by omega) (by omega)
        have nr' : pl_X12_live_56 1000 1000 0 1 s l u2 v = _ := nr
        obtain ⟨x3, u3, f3, g3, s3, a3, b3⟩ := q_four2 (s := s) (l := l) (y := y) (v := v) sX (by omega) q_pidsE
        exact ok _ x3 u3 _ _ (by omega) s3 a3 b3 (by rw [nc', f3]) (by rw [nr', g3])
      rw [if_neg p0, if_neg p0]
      by_cases p1 : p = 1
      · rw [if_pos p1, if_pos p1]
        have cc := q_cnC (fu := 1000) (s := s) (l := l) (x := X) (y := y) 28 0 1000 0 (by omega) (by omega)
        have cc' : pf_X10_countOf 3 s l X y = some (q_cn s 28 0 0, s, l, X, y) := cc
        have cr := q_cnR (fu := 1000) (s := s) (l := l) (u := u2) (v := v) hr 28 0 1000 0 (by omega) (by omega)
        have cr' : pl_X12_live_117 1000 1000 0 0 s l u2 v = _ := cr
        have ci := q_cnI hr 28 0 0 (by omega) (by decide) (by decide)
        rw [q_lmC, q_b, q_bit, q_b, cc', q_b, cr']
        generalize q_cn s 28 0 0 = w at *
        have K : ∀ b : Int32, (b = 0 ∨ b = 128) → q_Sv E W (s 37003) (l 93) (pf_X8_sayFour (((w + b).toInt64) <<< (24 : Int64)) s l X y) (pl_X12_live_164 1000 w b s l u2 v) := by
          intro b hb
          have wb : 0 ≤ (w + b).toInt ∧ (w + b).toInt ≤ 255 := by
            have o : (128 : Int32).toInt = 128 := rfl
            have o0 : (0 : Int32).toInt = 0 := rfl
            rcases hb with z | z
            · rw [z, q_add (by rw [o0]; omega) (by rw [o0]; omega), o0]; omega
            · rw [z, q_add (by rw [o]; omega) (by rw [o]; omega), o]; omega
          obtain ⟨t1, t2, t3⟩ := q_b24 (w + b) wb.1 wb.2
          obtain ⟨x3, u3, f3, g3, s3, a3, b3⟩ := q_say (s := s) (l := l) (y := y) (v := v) sX (by omega) t1
          obtain ⟨x4, u4, f4, g4, s4, a4, b4⟩ := q_say (s := s) (l := l) (y := y) (v := v) s3 (by omega) t2
          obtain ⟨x5, u5, f5, g5, s5, a5, b5⟩ := q_two2 (s := s) (l := l) (y := y) (v := v) s4 (by omega) t3
          refine ok _ x5 u5 _ _ (by omega) s5 (q_Fx_t a3 (q_Fx_t a4 a5)) (q_Fu_t b3 (q_Fu_t b4 b5)) ?_ ?_
          · have e : pf_X8_sayTwo (((w + b).toInt64 <<< (24 : Int64)) >>> (16 : Int64)) s l X y = some (0, s, l, x4, y) := by
              unfold pf_X8_sayTwo
              rw [f3, q_b, f4, q_b]
            unfold pf_X8_sayFour
            rw [e, q_b, f5, q_b]
          · unfold pl_X12_live_164
            rw [g3, q_b, g4, q_b, g5, q_b]
        have o128 : (128 : Int32).toInt = 128 := rfl
        by_cases z : q_lm s = 0
        · rw [if_pos z, if_pos z]
          have e : 128 * (0 : Int32).toInt64 + w.toInt64 = (w + 0).toInt64 := by
            rw [Int32.add_zero]
            show (0 : Int64) + w.toInt64 = w.toInt64
            rw [Int64.zero_add]
          rw [e]
          exact K 0 (Or.inl rfl)
        · rw [if_neg z, if_neg z]
          have e : 128 * (1 : Int32).toInt64 + w.toInt64 = (w + 128).toInt64 := by
            show (128 : Int64) + w.toInt64 = _
            rw [← Int64.toInt_inj, Int32.toInt_toInt64, q_add (by rw [o128]; omega) (by rw [o128]; omega), o128]
            have o9 : (128 : Int64).toInt = 128 := rfl
            rw [q_addL (by rw [o9, Int32.toInt_toInt64]; omega) (by rw [o9, Int32.toInt_toInt64]; omega), o9, Int32.toInt_toInt64]
            omega
          rw [e]
          exact K 128 (Or.inr rfl)
      rw [if_neg p1, if_neg p1]
      by_cases p3 : p = 3
      · rw [if_pos p3, if_pos p3]
        have K : ∀ b : Int32, (b = 0 ∨ b = 1 ∨ b = 2 ∨ b = 4 ∨ b = 8) → q_Sv E W (s 37003) (l 93) (pj_b (some (b, s, l, X, y)) (fun r10 s10 l10 x10 y10 => pf_X8_sayTwo ((r10 <<< (8 : Int32)).toInt64) s10 l10 x10 y10)) (pl_X12_live_237 1000 b s l u2 v) := by
          intro b hb
          have t1 : ((b <<< (8 : Int32)).toInt64 >>> (8 : Int64)).toInt32 &&& (255 : Int32) = b &&& (255 : Int32) := by
            rcases hb with z | z | z | z | z <;> rw [z] <;> rfl
          have t2 : (b <<< (8 : Int32)).toInt64.toInt32 &&& (255 : Int32) = 0 &&& (255 : Int32) := by
            rcases hb with z | z | z | z | z <;> rw [z] <;> rfl
          obtain ⟨x3, u3, f3, g3, s3, a3, b3⟩ := q_say (s := s) (l := l) (y := y) (v := v) sX (by omega) t1
          obtain ⟨x4, u4, f4, g4, s4, a4, b4⟩ := q_say (s := s) (l := l) (y := y) (v := v) s3 (by omega) t2
          refine ok _ x4 u4 _ _ (by omega) s4 (q_Fx_t a3 a4) (q_Fu_t b3 b4) ?_ ?_
          · unfold pf_X8_sayTwo
            rw [q_b, f3, q_b, f4, q_b]
          · unfold pl_X12_live_237
            rw [g3, q_b, g4, q_b]
        unfold pf_X11_mixtureState
        by_cases d1 : s 19 < 2
        · rw [if_pos d1, if_pos d1]; exact K 0 (by simp)
        rw [if_neg d1, if_neg d1]
        by_cases d2 : s 36007 = 0
        · rw [if_pos d2, if_pos d2]
          by_cases d3 : s 28 = 0
          · rw [if_pos d3, if_pos d3]
            by_cases d4 : s 40 = 0
            · rw [if_pos d4, if_pos d4]; exact K 1 (by simp)
            · rw [if_neg d4, if_neg d4]; exact K 2 (by simp)
          · rw [if_neg d3, if_neg d3]; exact K 4 (by simp)
        · rw [if_neg d2, if_neg d2]; exact K 8 (by simp)
      rw [if_neg p3, if_neg p3]
      have B : ∀ q : Int64, q_Sv E W (s 37003) (l 93) (pf_X8_sayByte q s l X y) (pf_X12_byteOr q s l u2 v) := by
        intro q
        obtain ⟨x3, u3, f3, g3, s3, a3, b3⟩ := q_byteP (s := s) (l := l) (y := y) (v := v) sX (by omega) q
        exact ok _ x3 u3 _ _ (by omega) s3 a3 b3 f3 g3
      by_cases p14 : p = 14
      · rw [if_pos p14, if_pos p14]
        have fl : pf_J9_floorDiv_7cf53 (s 8024) 5 s l X y = some (q_fi (s 8024) 5, s, l, X, y) := q_floorI (by decide)
        have dn : pf_X12_down ((s 8024).toInt64) 5 s l u2 v = some (q_fd (s 8024).toInt64 5, s, l, u2, v) := q_down (by decide)
        have e : (q_fi (s 8024) 5).toInt64 = q_fd (s 8024).toInt64 5 := (q_fiI (b := 5) (by decide)).2.symm
        simp only [q_bU]
        rw [fl, q_b, dn, q_b, ← e]
        exact B _
      rw [if_neg p14, if_neg p14]
      by_cases p15 : p = 15
      · rw [if_pos p15, if_pos p15]
        have r := hr 34006
        have r2 : -10000 ≤ (s 34006).toInt ∧ (s 34006).toInt ≤ 30000 := r
        have o : (40 : Int32).toInt = 40 := rfl
        have o2 : (40 : Int64).toInt = 40 := rfl
        have e : (s 34006 + 40).toInt64 = (s 34006).toInt64 + 40 := by
          rw [← Int64.toInt_inj, Int32.toInt_toInt64, q_add (by rw [o]; omega) (by rw [o]; omega), o, q_addL (by rw [o2, Int32.toInt_toInt64]; omega) (by rw [o2, Int32.toInt_toInt64]; omega), o2, Int32.toInt_toInt64]
        simp only [q_bU]
        rw [e]
        exact B _
      rw [if_neg p15, if_neg p15]
      by_cases p20 : p = 20
      · rw [if_pos p20, if_pos p20]
        obtain ⟨x3, u3, f3, g3, s3, a3, b3⟩ := q_byteP (s := s) (l := l) (y := y) (v := v) sX (by omega) ((s 34007 / 5).toInt64)
        obtain ⟨x4, u4, f4, g4, s4, a4, b4⟩ := q_say (s := s) (l := l) (y := y) (v := v) (a := 255) (b := 255) s3 (by omega) rfl
        exact ok _ x4 u4 _ _ (by omega) s4 (q_Fx_t a3 a4) (q_Fu_t b3 b4) (by rw [f3, q_b, f4]) (by rw [g3, q_b, g4, q_b])
      rw [if_neg p20, if_neg p20]
      by_cases p28 : p = 28
      · rw [if_pos p28, if_pos p28]
        obtain ⟨x3, u3, f3, g3, s3, a3, b3⟩ := q_say (s := s) (l := l) (y := y) (v := v) (a := 6) (b := 6) sX (by omega) rfl
        exact ok _ x3 u3 _ _ (by omega) s3 a3 b3 f3 (by rw [g3, q_b])
      rw [if_neg p28, if_neg p28]
      by_cases p31 : p = 31
      · rw [if_pos p31, if_pos p31]
        have X1 : X 1 = x 1 := fxX 1 (by omega) (by omega) (by omega)
        have h1 := c1.1
        have ht := c1.2.2.2.2
        have o : (100 : Int32).toInt = 100 := rfl
        have ob : (100 : Int64).toInt = 100 := rfl
        have ed : (x 1 / 100).toInt = (x 1).toInt / 100 := by
          rw [q_divI h1.2.1 (by decide), o]
        have edL : (v 12 / 100).toInt = (x 1).toInt / 100 := by
          rw [h1.1, q_divL (by rw [Int32.toInt_toInt64]; exact h1.2.1) (by decide), ob, Int32.toInt_toInt64]
        have ct : (q_ct (v 12 / 100) 0 65535).toInt32 = x 1 / 100 := by
          have e : q_ct (v 12 / 100) 0 65535 = v 12 / 100 := by
            unfold q_ct
            have z1 : ¬ v 12 / 100 < 0 := by
              rw [Int64.lt_iff_toInt_lt, edL]
              have o0 : (0 : Int64).toInt = 0 := rfl
              omega
            have z2 : ¬ 65535 < v 12 / 100 := by
              rw [Int64.lt_iff_toInt_lt, edL]
              have o0 : (65535 : Int64).toInt = 65535 := rfl
              omega
            simp only [if_neg z1, if_neg z2]
          rw [e, ← Int32.toInt_inj, q_32 (by rw [edL]; omega) (by rw [edL]; omega), edL, ed]
        obtain ⟨x3, u3, f3, g3, s3, a3, b3⟩ := q_two2 (s := s) (l := l) (y := y) (v := v) (q := (x 1 / 100).toInt64) (b := x 1 / 100) sX (by omega) (q_64and _)
        refine ok _ x3 u3 _ _ (by omega) s3 a3 b3 (by rw [X1, f3]) ?_
        rw [q_bU]
        unfold pf_X12_wordOr
        rw [q_cut, q_b, ct, g3, q_b]
      · exact absurd hp (by unfold q_Pd; intro z; rcases z with z | z | z | z | z | z | z | z | z | z | z | z | z | z | z; exact p0 z; exact p1 z; exact p3 z; exact hd (by simp [z]); exact hd (by simp [z]); exact hd (by simp [z]); exact hd (by simp [z]); exact hd (by simp [z]); exact hd (by simp [z]); exact p14 z; exact p15 z; exact hd (by simp [z]); exact p20 z; exact p28 z; exact p31 z)
  · rw [q_isPid0 hp, q_b, if_pos rfl]
    have n : ∀ k : Int32, q_Pd k → ¬ p = k := fun k hk z => hp (by rw [z]; exact hk)
    have d0 := q_descW (p := p) (s := s) (l := l) (x := X) (y := y) (n 4 (by unfold q_Pd; simp)) (n 5 (by unfold q_Pd; simp)) (n 6 (by unfold q_Pd; simp)) (n 7 (by unfold q_Pd; simp)) (n 11 (by unfold q_Pd; simp)) (n 12 (by unfold q_Pd; simp)) (n 17 (by unfold q_Pd; simp))
    rw [d0, q_b, if_pos rfl, if_neg (n 0 (by unfold q_Pd; simp)), if_neg (n 1 (by unfold q_Pd; simp)), if_neg (n 3 (by unfold q_Pd; simp)), if_neg (n 14 (by unfold q_Pd; simp)), if_neg (n 15 (by unfold q_Pd; simp)), if_neg (n 20 (by unfold q_Pd; simp)), if_neg (n 28 (by unfold q_Pd; simp)), if_neg (n 31 (by unfold q_Pd; simp))]
    unfold pl_X12_live_28
    rw [q_bU]
    exact q_Sv_no (r := 18) hI h0 hK hA fxX q_Fu0 (by decide) (by decide) rfl (by rw [hc])
end QSPI

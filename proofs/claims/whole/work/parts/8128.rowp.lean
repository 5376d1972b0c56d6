/-! PURE: a row is kept: the pair -/
section QRX
variable {s x u s' x' u' s1 x1 u1 s2 u2 : Nat → Int32} {l y v l' y' v' l2 v2 : Nat → Int64} {D E W : Int} {fu : Nat}
theorem q_fmod {a b : Int32} (h : 0 ≤ a.toInt) (hb : 0 < b.toInt) : pf_J9_floorMod_7cf53 a b s l x y = some (pj_rem a b, s, l, x, y) := by
  have n : ¬ b = 0 := by
    intro e
    rw [e] at hb
    exact absurd hb (by decide)
  have hp : 0 < b := by rw [Int32.lt_iff_toInt_lt]; exact hb
  have c : ¬ (a ^^^ b) < 0 := by
    rw [q_xor32 hp, Int32.lt_iff_toInt_lt]
    simp only [Int32.reduceToInt]
    omega
  unfold pf_J9_floorMod_7cf53
  rw [q_d n, if_neg c]
theorem q_nslot (hc : q_Rc l x u v) : pf_X0_nextSlot s l x y = some (Int32.ofNat ((v 30).toInt % 128).toNat, s, l, x, y) ∧ 3 * (pj_reml (v 30) 128).toInt32 = Int32.ofNat (3 * ((v 30).toInt % 128).toNat) := by
  obtain ⟨h1, h2, h3, h4⟩ := hc
  have b27 : 0 ≤ (x 27).toInt ∧ (x 27).toInt ≤ 128 := by rw [h3]; split <;> omega
  have b28 : 0 ≤ (x 28).toInt ∧ (x 28).toInt ≤ 127 := by rw [h4]; omega
  have e : (x 28 + x 27).toInt = (x 28).toInt + (x 27).toInt := q_add (by omega) (by omega)
  have z : (128 : Int32).toInt = 128 := rfl
  have zL : (128 : Int64).toInt = 128 := rfl
  have r := q_remI (a := x 28 + x 27) (b := 128) (by rw [e]; omega) (by decide)
  rw [e, z] at r
  have rl := q_remIL (a := v 30) (b := 128) h2.1 (by decide)
  rw [zL] at rl
  refine ⟨?_, ?_⟩
  · unfold pf_X0_nextSlot
    rw [q_fmod (by rw [e]; omega) (by decide), q_b]
    have k : pj_rem (x 28 + x 27) 128 = Int32.ofNat ((v 30).toInt % 128).toNat := by
      rw [← Int32.toInt_inj, r, q_onI (by omega), h4]
      omega
    rw [k]
  · have k : (pj_reml (v 30) 128).toInt32 = Int32.ofNat ((v 30).toInt % 128).toNat := by
      rw [← Int32.toInt_inj, q_32 (by rw [rl]; omega) (by rw [rl]; omega), rl, q_onI (by omega)]
      omega
    rw [k, q_onmL]
theorem q_row1 (hI : q_I D E W s l x y u v) {k i f : Nat} (hk : k < 128) (hi : i < 3) : ∃ r : Int64, pl_X11_recordRow_45 fu (f + 1) (Int32.ofNat k) (Int32.ofNat i) s l x y = pl_X11_recordRow_45 fu f (Int32.ofNat k) (Int32.ofNat (i + 1)) s (pj_u l (4000 + i + 3 * k) r) x y ∧ pl_X12_keepRow_36 fu (f + 1) (Int32.ofNat (3 * k)) (Int32.ofNat i) s l u v = pl_X12_keepRow_36 fu f (Int32.ofNat (3 * k)) (Int32.ofNat (i + 1)) s (pj_u l (4000 + i + 3 * k) r) u v := by
  have w := hI.1 (3000 + i)
  have z : q_rg (3000 + i) = (0, 79) := by
    unfold q_rg
    rw [show (3000 + i) / 1000 = 3 by omega]
    rfl
  rw [z] at w
  obtain ⟨n, e, hn, hn2⟩ := q_nat (a := s (3000 + i)) w.1
  obtain ⟨r, t1, t2⟩ := q_tellP hI (w := n) (by omega)
  rw [← e] at t1 t2
  refine ⟨r, ?_, ?_⟩
  · rw [pl_X11_recordRow_45]
    simp (disch := omega) only [q_g, q_r, q_onC, q_onltL, if_pos hi, t1, q_b, q_onaL]
  · rw [pl_X12_keepRow_36]
    simp (disch := omega) only [q_g, q_onC, q_onltL, if_pos hi, t2, q_b, q_onaL, q_ona]
    rw [show 4000 + (3 * k + i) = 4000 + i + 3 * k by omega]
/-- one more row -/
theorem q_Rc_up (hc : q_Rc l x u v) (hs : (v 30).toInt * 10000 + 10000 ≤ (l 93).toInt) (ht : (l 93).toInt ≤ 20000000000) : q_Rc l (if x 27 < 128 then pj_u x 27 (x 27 + 1) else pj_u x 28 (pj_rem (x 28 + 1) 128)) u (pj_u v 30 (v 30 + 1)) := by
  obtain ⟨h1, h2, h3, h4⟩ := hc
  have o : (1 : Int64).toInt = 1 := rfl
  have z : (128 : Int32).toInt = 128 := rfl
  have e30 : (v 30 + 1).toInt = (v 30).toInt + 1 := by rw [q_addL (by rw [o]; omega) (by rw [o]; omega), o]
  have b27 : 0 ≤ (x 27).toInt ∧ (x 27).toInt ≤ 128 := by rw [h3]; split <;> omega
  have b28 : 0 ≤ (x 28).toInt ∧ (x 28).toInt ≤ 127 := by rw [h4]; omega
  unfold q_Rc
  by_cases c : x 27 < 128
  · rw [if_pos c, q_ua, e30]
    rw [Int32.lt_iff_toInt_lt, z] at c
    have e27 : (x 27 + 1).toInt = (x 27).toInt + 1 := q_one (by omega) (by omega)
    simp (disch := omega) only [q_un, q_ua]
    rw [e27]
    refine ⟨h1, ⟨by omega, by omega⟩, ?_, ?_⟩
    · rw [h3] at c ⊢
      by_cases d : (v 30).toInt < 128
      · rw [if_pos d] at c ⊢
        split <;> omega
      · rw [if_neg d] at c; omega
    · rw [h4]
      omega
  · rw [if_neg c, q_ua, e30]
    rw [Int32.lt_iff_toInt_lt, z] at c
    have e28 : (x 28 + 1).toInt = (x 28).toInt + 1 := q_one (by omega) (by omega)
    have r := q_remI (a := x 28 + 1) (b := 128) (by rw [e28]; omega) (by decide)
    rw [e28, z] at r
    simp (disch := omega) only [q_un, q_ua]
    rw [r]
    refine ⟨h1, ⟨by omega, by omega⟩, ?_, ?_⟩
    · rw [h3] at c ⊢
      by_cases d : (v 30).toInt < 128
      · rw [if_pos d] at c; omega
      · rw [if_neg d, if_neg (by omega)]
    · rw [h4]
      omega
def q_mo (s : Nat → Int32) : Nat → Int32 := if 0 < s 5 then pj_u (pj_u s 5 (s 5 - 1)) 4 (if 0 < s 5 - 1 then 1 else 0) else s
theorem q_keepC : pf_X0_keepRow s l x y = some ((), q_mo s, l, (if x 27 < 128 then pj_u x 27 (x 27 + 1) else pj_u x 28 (pj_rem (x 28 + 1) 128)), y) := by
  have k : ∀ x, pl_X0_keepRow_37 s l x y = some ((), q_mo s, l, x, y) := by
    intro x
    unfold pl_X0_keepRow_37 pl_X0_keepRow_67 q_mo
    rw [q_bz0, q_bz1]
    split
    · split <;> rfl
    · rfl
  unfold pf_X0_keepRow
  rw [k, k]
  split <;> rfl
theorem q_keepR {f a : Nat} : pl_X12_keepRow_36 fu (f + 1) (Int32.ofNat a) (Int32.ofNat 3) s l u v = pl_X12_keepRow_108 fu (q_mo s) l u (pj_u v 30 (v 30 + 1)) := by
  have c : ¬ Int32.ofNat 3 < 3 := by decide
  rw [pl_X12_keepRow_36, if_neg c]
  unfold pl_X12_keepRow_105 q_mo
  rw [q_bz0, q_bz1]
  split
  · split <;> rfl
  · rfl
theorem q_rowP (hI : q_I D E W s l x y u v) (h0 : ¬ s 94 = 0) (hs : (v 30).toInt * 10000 + 10000 ≤ (l 93).toInt) : q_Rp D E W (pf_X11_recordRow s l x y) (pf_X12_keepRow s l u v) s l x y v := by
  have hr := hI.1
  have hc := hI.2.2.2.2.2.2.2.2.1
  have hx := hI.2.2.2.2.2.2.2.2.2.2.2.2.1.2
  have h12 := hI.2.2.1.1
  have ht := hI.2.2.1.2.2.2.2
  unfold pf_X11_recordRow po_X11_recordRow pf_X12_keepRow po_X12_keepRow
  by_cases c1 : s 4 = 0
  · rw [if_pos c1, if_pos c1]
    exact q_trig hI h0
  · rw [if_neg c1, if_neg c1]
    have h3 := hx.2.2.2.2.1 c1
    have p3 : 0 < s 3 := by rw [Int32.lt_iff_toInt_lt]; exact h3
    have n3 : ¬ s 3 = 0 := by
      intro z
      rw [z] at h3
      exact absurd h3 (by decide)
    have n3L : ¬ (s 3).toInt64 = 0 := by
      rw [← Int64.toInt_inj, Int32.toInt_toInt64]
      have z : (0 : Int64).toInt = 0 := rfl
      rw [z]
      omega
    have cm := q_rem50 (n := s 3) (m := (s 3).toInt64) h12.1 h12.2.1 rfl h3
    rw [if_pos p3, q_d n3, q_dl n3L]
    by_cases c2 : pj_rem (x 1) (s 3) = 0
    · rw [if_pos c2, if_pos (cm.mp c2)]
      obtain ⟨n1, n2⟩ := q_nslot (s := s) (y := y) hc
      rw [n1, q_b, n2]
      have hk : ((v 30).toInt % 128).toNat < 128 := by omega
      generalize ((v 30).toInt % 128).toNat = k at hk
      obtain ⟨r0, a0, b0⟩ := q_row1 (fu := 1000) (f := 999) hI hk (i := 0) (by omega)
      have I1 := q_I_l (l' := pj_u l (4000 + 0 + 3 * k) r0) hI (fun w hw => q_un (by omega))
      obtain ⟨r1, a1, b1⟩ := q_row1 (fu := 1000) (f := 998) I1 hk (i := 1) (by omega)
      have I2 := q_I_l (l' := pj_u (pj_u l (4000 + 0 + 3 * k) r0) (4000 + 1 + 3 * k) r1) I1 (fun w hw => q_un (by omega))
      obtain ⟨r2, a2, b2⟩ := q_row1 (fu := 1000) (f := 997) I2 hk (i := 2) (by omega)
      have I3 := q_I_l (l' := pj_u (pj_u (pj_u l (4000 + 0 + 3 * k) r0) (4000 + 1 + 3 * k) r1) (4000 + 2 + 3 * k) r2) I2 (fun w hw => q_un (by omega))
      have l93 : (pj_u (pj_u (pj_u l (4000 + 0 + 3 * k) r0) (4000 + 1 + 3 * k) r1) (4000 + 2 + 3 * k) r2) 93 = l 93 := by
        rw [q_un (by omega), q_un (by omega), q_un (by omega)]
      have eC : pl_X11_recordRow_45 1000 1000 (Int32.ofNat k) 0 s l x y = pl_X11_recordRow_45 1000 997 (Int32.ofNat k) (Int32.ofNat 3) s (pj_u (pj_u (pj_u l (4000 + 0 + 3 * k) r0) (4000 + 1 + 3 * k) r1) (4000 + 2 + 3 * k) r2) x y := a0.trans (a1.trans a2)
      have eR : pl_X12_keepRow_36 1000 1000 (Int32.ofNat (3 * k)) 0 s l u v = pl_X12_keepRow_36 1000 997 (Int32.ofNat (3 * k)) (Int32.ofNat 3) s (pj_u (pj_u (pj_u l (4000 + 0 + 3 * k) r0) (4000 + 1 + 3 * k) r1) (4000 + 2 + 3 * k) r2) u v := b0.trans (b1.trans b2)
      rw [eC, eR]
      generalize pj_u (pj_u (pj_u l (4000 + 0 + 3 * k) r0) (4000 + 1 + 3 * k) r1) (4000 + 2 + 3 * k) r2 = L at I3 l93
      have eR2 := q_keepR (fu := 1000) (f := 996) (a := 3 * k) (s := s) (l := L) (u := u) (v := v)
      have eC2 : pl_X11_recordRow_45 1000 (996 + 1) (Int32.ofNat k) (Int32.ofNat 3) s L x y = pl_X11_recordRow_87 1000 (q_mo s) L (if x 27 < 128 then pj_u x 27 (x 27 + 1) else pj_u x 28 (pj_rem (x 28 + 1) 128)) y := by
        have c : ¬ Int32.ofNat 3 < 3 := by decide
        rw [pl_X11_recordRow_45, if_neg c, q_keepC, q_b]
      have eR2 : pl_X12_keepRow_36 1000 997 (Int32.ofNat (3 * k)) (Int32.ofNat 3) s L u v = _ := eR2
      have eC2 : pl_X11_recordRow_45 1000 997 (Int32.ofNat k) (Int32.ofNat 3) s L x y = _ := eC2
      rw [eC2, eR2]
      have a5 : -1 ≤ (s 5).toInt ∧ (s 5).toInt ≤ 64 := hr 5
      have o : ∀ w, ¬ (w = 4 ∨ w = 5) → q_mo s w = s w := by
        intro w hw
        unfold q_mo
        split
        · rw [q_un (by omega), q_un (by omega)]
        · rfl
      have xo : ∀ w, ¬ (w = 27 ∨ w = 28) → (if x 27 < 128 then pj_u x 27 (x 27 + 1) else pj_u x 28 (pj_rem (x 28 + 1) 128)) w = x w := by
        intro w hw
        split
        · rw [q_un (by omega)]
        · rw [q_un (by omega)]
      have J : q_I D E W (q_mo s) L (if x 27 < 128 then pj_u x 27 (x 27 + 1) else pj_u x 28 (pj_rem (x 28 + 1) 128)) y u (pj_u v 30 (v 30 + 1)) := by
        have hc3 := I3.2.2.2.2.2.2.2.2.1
        refine q_I_rc I3 h0 ?_ ?_ (q_Rc_up hc3 (by rw [l93]; exact hs) (by rw [l93]; exact ht.2)) ?_ ?_ (fun _ _ _ => rfl) ?_
        · unfold q_mo
          split
          · rename_i c
            rw [Int32.lt_iff_toInt_lt] at c
            simp only [Int32.reduceToInt] at c
            have e : (s 5 - 1).toInt = (s 5).toInt - 1 := q_sub (by simp only [Int32.reduceToInt]; omega) (by simp only [Int32.reduceToInt]; omega)
            refine q_R_u (q_R_u hr ?_) ?_
            · rw [e]; exact (by omega : -1 ≤ (s 5).toInt - 1 ∧ (s 5).toInt - 1 ≤ 64)
            · show 0 ≤ (if 0 < s 5 - 1 then (1 : Int32) else 0).toInt ∧ (if 0 < s 5 - 1 then (1 : Int32) else 0).toInt ≤ 1
              split <;> decide
          · exact hr
        · have hx3 := I3.2.2.2.2.2.2.2.2.2.2.2.2.1.2
          unfold q_Ex at hx3 ⊢
          rw [o 54 (by omega), o 94 (by omega), o 95 (by omega), o 7 (by omega), o 6 (by omega), o 8 (by omega), o 63 (by omega), o 65 (by omega), o 3 (by omega), o 44 (by omega), o 62 (by omega), o 37000 (by omega), q_Ld_c (x := x) (o 70 (by omega)) (fun j _ => o _ (by omega)) (xo 21 (by omega))]
          exact ⟨hx3.1, hx3.2.1, hx3.2.2.1, hx3.2.2.2.1, fun _ => h3, hx3.2.2.2.2.2⟩
        · intro w hw hn; exact o w (by unfold q_Ss at hw; omega)
        · intro w hw hn; exact xo w (by omega)
        · intro w hw; exact q_un hw
      obtain ⟨s', l', x', u', v', f1, f2, f3, f4, f5, f6, f7, f8, f9, f10⟩ := q_trig (fu := 1000) J (by rw [o 94 (by omega)]; exact h0)
      exact ⟨s', l', x', u', v', f1, f2, f3, by rw [f4, o 94 (by omega)], by rw [f5, o 95 (by omega)], by rw [f6, l93], by rw [f7, xo 1 (by omega)], by rw [f8, xo 2 (by omega)], by rw [f9, xo 22 (by omega)], by rw [f10, q_un (by omega)]⟩
    · rw [if_neg c2, if_neg (fun z => c2 (cm.mpr z))]
      exact q_trig hI h0
end QRX

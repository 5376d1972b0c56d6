/-! PURE: time passes: the pair -/
section QPC
variable {fu : Nat}
theorem q_n_eq {s x u x' u' : Nat → Int32} {n n' : Nat} (h : q_Ev s x u n) (h' : q_Ev s x' u' n') : n = n' := by
  have e : Int32.ofNat n = Int32.ofNat n' := by rw [← h.1, h'.1]
  have a := h.2.1
  have b := h'.2.1
  have : (Int32.ofNat n).toInt = (Int32.ofNat n').toInt := by rw [e]
  rw [q_onI (by omega), q_onI (by omega)] at this
  omega
theorem q_I_off {s x u : Nat → Int32} {l y v : Nat → Int64} {D D' E W : Int} {t : Int64} (hI : q_I D E W s l x y u v) (h0 : s 94 = 0) (h1 : (l 93).toInt ≤ t.toInt) (h2 : t.toInt ≤ 20000000000) : q_I D' E W s (pj_u l 93 t) x y u v := by
  obtain ⟨⟨n, ev, tm⟩, hx⟩ := hI.2.2.2.2.2.2.2.2.2.2.2.2.1
  have o := hI.2.2.2.2.2.2.2.2.2.2.2.2.2 h0
  have e57 : s 57 = 0 := o.1 57 0 rfl
  have n0 : n = 0 := by
    have a := ev.2.1
    have e : (Int32.ofNat n).toInt = 0 := by rw [← ev.1, e57]; rfl
    rw [q_onI (by omega)] at e
    omega
  exact q_I_t hI ev tm h1 h2 (fun i hi => by omega) (fun z => absurd h0 z)
theorem q_passI (a : Int64) (E' W' : Int) (hE' : E' < 2147483647) (hW' : W' < 2147483647) (ha : a.toInt ≤ 20000000000) : ∀ (m K f1 f2 c n : Nat) (E W : Int) (s x u : Nat → Int32) (l y v : Nat → Int64), q_I 0 E W s l x y u v → q_Kl x v → q_Af s → ¬ s 94 = 0 → q_Ev s x u n → q_Tm l n → (l 93).toInt ≤ a.toInt → a.toInt < (l 93).toInt / 10000 * 10000 + 10000 * (K + 1) → q_pot x n + 129 * K ≤ m → m + 1 < f1 → m + 1 < f2 → c + m < 1000000 → E + q_pot x n + 160 * K ≤ E' → W + 60 * K ≤ W' → q_Lp E' W' a (pl_X11_passTo_2 fu f1 a (Int32.ofNat c) s l x y) (pl_X12_passTo_29 fu f2 a (q_nt l) 1 s l u v) := by
  intro m
  induction m with
  | zero => ?_
  | succ m ih => ?_
  all_goals
    intro K f1 f2 c n E W s x u l y v hI hK hA h0 ev tm h93 haK hm hf1 hf2 hc hE hW
    obtain ⟨f1, rfl⟩ : ∃ f9, f1 = f9 + 1 := ⟨f1 - 1, by omega⟩
    obtain ⟨f2, rfl⟩ : ∃ f9, f2 = f9 + 1 + 1 := ⟨f2 - 2, by omega⟩
    have hn := ev.2.1
    have hp := q_pot_le (x := x) n
    have ct := hI.2.2.1
    have t1 := ct.2.2.2.2
    have nt : (q_nt l).toInt = (l 93).toInt / 10000 * 10000 + 10000 := q_nl t1.1 t1.2
    have cc : Int32.ofNat c < 1000000 := by rw [q_onltL (by omega) (by omega)]; omega
    obtain ⟨g1, g2⟩ := q_next (s := s) (l := l) (x := x) (y := y) (u := u) (v := v) hn ev.1 (fun j hj => by
      rw [Int64.lt_iff_toInt_lt]
      have := (tm.2.2 j hj).2
      have e : (9223372036854775807 : Int64).toInt = 9223372036854775807 := rfl
      rw [e]; omega)
    have fin : (∀ i, i < n → a.toInt ≤ (l (16000 + i)).toInt) → a < q_nt l → q_Lp E' W' a (some ((), s, pj_u l 93 a, x, y)) (some ((), s, pj_u l 93 a, u, v)) := by
      intro hT hl
      rw [Int64.lt_iff_toInt_lt, nt] at hl
      refine ⟨_, _, _, _, _, _, rfl, rfl, q_I_mono (q_I_t hI ev tm h93 ha hT (fun _ => by omega)) (by omega) (by omega), hK, hA, q_ua⟩
    have bi := q_best_in (fun j => l (16000 + j)) n 0 none (fun k z => by cases z) (fun k z => by cases z) (fun _ => rfl)
  · -- nothing is left
    have n0 : n = 0 := by omega
    have k0 : K = 0 := by omega
    subst n0 k0
    have q : q_best (fun j => l (16000 + j)) 0 0 none = none := rfl
    rw [q] at g1 g2
    have al : a < q_nt l := by rw [Int64.lt_iff_toInt_lt, nt]; omega
    rw [q_pcN cc h0 g1, q_prN g2, if_pos al, if_pos al]
    exact fin (fun i hi => by omega) al
  · have loop : (∀ i, i < n → (q_nt l).toInt ≤ (l (16000 + i)).toInt) → ¬ a < q_nt l → q_Lp E' W' a (pj_b (pf_X11_oneLoop s (pj_u l 93 (q_nt l)) x y) (fun _ s1 l1 x1 y1 => pl_X11_passTo_2 fu f1 a (Int32.ofNat c + 1) s1 l1 x1 y1)) (pj_b (pf_X12_loop s (pj_u l 93 (q_nt l)) u v) (fun _ s1 l1 x1 y1 => pl_X12_passTo_29 fu (f2 + 1) a (q_nt l + 10000) (q_pwr s1) s1 l1 x1 y1)) := by
      intro hT hl
      rw [Int64.lt_iff_toInt_lt, nt] at hl
      have k1 : 1 ≤ K := by omega
      have hJ := q_I_t (D' := 10000) hI ev tm (by omega) (by omega) hT (fun _ => by omega)
      have rc := hI.2.2.2.2.2.2.2.2.1.2.1
      have hx := hI.2.2.2.2.2.2.2.2.2.2.2.2.1.2.1
      have cx := ct.1
      obtain ⟨s', l', x', y', u', v', F, G, hI1, hK1, hA1, e1⟩ := q_loopP hJ h0 hK hA (by omega) (by omega) (by rw [q_ua]; omega) (by rw [q_ua]; omega) (by rw [q_ua]; omega)
      rw [q_ua] at e1
      rw [F, q_b, G, q_b]
      unfold q_pwr
      by_cases z : s' 94 = 0
      · rw [if_pos z]
        obtain ⟨f1, rfl⟩ : ∃ f9, f1 = f9 + 1 := ⟨f1 - 1, by omega⟩
        have cc1 : Int32.ofNat c + 1 < 1000000 := by rw [q_onaL, q_onltL (by omega) (by omega)]; omega
        rw [q_prZ, pl_X11_passTo_2, if_pos cc1, if_pos z]
        unfold pl_X11_passTo_147
        exact ⟨_, _, _, _, _, _, rfl, rfl, q_I_mono (q_I_off hI1 z (by rw [e1, nt]; omega) ha) (by omega) (by omega), hK1, hA1, q_ua⟩
      · rw [if_neg z]
        obtain ⟨⟨n', ev', tm'⟩, -⟩ := hI1.2.2.2.2.2.2.2.2.2.2.2.2.1
        have hn' := ev'.2.1
        have hp' := q_pot_le (x := x') n'
        have ca : Int32.ofNat c + 1 = Int32.ofNat (c + 1) := q_onaL c 1
        have e2 : q_nt l + 10000 = q_nt l' := by
          rw [← Int64.toInt_inj]
          have o : (10000 : Int64).toInt = 10000 := rfl
          have nt' : (q_nt l').toInt = (l' 93).toInt / 10000 * 10000 + 10000 := q_nl (by rw [e1]; omega) (by rw [e1]; omega)
          rw [q_addL (by rw [o]; omega) (by rw [o]; omega), o, nt', e1]
          omega
        rw [ca, e2]
        obtain ⟨K, rfl⟩ : ∃ K9, K = K9 + 1 := ⟨K - 1, by omega⟩
        refine ih K f1 (f2 + 1) (c + 1) n' (E + 32) (W + 60) s' x' u' l' y' v' hI1 hK1 hA1 z ev' tm' (by rw [e1]; omega) (by rw [e1, nt]; omega) (by omega) (by omega) (by omega) (by omega) (by omega) (by omega)
    cases hb : q_best (fun j => l (16000 + j)) n 0 none with
    | none =>
      rw [hb] at g1 g2
      have n0 := bi.2 hb
      rw [q_pcN cc h0 g1, q_prN g2]
      by_cases al : a < q_nt l
      · rw [if_pos al, if_pos al]
        exact fin (fun i hi => by omega) al
      · rw [if_neg al, if_neg al]
        exact loop (fun i hi => by omega) al
    | some k =>
      rw [hb] at g1 g2
      obtain ⟨kn, kmin⟩ := bi.1 k hb
      have kn : k < n := by omega
      have kmin : ∀ i, i < n → (l (16000 + k)).toInt ≤ (l (16000 + i)).toInt := by
        intro i hi
        have z := kmin i (by omega)
        have z : ¬ l (16000 + i) < l (16000 + k) := z
        rw [Int64.lt_iff_toInt_lt] at z
        omega
      have tk := tm.2.2 k kn
      rw [q_pcS (by omega) cc h0 g1, q_prS (by omega) tk.1 g2]
      by_cases el : l (16000 + k) < q_nt l
      · rw [if_pos el, if_pos el]
        by_cases al : a < l (16000 + k)
        · rw [if_pos al, if_pos al]
          rw [Int64.lt_iff_toInt_lt] at al
          refine fin (fun i hi => by have := kmin i hi; omega) ?_
          rw [Int64.lt_iff_toInt_lt] at el ⊢
          omega
        · rw [if_neg al, if_neg al]
          rw [Int64.lt_iff_toInt_lt] at al el
          rw [nt] at el
          have hJ := q_I_t (D' := 0) (t := l (16000 + k)) hI ev tm tk.1 (by omega) kmin (fun _ => by omega)
          have tmJ : q_Tm (pj_u l 93 (l (16000 + k))) n := by
            obtain ⟨⟨n9, ev9, tm9⟩, -⟩ := hJ.2.2.2.2.2.2.2.2.2.2.2.2.1
            rw [q_n_eq ev ev9]; exact tm9
          have e11 := ct.2.2.1
          obtain ⟨s', l', x', u', v', n', F, G, ev', fr, tm', pt'⟩ := q_happen (y := y) (dm := s 10004) ev kn (l := pj_u l 93 (l (16000 + k))) (by rw [q_ua, q_un (by omega)]) e11.2.1 (by omega) e11.1 rfl
          have tm' := tm' (Int.le_trans (by decide) (hI.1 10004).1) tmJ
          have hI1 := q_I_h hJ h0 fr ev' tm'
          have e94 : s' 94 = s 94 := fr.1 94 (by omega) (by omega)
          have e95 : s' 95 = s 95 := fr.1 95 (by omega) (by omega)
          have e93 : l' 93 = l (16000 + k) := by rw [fr.2.1 93 (by omega) (by omega), q_ua]
          have ca : Int32.ofNat c + 1 = Int32.ofNat (c + 1) := q_onaL c 1
          rw [F, q_b, G, q_b]
          unfold q_pwr
          rw [if_neg (by rw [e94]; exact h0), ca]
          have e2 : q_nt l = q_nt l' := by
            rw [← Int64.toInt_inj]
            have nt' : (q_nt l').toInt = (l' 93).toInt / 10000 * 10000 + 10000 := q_nl (by rw [e93]; omega) (by rw [e93]; omega)
            rw [nt', nt, e93]
            omega
          rw [e2]
          refine ih K f1 (f2 + 1) (c + 1) n' (E + 1) W s' x' u' l' y v' hI1 ?_ ?_ (by rw [e94]; exact h0) ev' tm' (by rw [e93]; omega) (by rw [e93]; omega) (by omega) (by omega) (by omega) (by omega) (by omega) hW
          · unfold q_Kl at hK ⊢
            rw [fr.2.2.1 1 (by omega) (by omega), fr.2.2.1 2 (by omega) (by omega), fr.2.2.2.2.1 13 (by omega)]
            exact hK
          · unfold q_Af at hA ⊢
            rw [e94, e95]; exact hA
      · rw [if_neg el, if_neg el]
        have el2 := el
        rw [Int64.lt_iff_toInt_lt] at el2
        by_cases al : a < q_nt l
        · rw [if_pos al, if_pos al]
          have al2 := al
          rw [Int64.lt_iff_toInt_lt] at al2
          exact fin (fun i hi => by have := kmin i hi; omega) al
        · rw [if_neg al, if_neg al]
          exact loop (fun i hi => by have := kmin i hi; omega) al
theorem q_passF {s x u : Nat → Int32} {l y v : Nat → Int64} {E W : Int} {a : Int64} (hI : q_I 0 E W s l x y u v) (hK : q_Kl x v) (hA : q_Af s) (h1 : (l 93).toInt ≤ a.toInt) (h2 : a.toInt ≤ 20000000000) (K : Nat) (hK2 : K ≤ 5000) (haK : a.toInt < (l 93).toInt / 10000 * 10000 + 10000 * (K + 1)) (hE : E + 128 + 160 * K < 2147483647) (hW : W + 60 * K < 2147483647) (hf : 1000000 < fu) : q_Lp (E + 128 + 160 * K) (W + 60 * K) a (po_X11_passTo fu a s l x y) (po_X12_passTo fu a s l u v) := by
  obtain ⟨f, rfl⟩ : ∃ f9, fu = f9 + 1 := ⟨fu - 1, by omega⟩
  unfold po_X11_passTo po_X12_passTo pl_X12_passTo_27
  by_cases h0 : s 94 = 0
  · have c0 : (0 : Int32) < 1000000 := by decide
    rw [if_pos h0, q_prZ, pl_X11_passTo_2, if_pos c0, if_pos h0]
    unfold pl_X11_passTo_147
    exact ⟨_, _, _, _, _, _, rfl, rfl, q_I_mono (q_I_off hI h0 h1 h2) (by omega) (by omega), hK, hA, q_ua⟩
  · rw [if_neg h0]
    obtain ⟨⟨n, ev, tm⟩, -⟩ := hI.2.2.2.2.2.2.2.2.2.2.2.2.1
    have hn := ev.2.1
    have hp := q_pot_le (x := x) n
    exact q_passI a (E + 128 + 160 * K) (W + 60 * K) hE hW h2 (128 + 129 * K) K (f + 1) (f + 1) 0 n E W s x u l y v hI hK hA h0 ev tm h1 haK (by omega) (by omega) (by omega) (by omega) (by omega) (by omega)
theorem q_passP {s x u : Nat → Int32} {l y v : Nat → Int64} {E W : Int} {a : Int64} (hI : q_I 0 E W s l x y u v) (hK : q_Kl x v) (hA : q_Af s) (h1 : (l 93).toInt ≤ a.toInt) (h2 : a.toInt ≤ 20000000000) (K : Nat) (hK2 : K ≤ 5000) (haK : a.toInt < (l 93).toInt / 10000 * 10000 + 10000 * (K + 1)) (hE : E + 128 + 160 * K < 2147483647) (hW : W + 60 * K < 2147483647) : q_Lp (E + 128 + 160 * K) (W + 60 * K) a (pf_X11_passTo a s l x y) (pf_X12_passTo a s l u v) := by
  unfold pf_X11_passTo pf_X12_passTo
  exact q_passF hI hK hA h1 h2 K hK2 haK hE hW (by omega)
end QPC

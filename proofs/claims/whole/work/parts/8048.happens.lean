/-! PURE: an EVENT happens in class and reference alike: the pair -/
section QQ
variable {s x u : Nat → Int32} {l y v : Nat → Int64} {fu : Nat}
/-- what an EVENT may still bring: itself, and for two kinds one more -/
def q_wk (k : Int32) : Nat := if k = 0 ∨ k = 1 then 2 else 1
def q_pot (x : Nat → Int32) : Nat → Nat
  | 0 => 0
  | n + 1 => q_pot x n + q_wk (x (5000 + n))
theorem q_wk_b (k : Int32) : 1 ≤ q_wk k ∧ q_wk k ≤ 2 := by
  unfold q_wk
  by_cases c : k = 0 ∨ k = 1
  · rw [if_pos c]; omega
  · rw [if_neg c]; omega
theorem q_pot_c {x x' : Nat → Int32} : ∀ (n : Nat), (∀ i, i < n → x' (5000 + i) = x (5000 + i)) → q_pot x' n = q_pot x n := by
  intro n
  induction n with
  | zero => intro _; rfl
  | succ n ih =>
    intro h
    show q_pot x' n + q_wk (x' (5000 + n)) = q_pot x n + q_wk (x (5000 + n))
    rw [ih (fun i hi => h i (by omega)), h n (by omega)]
theorem q_pot_le {x : Nat → Int32} : ∀ (n : Nat), n ≤ q_pot x n ∧ q_pot x n ≤ 2 * n := by
  intro n
  induction n with
  | zero => exact ⟨Nat.le_refl _, Nat.le_refl _⟩
  | succ n ih =>
    have := q_wk_b (x (5000 + n))
    show n + 1 ≤ q_pot x n + q_wk (x (5000 + n)) ∧ q_pot x n + q_wk (x (5000 + n)) ≤ 2 * (n + 1)
    omega
theorem q_pot_x {x x' : Nat → Int32} {e : Nat} : ∀ (n : Nat), e ≤ n → (∀ i, i < n → x' (5000 + i) = x (5000 + q_ix e i)) → q_pot x' n + q_wk (x (5000 + e)) = q_pot x (n + 1) := by
  intro n
  induction n with
  | zero =>
    intro h _
    have : e = 0 := by omega
    subst this
    rfl
  | succ n ih =>
    intro h g
    show q_pot x' n + q_wk (x' (5000 + n)) + q_wk (x (5000 + e)) = q_pot x (n + 1) + q_wk (x (5000 + (n + 1)))
    by_cases c : e = n + 1
    · have z := q_pot_c (x := x) (x' := x') (n + 1) (fun i hi => by
        rw [g i hi]; unfold q_ix; rw [if_pos (by omega)])
      have z : q_pot x' n + q_wk (x' (5000 + n)) = q_pot x (n + 1) := z
      rw [z, c]
    · have z := ih (by omega) (fun i hi => g i (by omega))
      have y := g n (by omega)
      unfold q_ix at y
      rw [if_neg (by omega)] at y
      rw [y]
      omega
theorem q_pot_out {x : Nat → Int32} {n e : Nat} (hn : n ≤ 64) (he : e < n) : q_pot (q_X1 5000 6000 n e x) (n - 1) + q_wk (x (5000 + e)) = q_pot x n := by
  have z := q_pot_x (x := x) (x' := q_X1 5000 6000 n e x) (e := e) (n - 1) (by omega) (fun i hi => q_X1_a (by omega) hn he hi)
  rw [show n - 1 + 1 = n by omega] at z
  exact z
theorem q_pot_in {x : Nat → Int32} {n : Nat} {k d : Int32} (hn : n < 64) : q_pot (pj_u (pj_u x (5000 + n) k) (6000 + n) d) (n + 1) = q_pot x n + q_wk k := by
  show q_pot (pj_u (pj_u x (5000 + n) k) (6000 + n) d) n + q_wk (pj_u (pj_u x (5000 + n) k) (6000 + n) d (5000 + n)) = _
  rw [q_un (by omega), q_ua, q_pot_c (x := x) n (fun i hi => by rw [q_un (by omega), q_un (by omega)])]
theorem q_same {d a d' a' : Int32} (h : d - a = d' - a') (g : a = d) : a' = d' := by
  rw [g, Int32.sub_self] at h
  have z : d' = (d' - a') + a' := by rw [Int32.sub_add_cancel]
  rw [← h, Int32.zero_add] at z
  exact z.symm
theorem q_both {A B C : Prop} (h : A ∧ B) (c : C) : A ∧ B ∧ C := ⟨h.1, h.2, c⟩
theorem q_inc {a : Int32} : a + 1 - a = 1 := by rw [Int32.add_comm, Int32.add_sub_cancel]
def q_Hap (dm : Int32) (e n : Nat) (s : Nat → Int32) (l : Nat → Int64) (x : Nat → Int32) (y : Nat → Int64) (u : Nat → Int32) (v : Nat → Int64) : Prop := ∃ s' l' x' u' v' n', pf_X6_happen (Int32.ofNat e) dm s l x y = some ((), s', l', x', y) ∧ pf_X12_happen (Int32.ofNat e) s l u v = some ((), s', l', u', v') ∧ q_Ev s' x' u' n' ∧ q_Fr s l x u v s' l' x' u' v' ∧ (0 ≤ dm.toInt → q_Tm l n → q_Tm l' n') ∧ q_pot x' n' + 1 ≤ q_pot x n
theorem q_happen {n e : Nat} {dm : Int32} (h : q_Ev s x u n) (he : e < n) (ht : l 93 = l (16000 + e)) (h1 : 0 ≤ (x 11).toInt) (h2 : (x 11).toInt < 2147483647) (hv : v 3 = (x 11).toInt64) (hdm : s 10004 = dm) : q_Hap dm e n s l x y u v := by
  have hn := h.2.1
  have hE := q_Ev_out h he
  obtain ⟨cc, hcc, hc, hk⟩ := h.2.2 e he
  have hC := q_hapC (l := l) (x := x) (y := y) hn he h.1 hc hcc dm
  obtain ⟨f', hR⟩ := q_hapR (l := l) (u := u) (v := v) hn he h.1 hc hcc
  have hR2 := q_hapR2 (s := q_S1 n e s) (l := q_sh 16000 e (n - e - 1) l) (u := q_X1 8000 9000 n e u) (v := v) (fu := 1000) (f := f') (N := n - 1) (cc := cc) q_S1_57 (by omega) hcc (u (8000 + e)) (u (9000 + e))
  rw [hR2] at hR
  clear hR2
  have x11 : q_X1 5000 6000 n e x 11 = x 11 := q_X1_out (by omega) (by omega)
  have sl : q_slot (q_X1 5000 6000 n e x) = q_slot x := by unfold q_slot; rw [x11]
  have hsl := q_slot_lt (x := x)
  have l93 : q_sh 16000 e (n - e - 1) l 93 = l (16000 + e) := by rw [q_sh_out (by omega), ht]
  have h1' : 0 ≤ (q_X1 5000 6000 n e x 11).toInt := by rw [x11]; exact h1
  have hv' : v 3 = (q_X1 5000 6000 n e x 11).toInt64 := by rw [x11]; exact hv
  have dmS : q_S1 n e s 10004 = dm := by rw [q_S1_out (by omega) (by omega)]; exact hdm
  obtain ⟨p1, p2⟩ := q_p1 h1 h2 hv
  have rgc := q_rgB (k := cc) (by omega)
  have rgS := q_rgB (k := q_slot (q_X1 5000 6000 n e x)) (by omega)
  have ncc : (0 : Int) ≤ (Int32.ofNat cc).toInt ∧ (Int32.ofNat cc).toInt ≤ 7 := q_R_nat (c := 7) (by omega) (by omega)
  have st := q_still (s := s) (l := l) (x := x) (u := u) (v := v) hn he hv
  have ptS : q_pot (q_X1 5000 6000 n e x) (n - 1) + 1 ≤ q_pot x n := by
    have z := q_pot_out (x := x) hn he
    have w := q_wk_b (x (5000 + e))
    omega
  have ptQ : ∀ a, q_pot (pj_u (q_X1 5000 6000 n e x) 11 a) (n - 1) + 1 ≤ q_pot x n := by
    intro a
    rw [q_pot_c (x := q_X1 5000 6000 n e x) (n - 1) (fun i hi => q_un (by omega))]
    exact ptS
  have n1 : ¬ (1 : Int32) = 0 := by decide
  have n2 : ¬ (2 : Int32) = 0 := by decide
  have n3 : ¬ (3 : Int32) = 0 := by decide
  have n4 : ¬ (4 : Int32) = 0 := by decide
  rcases hk with ⟨k1, k2, k3, k4, k5⟩ | ⟨k1, k2⟩ | ⟨k1, k2⟩ | ⟨k1, k2⟩ | ⟨k1, k2, k3⟩
  · rw [k1, if_pos rfl] at hC
    rw [k2, if_pos rfl] at hR
    by_cases c : q_S1 n e s (18000 + cc) = 0
    · rw [if_pos c, q_injC q_S1_57 (by omega) hcc h1'] at hC
      rw [if_pos c, q_injR q_S1_57 (by omega) hcc h1' hv' l93] at hR
      rw [← k3] at hR
      rw [x11] at hC
      refine ⟨_, _, _, _, _, n - 1 + 1, hC, hR, q_Ev_in (q_Ev_c hE ?_ ?_ ?_ ?_ ?_ ?_ ?_) (by omega) ⟨cc, hcc, rfl, Or.inr (Or.inl ⟨rfl, rfl⟩)⟩, ⟨?_, ?_, ?_, ?_, ?_, ?_, ?_, ?_, ?_⟩, fun _ z => q_Tm_in (q_Tm_c (q_Tm_out z he) (by rw [q_un (by omega), q_un (by omega)]) (fun i hi => by rw [q_un (by omega), q_un (by omega)])) (by rw [q_un (by omega), q_un (by omega)]; exact l93) k4, ?_⟩
      · rw [q_un (by omega), q_un (by omega), q_un (by omega), q_un (by omega), q_un (by omega)]
      · intro i hi; rw [q_un (by omega), q_un (by omega), q_un (by omega), q_un (by omega), q_un (by omega)]
      · intro i hi; exact q_un (by omega)
      · intro i hi; exact q_un (by omega)
      · intro i hi; rfl
      · intro i hi; rfl
      · intro c hc; rw [q_un (by omega), Int32.sub_self, Int32.sub_self]
      · intro w a b; rw [q_un (by omega), q_un (by omega), q_un (by omega), q_un (by omega), q_un (by omega), q_un (by omega), q_un (by omega), q_S1_out (by omega) (by omega)]
      · intro w a b; rw [q_un (by omega), q_un (by omega), q_un (by omega), q_sh_out (by omega)]
      · intro w a b; rw [q_un (by omega), q_un (by omega), q_un (by omega), q_X1_out (by omega) (by omega)]
      · intro w a; rw [q_un (by omega), q_un (by omega), q_X1_out (by omega) (by omega)]
      · intro w a; rw [q_un (by omega)]
      · rw [q_ua, q_un (by omega), q_un (by omega), q_ua, p1]
      · rw [q_un (by omega), q_un (by omega), q_ua, p2]; omega
      · rw [q_un (by omega), q_un (by omega), q_ua, p2]; omega
      · exact fun r => q_R_u (q_R_u (q_R_u (q_R_u (q_R_u (q_R_u (q_R_u (q_R_S1 hn he r) (by rw [rgc.2.1]; decide)) (by rw [rgc.2.2.2.2.2.1]; decide)) (by rw [rgc.2.2.2.2.2.2.2]; exact ⟨k4, k5⟩)) (by rw [rgS.2.2.2.1]; decide)) (by rw [rgS.2.2.2.2.1]; exact ncc)) (by rw [(q_rgB (by omega)).1]; exact ncc)) (q_R_nat (c := 64) (by omega) (by omega))
      · rw [q_pot_in (by omega), q_pot_c (x := q_X1 5000 6000 n e x) (n - 1) (fun i hi => by rw [q_un (by omega)])]
        have z := q_pot_out (x := x) hn he
        rw [k1] at z
        have w3 : q_wk 3 = 1 := rfl
        have w0 : q_wk 0 = 2 := rfl
        omega
    · rw [if_neg c, q_k0C] at hC
      rw [if_neg c, q_k0R] at hR
      exact ⟨_, _, _, _, _, n - 1, hC, hR, hE, st, fun _ z => q_Tm_out z he, ptS⟩
  · rw [k1, if_neg n3, q_k3C hcc h1'] at hC
    rw [k2, if_neg n1, q_k3R hcc h1' hv', l93] at hR
    by_cases c : q_S1 n e s (18000 + cc) = 0
    · rw [if_pos c] at hC hR
      exact ⟨_, _, _, _, _, n - 1, hC, hR, hE, st, fun _ z => q_Tm_out z he, ptS⟩
    · rw [if_neg c] at hC hR
      rw [x11] at hC
      refine ⟨_, _, _, _, _, n - 1, hC, hR, (q_both ?_ ⟨fun _ z => q_Tm_c (q_Tm_out z he) (q_un (by omega)) (fun i hi => q_un (by omega)), ptQ _⟩)⟩
      refine q_quiet hn he hcc hE h1 h2 hv ?_ ?_ ?_ ?_ (by omega)
      · intro w a b; unfold q_offS; rw [q_un (by omega), q_un (by omega), q_un (by omega)]
      · unfold q_offS; rw [q_un (by omega), q_un (by omega), q_un (by omega)]
      · intro i hi; unfold q_offS; rw [q_un (by omega), q_un (by omega), q_un (by omega)]
      · exact fun r => q_R_u (q_R_u (q_R_u r (by rw [rgc.2.1]; decide)) (by rw [rgS.2.2.2.1]; decide)) (by rw [rgS.2.2.2.2.1]; exact ncc)
  · rw [k1, if_neg n1, q_k1C q_S1_57 (by omega) hcc h1'] at hC
    rw [k2, if_neg n2, q_k1R q_S1_57 (by omega) hcc h1' hv', l93, dmS] at hR
    by_cases c : q_S1 n e s (19000 + cc) = 0
    · rw [if_pos c] at hC hR
      rw [x11] at hC
      refine ⟨_, _, _, _, _, n - 1 + 1, hC, hR, q_Ev_in (s := pj_u (pj_u (pj_u (q_S1 n e s) (19000 + cc) 1) (21000 + q_slot (q_X1 5000 6000 n e x)) 2) (22000 + q_slot (q_X1 5000 6000 n e x)) (Int32.ofNat cc)) (q_Ev_c hE ?_ ?_ ?_ ?_ ?_ ?_ ?_) (by omega) ⟨cc, hcc, rfl, Or.inr (Or.inr (Or.inr (Or.inr ⟨rfl, rfl, ?_⟩)))⟩, ⟨?_, ?_, ?_, ?_, ?_, ?_, ?_, ?_, ?_⟩, fun w z => q_Tm_in (q_Tm_c (q_Tm_out z he) (q_un (by omega)) (fun i hi => q_un (by omega))) (by rw [q_un (by omega)]; exact l93) w, ?_⟩
      · rw [q_un (by omega), q_un (by omega), q_un (by omega)]
      · intro i hi; rw [q_un (by omega), q_un (by omega), q_un (by omega)]
      · intro i hi; rw [q_un (by omega), q_un (by omega)]
      · intro i hi; rw [q_un (by omega), q_un (by omega)]
      · intro i hi; exact q_un (by omega)
      · intro i hi; exact q_un (by omega)
      · intro c hc
        by_cases z : c = cc
        · subst z
          rw [q_un (by omega), q_ua, q_ua, q_inc, q_inc]
        · rw [q_un (by omega), q_un (by omega), q_un (by omega), Int32.sub_self, Int32.sub_self]
      · rw [q_un (by omega), q_ua, q_ua, Int32.sub_self, Int32.sub_self]
      · intro w a b; unfold q_coS; rw [q_un (by omega), q_un (by omega), q_un (by omega), q_un (by omega), q_un (by omega), q_S1_out (by omega) (by omega)]
      · intro w a b; rw [q_un (by omega), q_un (by omega), q_sh_out (by omega)]
      · intro w a b; rw [q_un (by omega), q_un (by omega), q_un (by omega), q_un (by omega), q_X1_out (by omega) (by omega)]
      · intro w a; rw [q_un (by omega), q_un (by omega), q_un (by omega), q_X1_out (by omega) (by omega)]
      · intro w a; rw [q_un (by omega)]
      · rw [q_ua, q_un (by omega), q_un (by omega), q_ua, p1]
      · rw [q_un (by omega), q_un (by omega), q_ua, p2]; omega
      · rw [q_un (by omega), q_un (by omega), q_ua, p2]; omega
      · exact fun r => q_R_u (q_R_u (q_R_u (q_R_u (q_R_u (q_R_S1 hn he r) (by rw [rgc.2.2.1]; decide)) (by rw [rgS.2.2.2.1]; decide)) (by rw [rgS.2.2.2.2.1]; exact ncc)) (by rw [(q_rgB (by omega)).1]; exact ncc)) (q_R_nat (c := 64) (by omega) (by omega))
      · rw [q_pot_in (by omega), q_pot_c (x := q_X1 5000 6000 n e x) (n - 1) (fun i hi => by rw [q_un (by omega), q_un (by omega)])]
        have z := q_pot_out (x := x) hn he
        rw [k1] at z
        have w3 : q_wk 4 = 1 := rfl
        have w0 : q_wk 1 = 2 := rfl
        omega
    · rw [if_neg c] at hC hR
      exact ⟨_, _, _, _, _, n - 1, hC, hR, hE, st, fun _ z => q_Tm_out z he, ptS⟩
  · rw [k1, if_neg n2, q_k2C hcc h1'] at hC
    rw [k2, if_neg n4, q_k2R hcc h1' hv', l93] at hR
    by_cases c : q_S1 n e s (19000 + cc) = 0
    · rw [if_pos c] at hC hR
      exact ⟨_, _, _, _, _, n - 1, hC, hR, hE, st, fun _ z => q_Tm_out z he, ptS⟩
    · rw [if_neg c] at hC hR
      rw [x11] at hC
      refine ⟨_, _, _, _, _, n - 1, hC, hR, (q_both ?_ ⟨fun _ z => q_Tm_c (q_Tm_out z he) (q_un (by omega)) (fun i hi => q_un (by omega)), ptQ _⟩)⟩
      refine q_quiet hn he hcc hE h1 h2 hv ?_ ?_ ?_ ?_ (by omega)
      · intro w a b; unfold q_spS; rw [q_un (by omega), q_un (by omega), q_un (by omega), q_un (by omega), q_un (by omega)]
      · unfold q_spS; rw [q_un (by omega), q_un (by omega), q_un (by omega), q_un (by omega), q_un (by omega)]
      · intro i hi; unfold q_spS; rw [q_un (by omega), q_un (by omega), q_un (by omega), q_un (by omega), q_un (by omega)]
      · exact fun r => q_R_u (q_R_u (q_R_u (q_R_u (q_R_u r q_R_any) (by rw [rgc.2.2.1]; decide)) (by rw [rgc.2.2.2.2.2.2.1]; decide)) (by rw [rgS.2.2.2.1]; decide)) (by rw [rgS.2.2.2.2.1]; exact ncc)
  · rw [k1, if_neg n4, q_k4C hcc h1'] at hC
    rw [k2, if_neg n3, q_k4R hcc h1' hv', l93] at hR
    by_cases c : q_S1 n e s (19000 + cc) = 0
    · rw [if_pos c] at hC hR
      exact ⟨_, _, _, _, _, n - 1, hC, hR, hE, st, fun _ z => q_Tm_out z he, ptS⟩
    · rw [if_neg c] at hC hR
      by_cases c2 : q_X1 5000 6000 n e x (7000 + cc) = x (6000 + e)
      · have c3 : q_X1 8000 9000 n e u (7000 + cc) = u (9000 + e) := by
          rw [q_X1_out (by omega) (by omega)] at c2 ⊢
          exact q_same k3 c2
        rw [if_pos c2, x11] at hC
        rw [if_pos c3] at hR
        refine ⟨_, _, _, _, _, n - 1, hC, hR, (q_both ?_ ⟨fun _ z => q_Tm_c (q_Tm_out z he) (q_un (by omega)) (fun i hi => q_un (by omega)), ptQ _⟩)⟩
        refine q_quiet hn he hcc hE h1 h2 hv ?_ ?_ ?_ ?_ (by omega)
        · intro w a b; unfold q_cuS; rw [q_un (by omega), q_un (by omega), q_un (by omega), q_un (by omega)]
        · unfold q_cuS; rw [q_un (by omega), q_un (by omega), q_un (by omega), q_un (by omega)]
        · intro i hi; unfold q_cuS; rw [q_un (by omega), q_un (by omega), q_un (by omega), q_un (by omega)]
        · exact fun r => q_R_u (q_R_u (q_R_u (q_R_u r (by rw [rgc.2.2.1]; decide)) q_R_any) (by rw [rgS.2.2.2.1]; decide)) (by rw [rgS.2.2.2.2.1]; exact ncc)
      · have c3 : ¬ q_X1 8000 9000 n e u (7000 + cc) = u (9000 + e) := by
          rw [q_X1_out (by omega) (by omega)] at c2 ⊢
          exact fun z => c2 (q_same k3.symm z)
        rw [if_neg c2] at hC
        rw [if_neg c3] at hR
        exact ⟨_, _, _, _, _, n - 1, hC, hR, hE, st, fun _ z => q_Tm_out z he, ptS⟩
end QQ

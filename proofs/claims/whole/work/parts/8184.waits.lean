/-! PURE: what waits is put into the row: the loops -/
section QWA
variable {s x u s' x' u' : Nat → Int32} {l y v l' y' v' : Nat → Int64} {D E W : Int} {fu f k n c : Nat}
def q_bt (k : Nat) : Int32 := if k = 0 then 1 else if k = 1 then 2 else 4
theorem q_w1k (h : q_Wt s x u) (hc : c < 8) (hk : k < 3) : ((u (3000 + c) &&& q_bt k = 0) ↔ x (4000 + 8 * k + c) = -1) ∧ (¬ x (4000 + 8 * k + c) = -1 → x (4000 + 8 * k + c) = u (4000 + 1000 * k + c) ∧ q_Wt s (pj_u x (4000 + 8 * k + c) (-1)) (pj_u u (3000 + c) (u (3000 + c) - q_bt k))) := by
  have z := h.1 c hc
  have A : ((u (3000 + c) &&& q_bt k = 0) ↔ x (4000 + 8 * k + c) = -1) ∧ (¬ x (4000 + 8 * k + c) = -1 → x (4000 + 8 * k + c) = u (4000 + 1000 * k + c) ∧ q_W1 (pj_u x (4000 + 8 * k + c) (-1) (4000 + c)) (pj_u x (4000 + 8 * k + c) (-1) (4008 + c)) (pj_u x (4000 + 8 * k + c) (-1) (4016 + c)) (u (3000 + c) - q_bt k) (u (4000 + c)) (u (5000 + c)) (u (6000 + c))) := by
    match k, hk with
    | 0, _ =>
      have q := q_w10 z
      have a : pj_u x (4000 + 8 * 0 + c) (-1) (4000 + c) = -1 := by rw [show 4000 + 8 * 0 + c = 4000 + c by omega, q_ua]
      have b : pj_u x (4000 + 8 * 0 + c) (-1) (4008 + c) = x (4008 + c) := q_un (by omega)
      have d : pj_u x (4000 + 8 * 0 + c) (-1) (4016 + c) = x (4016 + c) := q_un (by omega)
      rw [a, b, d, show 4000 + 8 * 0 + c = 4000 + c by omega, show 4000 + 1000 * 0 + c = 4000 + c by omega]
      exact q
    | 1, _ =>
      have q := q_w11 z
      have a : pj_u x (4000 + 8 * 1 + c) (-1) (4000 + c) = x (4000 + c) := q_un (by omega)
      have b : pj_u x (4000 + 8 * 1 + c) (-1) (4008 + c) = -1 := by rw [show 4000 + 8 * 1 + c = 4008 + c by omega, q_ua]
      have d : pj_u x (4000 + 8 * 1 + c) (-1) (4016 + c) = x (4016 + c) := q_un (by omega)
      rw [a, b, d, show 4000 + 8 * 1 + c = 4008 + c by omega, show 4000 + 1000 * 1 + c = 5000 + c by omega]
      exact q
    | 2, _ =>
      have q := q_w12 z
      have a : pj_u x (4000 + 8 * 2 + c) (-1) (4000 + c) = x (4000 + c) := q_un (by omega)
      have b : pj_u x (4000 + 8 * 2 + c) (-1) (4008 + c) = x (4008 + c) := q_un (by omega)
      have d : pj_u x (4000 + 8 * 2 + c) (-1) (4016 + c) = -1 := by rw [show 4000 + 8 * 2 + c = 4016 + c by omega, q_ua]
      rw [a, b, d, show 4000 + 8 * 2 + c = 4016 + c by omega, show 4000 + 1000 * 2 + c = 6000 + c by omega]
      exact q
  refine ⟨A.1, fun n => ⟨(A.2 n).1, ?_, ?_⟩⟩
  · intro d hd
    by_cases e : d = c
    · subst e
      have b1 : pj_u u (3000 + d) (u (3000 + d) - q_bt k) (4000 + d) = u (4000 + d) := q_un (by omega)
      have b2 : pj_u u (3000 + d) (u (3000 + d) - q_bt k) (5000 + d) = u (5000 + d) := q_un (by omega)
      have b3 : pj_u u (3000 + d) (u (3000 + d) - q_bt k) (6000 + d) = u (6000 + d) := q_un (by omega)
      have b4 : pj_u u (3000 + d) (u (3000 + d) - q_bt k) (3000 + d) = u (3000 + d) - q_bt k := q_ua
      rw [b1, b2, b3, b4]
      exact (A.2 n).2
    · rw [q_un (by omega), q_un (by omega), q_un (by omega), q_un (by omega), q_un (by omega), q_un (by omega), q_un (by omega)]
      exact h.1 d hd
  · intro d hd g
    by_cases e : d = c
    · subst e
      exfalso
      apply n
      rw [← A.1, h.2 d hd g]
      exact Int32.zero_and
    · rw [q_un (by omega)]; exact h.2 d hd g
def q_Fz (s : Nat → Int32) (l : Nat → Int64) (x u s' : Nat → Int32) (l' : Nat → Int64) (x' u' : Nat → Int32) : Prop := (∀ w, w < 57 ∨ 58 < w → w < 17000 ∨ 17064 ≤ w → s' w = s w) ∧ (∀ w, w < 16000 ∨ 16064 ≤ w → l' w = l w) ∧ (∀ w, (w < 4000 ∨ 4024 ≤ w) → (w < 5000 ∨ 6064 ≤ w) → x' w = x w) ∧ (∀ w, (w < 3000 ∨ 3008 ≤ w) → (w < 8000 ∨ 9064 ≤ w) → u' w = u w)
theorem q_Fz_t {s1 x1 u1 s2 x2 u2 : Nat → Int32} {l1 l2 : Nat → Int64} (h : q_Fz s l x u s1 l1 x1 u1) (g : q_Fz s1 l1 x1 u1 s2 l2 x2 u2) : q_Fz s l x u s2 l2 x2 u2 := by
  obtain ⟨a1, a2, a3, a4⟩ := h
  obtain ⟨b1, b2, b3, b4⟩ := g
  exact ⟨fun w p q => by rw [b1 w p q, a1 w p q], fun w p => by rw [b2 w p, a2 w p], fun w p q => by rw [b3 w p q, a3 w p q], fun w p q => by rw [b4 w p q, a4 w p q]⟩
theorem q_cmt_c (g4 : x' 4 = x 4) (g6 : x' 6 = x 6) (g7 : x' 7 = x 7) (a : Int32) : q_cmt l x' a = q_cmt l x a := by unfold q_cmt; rw [g4, g6, g7]
theorem q_stepP (hI : q_I D E W s l x y u v) (h0 : ¬ s 94 = 0) (ht : l 20 = l 93) (hc : c < 8) (hk : k < 3) (N P : pj_F (Unit × pj_Z)) : ∃ s' l' x' u', (if x (4000 + 8 * k + c) = -1 then N s l x y else if q_st x (x (4000 + 8 * k + c)) = 0 then N s l x y else pj_b (pf_X6_put (q_cmt l x (x (4000 + 8 * k + c))) (Int32.ofNat k) (Int32.ofNat c) (s (8016 + c)) s l (pj_u x (4000 + 8 * k + c) (-1)) y) (fun _ s3 l3 x3 y3 => N s3 l3 x3 y3)) = N s' l' x' y ∧ (if u (3000 + c) &&& q_bt k = 0 then P s l u v else if q_st x (u (4000 + 1000 * k + c)) = 0 then P s l u v else pj_b (pf_X12_put (q_cmt l x (u (4000 + 1000 * k + c))) (q_kd k) (Int32.ofNat c) (q_kx k (s (8016 + c))) s l (pj_u u (3000 + c) (u (3000 + c) - q_bt k)) v) (fun _ s3 l3 x3 y3 => P s3 l3 x3 y3)) = P s' l' u' v ∧ q_I D E W s' l' x' y u' v ∧ q_Fz s l x u s' l' x' u' := by
  obtain ⟨w1, w2⟩ := q_w1k hI.2.2.2.2.2.1 hc hk
  have still : q_Fz s l x u s l x u := ⟨fun _ _ _ => rfl, fun _ _ => rfl, fun _ _ _ => rfl, fun _ _ _ => rfl⟩
  by_cases a : x (4000 + 8 * k + c) = -1
  · rw [if_pos a, if_pos (w1.mpr a)]
    exact ⟨s, l, x, u, rfl, rfl, hI, still⟩
  · obtain ⟨e, hw⟩ := w2 a
    rw [if_neg a, if_neg (fun z => a (w1.mp z)), ← e]
    by_cases d : q_st x (x (4000 + 8 * k + c)) = 0
    · rw [if_pos d, if_pos d]
      exact ⟨s, l, x, u, rfl, rfl, hI, still⟩
    · rw [if_neg d, if_neg d]
      have hJ := q_I_wt hI h0 hw (fun w h => q_un (by omega)) (fun w h => q_un (by omega))
      obtain ⟨s1, l1, x1, u1, F, G, hI1, g1, g2, g3, g4⟩ := q_putP hJ h0 ht hc hk (x (4000 + 8 * k + c))
      rw [q_cmt_c (q_un (by omega)) (q_un (by omega)) (q_un (by omega))] at F G
      rw [F, q_b, G, q_b]
      refine ⟨s1, l1, x1, u1, rfl, rfl, hI1, g1, g2, ?_, ?_⟩
      · intro w p q; rw [g3 w q, q_un (by omega)]
      · intro w p q; rw [g4 w q, q_un (by omega)]
-- the class's steps
theorem q_stepC (hc : c < 8) (hk : k < 3) : pl_X11_putWaiting_2 fu (f + 1) (Int32.ofNat c) (Int32.ofNat k) s l x y = if x (4000 + 8 * k + c) = -1 then pl_X11_putWaiting_2 fu f (Int32.ofNat c) (Int32.ofNat (k + 1)) s l x y else if q_st x (x (4000 + 8 * k + c)) = 0 then pl_X11_putWaiting_2 fu f (Int32.ofNat c) (Int32.ofNat (k + 1)) s l x y else pj_b (pf_X6_put (q_cmt l x (x (4000 + 8 * k + c))) (Int32.ofNat k) (Int32.ofNat c) (s (8016 + c)) s l (pj_u x (4000 + 8 * k + c) (-1)) y) (fun _ s3 l3 x3 y3 => pl_X11_putWaiting_2 fu f (Int32.ofNat c) (Int32.ofNat (k + 1)) s3 l3 x3 y3) := by
  have n : ¬ (2 : Int32) < Int32.ofNat k := by rw [q_onltR (by omega) (by omega)]; omega
  have ek : Int32.ofNat k + 1 = Int32.ofNat (k + 1) := q_onaL k 1
  have gk : ∀ {A : Type} (K : Option A), pj_g (Int32.ofNat k) 3 K = K := fun K => q_g (by omega) (by omega)
  have gc : ∀ {A : Type} (K : Option A), pj_g (Int32.ofNat c) 8 K = K := fun K => q_g (by omega) (by omega)
  rw [pl_X11_putWaiting_2, if_neg n, gk, q_onC (by omega), q_r (by omega), gc, q_onC (by omega)]
  unfold pl_X11_putWaiting_75
  rw [ek, q_stC, q_b, gk, q_r (by omega), gc, q_comesC, q_b, gc]
  have e : l 20 + (q_m72 (x (4000 + 8 * k + c) - (3600 * pj_u x (4000 + 8 * k + c) (-1) 7 + 60 * pj_u x (4000 + 8 * k + c) (-1) 6))).toInt64 * (pj_u x (4000 + 8 * k + c) (-1) 4).toInt64 / 60 = q_cmt l x (x (4000 + 8 * k + c)) := by
    unfold q_cmt
    rw [q_un (by omega), q_un (by omega), q_un (by omega)]
  rw [e]
theorem q_stepC3 (hc : c < 8) : pl_X11_putWaiting_2 fu (f + 1) (Int32.ofNat c) (Int32.ofNat 3) s l x y = some ((), s, l, x, y) := by
  have n : (2 : Int32) < Int32.ofNat 3 := by decide
  rw [pl_X11_putWaiting_2, if_pos n]
end QWA

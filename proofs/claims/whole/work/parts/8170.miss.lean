/-! PURE: misfires are counted and judged -/
section QMI
variable {s x u s' x' u' : Nat → Int32} {l y v l' y' v' : Nat → Int64} {D E W : Int} {fu k n : Nat}
theorem q_fill9 (c : Int32) : ∀ (m i f : Nat) (s : Nat → Int32), i + m = 8 → m < f → pl_J7_fill_53178_v9_5 fu f c (Int32.ofNat i) 8 s l x y = some ((), q_fl 8008 c m i s, l, x, y) := by
  intro m
  induction m with
  | zero =>
    intro i f s hi hf
    obtain ⟨f, rfl⟩ : ∃ f9, f = f9 + 1 := ⟨f - 1, by omega⟩
    have e : ¬ Int32.ofNat i < 8 := by rw [q_onltL (by omega) (by omega)]; omega
    rw [pl_J7_fill_53178_v9_5, if_neg e]; rfl
  | succ m ih =>
    intro i f s hi hf
    obtain ⟨f, rfl⟩ : ∃ f9, f = f9 + 1 := ⟨f - 1, by omega⟩
    have e : Int32.ofNat i < 8 := by rw [q_onltL (by omega) (by omega)]; omega
    rw [pl_J7_fill_53178_v9_5, if_pos e, q_g (by omega) (by omega), q_onC (by omega), show Int32.ofNat i + 1 = Int32.ofNat (i + 1) from q_onaL i 1, ih (i + 1) f _ (by omega) (by omega)]
    rfl
theorem q_seg166 : ∀ (m i f : Nat) (s : Nat → Int32), i + m = 8 → m < f → pl_X12_segment_166 fu f (Int32.ofNat i) s l u v = some ((), q_fl 8008 0 m i s, l, u, v) := by
  intro m
  induction m with
  | zero =>
    intro i f s hi hf
    obtain ⟨f, rfl⟩ : ∃ f9, f = f9 + 1 := ⟨f - 1, by omega⟩
    have e : ¬ Int32.ofNat i < 8 := by rw [q_onltL (by omega) (by omega)]; omega
    rw [pl_X12_segment_166, if_neg e]; rfl
  | succ m ih =>
    intro i f s hi hf
    obtain ⟨f, rfl⟩ : ∃ f9, f = f9 + 1 := ⟨f - 1, by omega⟩
    have e : Int32.ofNat i < 8 := by rw [q_onltL (by omega) (by omega)]; omega
    rw [pl_X12_segment_166, if_pos e, q_g (by omega) (by omega), q_onC (by omega), show Int32.ofNat i + 1 = Int32.ofNat (i + 1) from q_onaL i 1, ih (i + 1) f _ (by omega) (by omega)]
    rfl
/-- both go on, alike: what is left alone -/
def q_Ms (D E W : Int) (l y v : Nat → Int64) (s x u : Nat → Int32) (F G : Option (Unit × pj_Z)) : Prop := ∃ s' x' u', F = some ((), s', l, x', y) ∧ G = some ((), s', l, u', v) ∧ q_I D E W s' l x' y u' v ∧ (∀ w, w < 40000 → ¬ w = 87 → (w < 8008 ∨ 8016 ≤ w) → s' w = s w) ∧ (∀ w, w < 8000 → x' w = x w) ∧ (∀ w, w < 10000 → u' w = u w)
def q_m8 (r : Nat) : Int × Int := match r with | 0 => ((0 : Int), (150 : Int)) | 2 => (0, 25000) | 3 => (-100, 450) | _ => (-2147483648, 2147483647)
set_option maxRecDepth 100000 in
theorem q_rg8a (z : Nat) (h : z / 1000 = 8) : q_rg z = q_m8 ((z - 8000) / 8) := by
  unfold q_rg
  rw [h]
  generalize (z - 8000) / 8 = r
  rfl
theorem q_rg8 {r k : Nat} (hr : r < 4) (hk : k < 8) : q_rg (8000 + 8 * r + k) = if r = 0 then (0, 150) else if r = 2 then (0, 25000) else if r = 3 then (-100, 450) else (-2147483648, 2147483647) := by
  rw [q_rg8a _ (by omega), show (8000 + 8 * r + k - 8000) / 8 = r by omega]
  match r, hr with
  | 0, _ => rfl
  | 1, _ => rfl
  | 2, _ => rfl
  | 3, _ => rfl
theorem q_misI {N : Nat} (hN : N ≤ 8) (h8 : 8 < fu) : ∀ (m i f1 f2 : Nat) (s x u : Nat → Int32), i + m = N → m < f1 → m < f2 → q_I D E W s l x y u v → ¬ s 94 = 0 → s 10000 = Int32.ofNat N → q_Ms D E W l y v s x u (pl_X11_testMisfires_12 fu f1 (Int32.ofNat N) (Int32.ofNat i) s l x y) (pl_X12_segment_114 fu f2 (Int32.ofNat i) s l u v) := by
  intro m
  induction m with
  | zero =>
    intro i f1 f2 s x u hi hf1 hf2 hI h0 e0
    obtain ⟨f1, rfl⟩ : ∃ f9, f1 = f9 + 1 := ⟨f1 - 1, by omega⟩
    obtain ⟨f2, rfl⟩ : ∃ f9, f2 = f9 + 1 := ⟨f2 - 1, by omega⟩
    have c : ¬ Int32.ofNat i < Int32.ofNat N := by rw [q_onlt (by omega) (by omega)]; omega
    rw [pl_X11_testMisfires_12, if_neg c, pl_X12_segment_114, e0, if_neg c]
    unfold pl_X11_testMisfires_77
    have a1 : pf_J7_fill_53178_v9 0 s l x y = some ((), q_fl 8008 0 8 0 s, l, x, y) := by
      unfold pf_J7_fill_53178_v9 po_J7_fill_53178_v9
      exact q_fill9 0 8 0 1000 s (by omega) (by omega)
    have a2 : pl_X12_segment_166 fu fu 0 s l u v = some ((), q_fl 8008 0 8 0 s, l, u, v) := q_seg166 8 0 fu s (by omega) (by omega)
    rw [a1, q_b, a2]
    have g : ∀ w, (w < 8008 ∨ 8016 ≤ w) → q_fl 8008 0 8 0 s w = s w := fun w h => by rw [q_fl_at, if_neg (by omega)]
    refine ⟨_, _, _, rfl, rfl, q_I_s hI h0 ?_ (fun w hw => g w (by unfold q_Ss at hw; omega)), fun w _ _ h => g w h, fun _ _ => rfl, fun _ _ => rfl⟩
    intro w
    rw [q_fl_at]
    by_cases d : 8008 + 0 ≤ w ∧ w < 8008 + 0 + 8
    · rw [if_pos d]
      obtain ⟨k, rfl⟩ : ∃ k, w = 8000 + 8 * 1 + k := ⟨w - 8008, by omega⟩
      rw [q_rg8 (by omega) (by omega)]
      decide
    · rw [if_neg d]; exact hI.1 w
  | succ m ih =>
    intro i f1 f2 s x u hi hf1 hf2 hI h0 e0
    obtain ⟨f1, rfl⟩ : ∃ f9, f1 = f9 + 1 := ⟨f1 - 1, by omega⟩
    obtain ⟨f2, rfl⟩ : ∃ f9, f2 = f9 + 1 := ⟨f2 - 1, by omega⟩
    have c : Int32.ofNat i < Int32.ofNat N := by rw [q_onlt (by omega) (by omega)]; omega
    have c8 : Int32.ofNat i < 8 := by rw [q_onltL (by omega) (by omega)]; omega
    have ei : (20 : Int32) + Int32.ofNat i = Int32.ofNat (20 + i) := by
      show Int32.ofNat 20 + Int32.ofNat i = _
      exact (Int32.ofNat_add 20 i).symm
    have ej : Int32.ofNat i + 1 = Int32.ofNat (i + 1) := q_onaL i 1
    rw [pl_X11_testMisfires_12, if_pos c, if_pos c8, pl_X12_segment_114, e0, if_pos c, q_g (by omega) (by omega), q_g (by omega) (by omega), q_onC (by omega)]
    have go : ∀ (b a3 : Int32), (b = 0 ∧ a3 = 1) ∨ (b = 1 ∧ a3 = 0) → q_Ms D E W l y v s x u (pl_X11_testMisfires_68 fu (pl_X11_testMisfires_12 fu f1) (Int32.ofNat N) (Int32.ofNat i) (20 + Int32.ofNat i) b a3 s l x y) (pl_X12_segment_153 fu (pl_X12_segment_114 fu f2) (Int32.ofNat i) (20 + Int32.ofNat i) b s l u v) := by
      intro b a3 hb
      unfold pl_X11_testMisfires_68 pl_X12_segment_153
      rw [ei, ej]
      obtain ⟨s1, x1, u1, p1, p2, hI1, g1, g2, g3⟩ := q_judgeP hI h0 (k := 20 + i) (by omega) b a3
      have p3 : pf_X12_test (Int32.ofNat (20 + i)) b 1 s l u v = some ((), s1, l, u1, v) := by
        rcases hb with ⟨h1, h2⟩ | ⟨h1, h2⟩
        · rw [h2] at p2; exact p2
        · have n1 : ¬ b = 0 := by rw [h1]; decide
          rw [q_testF hI.1 (by omega) n1] at p2 ⊢
          exact p2
      rw [p1, q_b, p3, q_b]
      have n94 : ¬ s1 94 = 0 := by rw [g1 _ (by omega) (by omega)]; exact h0
      obtain ⟨s2, x2, u2, F, G, hI2, k1, k2, k3⟩ := ih (i + 1) f1 f2 s1 x1 u1 (by omega) (by omega) (by omega) hI1 n94 (by rw [g1 _ (by omega) (by omega)]; exact e0)
      refine ⟨s2, x2, u2, F, G, hI2, ?_, ?_, ?_⟩
      · intro w a b c; rw [k1 w a b c, g1 w a b]
      · intro w a; rw [k2 w a, g2 w (by omega)]
      · intro w a; rw [k3 w a, g3 w (by omega)]
    unfold pl_X11_testMisfires_52
    rw [if_neg (show ¬ (1 : Int32) = 0 by decide), if_pos rfl]
    by_cases d : s 10020 < s (8008 + i)
    · rw [if_pos d, if_pos d]
      exact go 1 0 (Or.inr ⟨rfl, rfl⟩)
    · rw [if_neg d, if_neg d]
      exact go 0 1 (Or.inl ⟨rfl, rfl⟩)
end QMI

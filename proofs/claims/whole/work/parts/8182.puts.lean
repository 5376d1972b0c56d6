/-! PURE: what waits is put into the row -/
section QPU
variable {s x u s' x' u' : Nat → Int32} {l y v l' y' v' : Nat → Int64} {D E W : Int} {fu k n c : Nat}
theorem q_w10 {a b d w i k p : Int32} (h : q_W1 a b d w i k p) : ((w &&& 1 = 0) ↔ a = -1) ∧ (¬ a = -1 → a = i ∧ q_W1 (-1) b d (w - 1) i k p) := by
  obtain ⟨e, h1, h2, h3⟩ := h
  refine ⟨?_, fun z => ⟨h1 z, ?_, fun q => absurd rfl q, h2, h3⟩⟩
  · rw [e]
    by_cases c1 : a = -1 <;> by_cases c2 : b = -1 <;> by_cases c3 : d = -1 <;> simp only [c1, c2, c3, if_true, if_false] <;> decide
  · rw [e]
    by_cases c2 : b = -1 <;> by_cases c3 : d = -1 <;> simp only [z, c2, c3, if_true, if_false] <;> decide
theorem q_w11 {a b d w i k p : Int32} (h : q_W1 a b d w i k p) : ((w &&& 2 = 0) ↔ b = -1) ∧ (¬ b = -1 → b = k ∧ q_W1 a (-1) d (w - 2) i k p) := by
  obtain ⟨e, h1, h2, h3⟩ := h
  refine ⟨?_, fun z => ⟨h2 z, ?_, h1, fun q => absurd rfl q, h3⟩⟩
  · rw [e]
    by_cases c1 : a = -1 <;> by_cases c2 : b = -1 <;> by_cases c3 : d = -1 <;> simp only [c1, c2, c3, if_true, if_false] <;> decide
  · rw [e]
    by_cases c2 : a = -1 <;> by_cases c3 : d = -1 <;> simp only [z, c2, c3, if_true, if_false] <;> decide
theorem q_w12 {a b d w i k p : Int32} (h : q_W1 a b d w i k p) : ((w &&& 4 = 0) ↔ d = -1) ∧ (¬ d = -1 → d = p ∧ q_W1 a b (-1) (w - 4) i k p) := by
  obtain ⟨e, h1, h2, h3⟩ := h
  refine ⟨?_, fun z => ⟨h3 z, ?_, h1, h2, fun q => absurd rfl q⟩⟩
  · rw [e]
    by_cases c1 : a = -1 <;> by_cases c2 : b = -1 <;> by_cases c3 : d = -1 <;> simp only [c1, c2, c3, if_true, if_false] <;> decide
  · rw [e]
    by_cases c2 : a = -1 <;> by_cases c3 : b = -1 <;> simp only [z, c2, c3, if_true, if_false] <;> decide
/-- kinds there, kinds here, what they carry -/
def q_kd (k : Nat) : Int32 := if k = 0 then 0 else if k = 1 then 2 else 4
def q_kx (k : Nat) (d : Int32) : Int32 := if k = 0 then d else 0
def q_cmt (l : Nat → Int64) (x : Nat → Int32) (a : Int32) : Int64 := l 20 + (q_m72 (a - (3600 * x 7 + 60 * x 6))).toInt64 * (x 4).toInt64 / 60
theorem q_cmtI (h4 : 0 ≤ (x 4).toInt ∧ (x 4).toInt ≤ 2010000) (hl : 0 ≤ (l 20).toInt ∧ (l 20).toInt ≤ 20000000000) (a : Int32) : (l 20).toInt ≤ (q_cmt l x a).toInt ∧ (q_cmt l x a).toInt ≤ (l 20).toInt + 300000000 := by
  unfold q_cmt
  have m := q_m72I (a - (3600 * x 7 + 60 * x 6))
  generalize q_m72 (a - (3600 * x 7 + 60 * x 6)) = b at m
  have b1 : 0 ≤ b.toInt ∧ b.toInt ≤ 7199 := by omega
  have p1 := Int.mul_nonneg b1.1 h4.1
  have p2 : b.toInt * (x 4).toInt ≤ 7199 * 2010000 := Int.mul_le_mul b1.2 h4.2 h4.1 (by omega)
  have e1 : (b.toInt64 * (x 4).toInt64).toInt = b.toInt * (x 4).toInt := by rw [q_mulL (by rw [Int32.toInt_toInt64, Int32.toInt_toInt64]; omega) (by rw [Int32.toInt_toInt64, Int32.toInt_toInt64]; omega), Int32.toInt_toInt64, Int32.toInt_toInt64]
  have o : (60 : Int64).toInt = 60 := rfl
  have e2 : (b.toInt64 * (x 4).toInt64 / 60).toInt = b.toInt * (x 4).toInt / 60 := by rw [q_divL (by rw [e1]; exact p1) (by decide), e1, o]
  rw [q_addL (by rw [e2]; omega) (by rw [e2]; omega), e2]
  omega
theorem q_putP (hI : q_I D E W s l x y u v) (h0 : ¬ s 94 = 0) (ht : l 20 = l 93) (hc : c < 8) (hk : k < 3) (a : Int32) : ∃ s' l' x' u', pf_X6_put (q_cmt l x a) (Int32.ofNat k) (Int32.ofNat c) (s (8016 + c)) s l x y = some ((), s', l', x', y) ∧ pf_X12_put (q_cmt l x a) (q_kd k) (Int32.ofNat c) (q_kx k (s (8016 + c))) s l u v = some ((), s', l', u', v) ∧ q_I D E W s' l' x' y u' v ∧ (∀ w, w < 57 ∨ 58 < w → w < 17000 ∨ 17064 ≤ w → s' w = s w) ∧ (∀ w, w < 16000 ∨ 16064 ≤ w → l' w = l w) ∧ (∀ w, w < 5000 ∨ 6064 ≤ w → x' w = x w) ∧ (∀ w, w < 8000 ∨ 9064 ≤ w → u' w = u w) := by
  have hr := hI.1
  obtain ⟨⟨n, ev, tm⟩, -⟩ := hI.2.2.2.2.2.2.2.2.2.2.2.2.1
  have hn := ev.2.1
  have tl := hI.2.2.1.2.2.2.2
  have x4 := hI.2.2.2.1.1.2
  have tI := q_cmtI (x := x) (l := l) x4 (by rw [ht]; exact tl) a
  rw [ht] at tI
  have r8 : 0 ≤ (s (8016 + c)).toInt ∧ (s (8016 + c)).toInt ≤ 25000 := by
    have z := hr (8000 + 8 * 2 + c)
    rw [q_rg8 (by omega) hc] at z
    rw [show 8000 + 8 * 2 + c = 8016 + c by omega] at z
    exact z
  generalize q_cmt l x a = T at tI
  have c3 := hI.2.2.1.2.2.1
  by_cases n64 : n = 64
  · have e57 : s 57 = Int32.ofNat 64 := by rw [ev.1, n64]
    refine ⟨_, _, _, _, q_putC64 e57 _ _ _ _, q_putR64 e57 _ _ _ _, q_I_s hI h0 (q_R_u hr ⟨Int32.le_toInt _, by have := Int32.toInt_lt (s 58 + 1); show _ ≤ (2147483647 : Int); omega⟩) (fun w hw => q_un (by unfold q_Ss at hw; omega)), fun w a b => q_un (by omega), fun _ _ => rfl, fun _ _ => rfl, fun _ _ => rfl⟩
  · have hn2 : n < 64 := by omega
    have e1 : q_E1 x u (Int32.ofNat c) (Int32.ofNat k) (s (8016 + c)) (q_kd k) (q_kx k (s (8016 + c))) := by
      refine ⟨c, hc, rfl, ?_⟩
      unfold q_kd q_kx
      match k, hk with
      | 0, _ => exact Or.inl ⟨rfl, rfl, rfl, r8.1, r8.2⟩
      | 1, _ => exact Or.inr (Or.inr (Or.inl ⟨rfl, rfl⟩))
      | 2, _ => exact Or.inr (Or.inr (Or.inr (Or.inl ⟨rfl, rfl⟩)))
    have fs : ∀ w, w < 57 ∨ 58 < w → w < 17000 ∨ 17064 ≤ w → pj_u (pj_u s (17000 + n) (Int32.ofNat c)) 57 (Int32.ofNat (n + 1)) w = s w := fun w a b => by rw [q_un (by omega), q_un (by omega)]
    have fl : ∀ w, w < 16000 ∨ 16064 ≤ w → pj_u l (16000 + n) T w = l w := fun w a => by rw [q_un (by omega)]
    have fx : ∀ w, w < 5000 ∨ 6064 ≤ w → pj_u (pj_u x (5000 + n) (Int32.ofNat k)) (6000 + n) (s (8016 + c)) w = x w := fun w a => by rw [q_un (by omega), q_un (by omega)]
    have fuu : ∀ w, w < 8000 ∨ 9064 ≤ w → pj_u (pj_u u (8000 + n) (q_kd k)) (9000 + n) (q_kx k (s (8016 + c))) w = u w := fun w a => by rw [q_un (by omega), q_un (by omega)]
    refine ⟨_, _, _, _, q_putC hn2 ev.1 _ _ _ _, q_putR hn2 ev.1 _ _ _ _, q_I_hE hI h0 ⟨?_, ?_, ?_, ?_, fun _ _ => rfl, ?_, ?_, ?_, ?_⟩ (q_Ev_in ev hn2 e1) ?_ ?_, fs, fl, fx, fuu⟩
    · intro w a b; exact fs w (by omega) (by omega)
    · intro w a b; exact fl w (by omega)
    · intro w a b; exact fx w (by omega)
    · intro w a; exact fuu w (by omega)
    · rw [fx 11 (by omega)]; exact c3.1
    · rw [fx 11 (by omega)]; omega
    · rw [fx 11 (by omega)]; omega
    · exact fun r => q_R_u (q_R_u r (by rw [(q_rgB (by omega)).1]; exact q_R_nat (c := 7) (by omega) (by omega))) (q_R_nat (c := 64) (by omega) (by omega))
    · obtain ⟨t1, t2, t3⟩ := tm
      have e93 : pj_u l (16000 + n) T 93 = l 93 := q_un (by omega)
      refine ⟨by rw [e93]; exact t1, by rw [e93]; exact t2, ?_⟩
      intro i hi
      rw [e93]
      by_cases e : i = n
      · rw [e, q_ua]; omega
      · rw [q_un (by omega)]; exact t3 i (by omega)
    · rw [fx 11 (by omega)]; exact c3.2.2
end QPU

/-! PURE: the BENCH: a TEXT is read, basics -/
section QRD
variable {s x u s' x' u' x2 u2 : Nat → Int32} {l y v l' y' v' : Nat → Int64} {D E W : Int} {fu f k n m N p : Nat} {t : Int64} {a b d e r c : Int32}
/-- blanks -/
def q_skn (s : Nat → Int32) : Nat → Nat → Nat
  | 0, p => p
  | m + 1, p => if s (1000 + p) = 32 then q_skn s m (p + 1) else p
def q_sk (s : Nat → Int32) (N p : Nat) : Nat := q_skn s (N - p) p
def q_chr (s : Nat → Int32) (N p : Nat) : Int32 := if p < N then s (1000 + p) else -1
theorem q_skn_r : ∀ (m p : Nat), p ≤ q_skn s m p ∧ q_skn s m p ≤ p + m := by
  intro m
  induction m with
  | zero => intro p; exact ⟨Nat.le_refl _, Nat.le_refl _⟩
  | succ m ih =>
    intro p
    unfold q_skn
    split
    · have := ih (p + 1); omega
    · omega
theorem q_sk_r (h : p ≤ N) : p ≤ q_sk s N p ∧ q_sk s N p ≤ N := by
  unfold q_sk
  have := q_skn_r (s := s) (N - p) p
  omega
def q_CSt (p : Nat) (C : q_Cd) (x : Nat → Int32) : Prop := x 26 = Int32.ofNat p ∧ x 25 = Int32.ofNat C.length ∧ q_cdA 12000 12256 x C 0
def q_ops : q_Cd → (Nat → Int32) → Prop
  | [], _ => True
  | q :: r, u => u (17000 + r.length) = q.1 ∧ u (18000 + r.length) = q.2 ∧ q_ops r u
def q_RS (p : Nat) (R O : q_Cd) (k : Nat) (u : Nat → Int32) : Prop := u 24 = Int32.ofNat p ∧ u 26 = Int32.ofNat R.length ∧ q_cdA 15000 16000 u R 0 ∧ u 27 = Int32.ofNat O.length ∧ q_ops O u ∧ u 28 = Int32.ofNat k
def q_Gx (x x' : Nat → Int32) : Prop := ∀ w, ¬ (w = 25 ∨ w = 26) → ¬ (12000 ≤ w ∧ w < 12512) → x' w = x w
def q_Gu (u u' : Nat → Int32) : Prop := ∀ w, ¬ (w = 24 ∨ (26 ≤ w ∧ w ≤ 28)) → ¬ (15000 ≤ w ∧ w < 18300) → u' w = u w
theorem q_Gx0 : q_Gx x x := fun _ _ _ => rfl
theorem q_Gu0 : q_Gu u u := fun _ _ _ => rfl
theorem q_Gx_t (h : q_Gx x x') (h2 : q_Gx x' x2) : q_Gx x x2 := fun w p q => by rw [h2 w p q, h w p q]
theorem q_Gu_t (h : q_Gu u u') (h2 : q_Gu u' u2) : q_Gu u u2 := fun w p q => by rw [h2 w p q, h w p q]
theorem q_ops_c : ∀ (O : q_Cd), (∀ w, (17000 ≤ w ∧ w < 17000 + O.length) ∨ (18000 ≤ w ∧ w < 18000 + O.length) → u' w = u w) → q_ops O u → q_ops O u' := by
  intro O
  induction O with
  | nil => intro _ _; trivial
  | cons q r ih =>
    intro h hs
    have e : (q :: r).length = r.length + 1 := rfl
    exact ⟨by rw [h _ (by omega)]; exact hs.1, by rw [h _ (by omega)]; exact hs.2.1, ih (fun w hw => h w (by omega)) hs.2.2⟩
-- the class: the next sign
theorem q_nsC9 (hN : N ≤ 200) (hs : s 1 = Int32.ofNat N) : ∀ (m p f : Nat) (x : Nat → Int32), p + m = N → m < f → x 26 = Int32.ofNat p → pl_X0_nextSign_0 1000 f s l x y = some (q_chr s N (q_skn s m p), s, l, pj_u x 26 (Int32.ofNat (q_skn s m p)), y) := by
  intro m
  induction m with
  | zero =>
    intro p f x hp hf hx
    have : p = N := by omega
    subst this
    obtain ⟨f, rfl⟩ : ∃ f9, f = f9 + 1 := ⟨f - 1, by omega⟩
    have n : ¬ x 26 < s 1 := by rw [hx, hs, q_onlt (by omega) (by omega)]; omega
    rw [pl_X0_nextSign_0, if_neg n]
    unfold pl_X0_nextSign_48 q_chr
    rw [if_neg n]
    show _ = some (if p < p then _ else (-1 : Int32), s, l, pj_u x 26 (Int32.ofNat p), y)
    rw [if_neg (by omega), q_uv hx]
  | succ m ih =>
    intro p f x hp hf hx
    obtain ⟨f, rfl⟩ : ∃ f9, f = f9 + 1 := ⟨f - 1, by omega⟩
    have c1 : x 26 < s 1 := by rw [hx, hs, q_onlt (by omega) (by omega)]; omega
    have c2 : x 26 < 200 := by rw [hx, q_onltL (by omega) (by omega)]; omega
    rw [pl_X0_nextSign_0, if_pos c1, if_pos c2, hx, q_g (by omega) (by omega), q_onC (by omega)]
    have e : q_skn s (m + 1) p = if s (1000 + p) = 32 then q_skn s m (p + 1) else p := rfl
    rw [e]
    by_cases c : s (1000 + p) = 32
    · rw [if_pos c, if_pos c, show Int32.ofNat p + 1 = Int32.ofNat (p + 1) from q_onaL p 1, ih (p + 1) f _ (by omega) (by omega) q_ua, q_uu]
    · rw [if_neg c, if_neg c]
      unfold pl_X0_nextSign_48 q_chr
      rw [if_pos c1, if_pos c2, hx, q_g (by omega) (by omega), q_onC (by omega), if_pos (by omega), q_uv hx]
theorem q_nxC (hN : N ≤ 200) (hs : s 1 = Int32.ofNat N) (hp : p ≤ N) (hx : x 26 = Int32.ofNat p) : pf_X0_nextSign s l x y = some (q_chr s N (q_sk s N p), s, l, pj_u x 26 (Int32.ofNat (q_sk s N p)), y) := q_nsC9 hN hs (N - p) p 1000 x (by omega) (by omega) hx
-- the reference: the next sign
theorem q_nsR9 (hN : N ≤ 200) (hs : s 1 = Int32.ofNat N) {K : Int32 → Int32 → Int32 → pj_F (Int32 × pj_Z)} {a1 a2 a3 : Int32} : ∀ (m p f : Nat) (u : Nat → Int32), p + m = N → m < f → u 24 = Int32.ofNat p → pl_X12_readText_31 1000 K f a1 a2 a3 s l u v = pl_X12_readText_93 1000 K a1 a2 a3 (q_chr s N (q_skn s m p)) s l (pj_u u 24 (Int32.ofNat (q_skn s m p))) v := by
  intro m
  induction m with
  | zero =>
    intro p f u hp hf hx
    have : p = N := by omega
    subst this
    obtain ⟨f, rfl⟩ : ∃ f9, f = f9 + 1 := ⟨f - 1, by omega⟩
    have n : ¬ u 24 < s 1 := by rw [hx, hs, q_onlt (by omega) (by omega)]; omega
    rw [pl_X12_readText_31, if_neg n]
    unfold pl_X12_readText_69 q_chr
    rw [if_neg n]
    show _ = pl_X12_readText_93 1000 K a1 a2 a3 (if p < p then _ else (-1 : Int32)) s l (pj_u u 24 (Int32.ofNat p)) v
    rw [if_neg (by omega), q_uv hx]
  | succ m ih =>
    intro p f u hp hf hx
    obtain ⟨f, rfl⟩ : ∃ f9, f = f9 + 1 := ⟨f - 1, by omega⟩
    have c1 : u 24 < s 1 := by rw [hx, hs, q_onlt (by omega) (by omega)]; omega
    rw [pl_X12_readText_31, if_pos c1, hx, q_g (by omega) (by omega), q_onC (by omega)]
    have e : q_skn s (m + 1) p = if s (1000 + p) = 32 then q_skn s m (p + 1) else p := rfl
    rw [e]
    by_cases c : s (1000 + p) = 32
    · rw [if_pos c, if_pos c, show Int32.ofNat p + 1 = Int32.ofNat (p + 1) from q_onaL p 1, ih (p + 1) f _ (by omega) (by omega) q_ua, q_uu]
    · rw [if_neg c, if_neg c]
      unfold pl_X12_readText_69 q_chr
      rw [if_pos c1, hx, q_g (by omega) (by omega), q_onC (by omega), if_pos (by omega), q_uv hx]
theorem q_nxR (hN : N ≤ 200) (hs : s 1 = Int32.ofNat N) (hp : p ≤ N) (hx : u 24 = Int32.ofNat p) {a1 a2 a3 : Int32} (h1 : ¬ a1 = -1) (f : Nat) : pl_X12_readText_26 1000 (f + 1) a1 a2 a3 s l u v = pl_X12_readText_93 1000 (pl_X12_readText_26 1000 f) a1 a2 a3 (q_chr s N (q_sk s N p)) s l (pj_u u 24 (Int32.ofNat (q_sk s N p))) v := by
  rw [pl_X12_readText_26, if_neg h1]
  exact q_nsR9 hN hs (N - p) p 1000 u (by omega) (by omega) hx
theorem q_faultR (hx : u 24 = Int32.ofNat p) {a2 a3 : Int32} (f : Nat) : pl_X12_readText_26 1000 (f + 1) (-1) a2 a3 s l u v = some (Int32.ofNat p, s, l, u, v) := by
  rw [pl_X12_readText_26, if_pos rfl, hx]
-- the class: a step is added
theorem q_cdA_add {bo bn : Nat} {C9 : q_Cd} (h : q_cdA bo bn x C9 0) (hd : bo + C9.length < bn) (w n9 : Int32) : q_cdA bo bn (pj_u (pj_u x (bo + C9.length) w) (bn + C9.length) n9) (C9 ++ [(w, n9)]) 0 := by
  rw [q_cdA_ap]
  refine ⟨q_cdA_c C9 0 (fun z hz => by rw [q_un (by omega), q_un (by omega)]) h, ?_, ?_, trivial⟩
  · show pj_u (pj_u x (bo + C9.length) w) (bn + C9.length) n9 (bo + (0 + C9.length)) = w
    rw [show bo + (0 + C9.length) = bo + C9.length by omega, q_un (by omega), q_ua]
  · show pj_u (pj_u x (bo + C9.length) w) (bn + C9.length) n9 (bn + (0 + C9.length)) = n9
    rw [show bn + (0 + C9.length) = bn + C9.length by omega, q_ua]
theorem q_addC9 {C : q_Cd} (h : q_CSt p C x) (hl : C.length < 256) (w n9 : Int32) : ∃ x', pf_X0_addStep w n9 s l x y = some (Int32.ofNat C.length, s, l, x', y) ∧ q_CSt p (C ++ [(w, n9)]) x' ∧ q_Gx x x' := by
  obtain ⟨h1, h2, h3⟩ := h
  have c : x 25 < 256 := by rw [h2, q_onltL (by omega) (by omega)]; omega
  refine ⟨pj_u (pj_u (pj_u x (12000 + C.length) w) (12256 + C.length) n9) 25 (Int32.ofNat (C.length + 1)), ?_, ⟨?_, ?_, ?_⟩, ?_⟩
  · unfold pf_X0_addStep
    rw [if_pos c, h2, q_g hl (by omega), q_g hl (by omega), q_onC (by omega), q_un (by omega), q_un (by omega), h2, show Int32.ofNat C.length + 1 = Int32.ofNat (C.length + 1) from q_onaL _ 1]
  · rw [q_un (by omega), q_un (by omega), q_un (by omega), h1]
  · rw [q_ua]; simp
  · refine q_cdA_c _ _ (fun z hz => q_un ?_) (q_cdA_add h3 (by omega) w n9)
    simp at hz
    omega
  · intro z a1 a2
    rw [q_un (by omega), q_un (by omega), q_un (by omega)]
-- the reference: code, what waits
theorem q_addR9 {R O : q_Cd} (h : q_RS p R O k u) (hl : R.length < 600) (w n9 : Int32) : ∃ u', pf_X12_add w n9 s l u v = some ((), s, l, u', v) ∧ q_RS p (R ++ [(w, n9)]) O k u' ∧ (∀ z, ¬ z = 26 → ¬ (15000 ≤ z ∧ z < 16600) → u' z = u z) := by
  obtain ⟨h1, h2, h3, h4, h5, h6⟩ := h
  have hO : True := trivial
  refine ⟨pj_u (pj_u (pj_u u (15000 + R.length) w) (16000 + R.length) n9) 26 (Int32.ofNat (R.length + 1)), ?_, ⟨?_, ?_, ?_, ?_, ?_, ?_⟩, ?_⟩
  · unfold pf_X12_add
    rw [h2, q_g hl (by omega), q_onC (by omega), q_un (show ¬ 26 = 15000 + R.length by omega), h2, q_g hl (by omega), q_onC (by omega), q_un (by omega), q_un (by omega), h2, show Int32.ofNat R.length + 1 = Int32.ofNat (R.length + 1) from q_onaL _ 1]
  · rw [q_un (by omega), q_un (by omega), q_un (by omega), h1]
  · rw [q_ua]; simp
  · refine q_cdA_c _ _ (fun z hz => q_un ?_) (q_cdA_add h3 (by omega) w n9)
    simp at hz
    omega
  · rw [q_un (by omega), q_un (by omega), q_un (by omega), h4]
  · refine q_ops_c O (fun z hz => ?_) h5
    rw [q_un (by omega), q_un (by omega), q_un (by omega)]
  · rw [q_un (by omega), q_un (by omega), q_un (by omega), h6]
  · intro z a1 a2
    rw [q_un (by omega), q_un (by omega), q_un (by omega)]
theorem q_awR9 {R O : q_Cd} (h : q_RS p R O k u) (hl : O.length < 300) (hR : R.length < 600) (w n9 : Int32) : ∃ u', pf_X12_awaits w n9 s l u v = some ((), s, l, u', v) ∧ q_RS p R ((w, n9) :: O) k u' ∧ q_Gu u u' := by
  obtain ⟨h1, h2, h3, h4, h5, h6⟩ := h
  refine ⟨pj_u (pj_u (pj_u u (17000 + O.length) w) (18000 + O.length) n9) 27 (Int32.ofNat (O.length + 1)), ?_, ⟨?_, ?_, ?_, ?_, ⟨?_, ?_, ?_⟩, ?_⟩, ?_⟩
  · unfold pf_X12_awaits
    rw [h4, q_g hl (by omega), q_onC (by omega), q_un (show ¬ 27 = 17000 + O.length by omega), h4, q_g hl (by omega), q_onC (by omega), q_un (by omega), q_un (by omega), h4, show Int32.ofNat O.length + 1 = Int32.ofNat (O.length + 1) from q_onaL _ 1]
  · rw [q_un (by omega), q_un (by omega), q_un (by omega), h1]
  · rw [q_un (by omega), q_un (by omega), q_un (by omega), h2]
  · refine q_cdA_c R 0 (fun z hz => ?_) h3
    rw [q_un (by omega), q_un (by omega), q_un (by omega)]
  · rw [q_ua]; simp
  · rw [q_un (by omega), q_un (by omega), q_ua]
  · rw [q_un (by omega), q_ua]
  · refine q_ops_c O (fun z hz => ?_) h5
    rw [q_un (by omega), q_un (by omega), q_un (by omega)]
  · rw [q_un (by omega), q_un (by omega), q_un (by omega), h6]
  · intro z a1 a2
    rw [q_un (by omega), q_un (by omega), q_un (by omega)]
def q_tkd (O : q_Cd) : Int32 := match O with | [] => 0 | q :: _ => q.1
theorem q_topR9 {R O : q_Cd} (h : q_RS p R O k u) (hl : O.length ≤ 300) : pf_X12_top s l u v = some (q_tkd O, s, l, u, v) := by
  obtain ⟨h1, h2, h3, h4, h5, h6⟩ := h
  unfold pf_X12_top q_tkd
  cases O with
  | nil =>
    have z : u 27 = 0 := h4
    rw [if_pos z]
  | cons q r =>
    have e : (q :: r).length = r.length + 1 := rfl
    rw [e] at h4 hl
    have n : ¬ u 27 = 0 := by
      rw [h4]
      intro z
      have : (Int32.ofNat (r.length + 1)).toInt = 0 := by rw [z]; rfl
      rw [q_onI (by omega)] at this
      omega
    rw [if_neg n, h4, q_ofs, q_g (by omega) (by omega), q_onC (by omega), h5.1]
/-- one is taken away -/
theorem q_RS_pop {R O : q_Cd} {q : Int32 × Int32} (h : q_RS p R (q :: O) k u) : q_RS p R O k (pj_u u 27 (u 27 - 1)) := by
  obtain ⟨h1, h2, h3, h4, h5, h6⟩ := h
  have e : (q :: O).length = O.length + 1 := rfl
  rw [e] at h4
  refine ⟨by rw [q_un (by omega)]; exact h1, by rw [q_un (by omega)]; exact h2, q_cdA_c R 0 (fun z hz => q_un (by omega)) h3, by rw [q_ua, h4, q_ofs], q_ops_c O (fun z hz => q_un (by omega)) h5.2.2, by rw [q_un (by omega)]; exact h6⟩
theorem q_RS_28 {R O : q_Cd} (h : q_RS p R O k u) (k' : Nat) : q_RS p R O k' (pj_u u 28 (Int32.ofNat k')) := by
  obtain ⟨h1, h2, h3, h4, h5, h6⟩ := h
  exact ⟨by rw [q_un (by omega)]; exact h1, by rw [q_un (by omega)]; exact h2, q_cdA_c R 0 (fun z hz => q_un (by omega)) h3, by rw [q_un (by omega)]; exact h4, q_ops_c O (fun z hz => q_un (by omega)) h5, q_ua⟩
theorem q_RS_24 {R O : q_Cd} (h : q_RS p R O k u) (p' : Nat) : q_RS p' R O k (pj_u u 24 (Int32.ofNat p')) := by
  obtain ⟨h1, h2, h3, h4, h5, h6⟩ := h
  exact ⟨q_ua, by rw [q_un (by omega)]; exact h2, q_cdA_c R 0 (fun z hz => q_un (by omega)) h3, by rw [q_un (by omega)]; exact h4, q_ops_c O (fun z hz => q_un (by omega)) h5, by rw [q_un (by omega)]; exact h6⟩
theorem q_CSt_26 {C : q_Cd} (h : q_CSt p C x) (p' : Nat) : q_CSt p' C (pj_u x 26 (Int32.ofNat p')) := by
  obtain ⟨h1, h2, h3⟩ := h
  exact ⟨q_ua, by rw [q_un (by omega)]; exact h2, q_cdA_c C 0 (fun z hz => q_un (by omega)) h3⟩
end QRD

/-! PURE: BOOT: cells, maps, the frame -/
section QBP
variable {s x u s' x' u' : Nat → Int32} {l y v l' y' v' : Nat → Int64} {D E W : Int} {fu f k n : Nat} {t : Int64} {a b d e p r : Int32}
-- the cells
def q_ce (c i : Nat) (s : Nat → Int32) : Nat → Int32 := fun w => if 9000 + i ≤ w ∧ w < 9016 then q_cl (s (13000 + 55 * c + (37 + (w - 9000)))).toInt64 (-100) 100 else s w
theorem q_ce_step {c i : Nat} (hc : c < 2) (hi : i < 16) : q_ce c (i + 1) (pj_u s (9000 + i) (q_cl (s (13000 + 55 * c + (37 + i))).toInt64 (-100) 100)) = q_ce c i s := by
  funext w
  unfold q_ce
  by_cases c1 : 9000 + (i + 1) ≤ w ∧ w < 9016
  · rw [if_pos c1, if_pos (by omega), q_un (by omega)]
  · rw [if_neg c1]
    by_cases d : w = 9000 + i
    · rw [if_pos (by omega), d, q_ua, show 9000 + i - 9000 = i by omega]
    · rw [if_neg (by omega), q_un d]
theorem q_ce_end {c : Nat} : q_ce c 16 s = s := by
  funext w
  unfold q_ce
  rw [if_neg (by omega)]
theorem q_ceC {c : Nat} (hc : c < 2) : ∀ (m i f : Nat) (s : Nat → Int32), i + m = 16 → m < f → pl_X3_takeOver_10 fu f c (Int32.ofNat i) s l x y = some ((), q_ce c i s, l, x, y) := by
  intro m
  induction m with
  | zero =>
    intro i f s hi hf
    have : i = 16 := by omega
    subst this
    obtain ⟨f, rfl⟩ : ∃ f9, f = f9 + 1 := ⟨f - 1, by omega⟩
    have e : ¬ Int32.ofNat 16 < 16 := by decide
    rw [pl_X3_takeOver_10, if_neg e, q_ce_end]
  | succ m ih =>
    intro i f s hi hf
    obtain ⟨f, rfl⟩ : ∃ f9, f = f9 + 1 := ⟨f - 1, by omega⟩
    have e : Int32.ofNat i < 16 := by rw [q_onltL (by omega) (by omega)]; omega
    have e1 : (37 : Int32) + Int32.ofNat i = Int32.ofNat (37 + i) := q_onR (m := 37)
    have ej : Int32.ofNat i + 1 = Int32.ofNat (i + 1) := q_onaL i 1
    rw [pl_X3_takeOver_10, if_pos e, e1, q_r hc, q_g (by omega) (by omega), q_onC (by omega), q_clip, q_b, q_g (by omega) (by omega), q_onC (by omega), ej, ih (i + 1) f _ (by omega) (by omega), q_ce_step hc (by omega)]
theorem q_ceR {c : Nat} (hc : c < 2) : ∀ (m i f : Nat) (s : Nat → Int32), i + m = 16 → m < f → pl_X12_boot_268 fu f (Int32.ofNat (55 * c)) (Int32.ofNat i) s l u v = some ((), pj_u (q_ce c i s) 88 (s (13000 + 55 * c + 53)), l, u, v) := by
  intro m
  induction m with
  | zero =>
    intro i f s hi hf
    have : i = 16 := by omega
    subst this
    obtain ⟨f, rfl⟩ : ∃ f9, f = f9 + 1 := ⟨f - 1, by omega⟩
    have e : ¬ Int32.ofNat 16 < 16 := by decide
    have e5 : Int32.ofNat (55 * c) + 53 = Int32.ofNat (55 * c + 53) := q_onaL _ 53
    rw [pl_X12_boot_268, if_neg e, q_ce_end, e5, q_g (by omega) (by omega), q_onC (by omega), show 13000 + (55 * c + 53) = 13000 + 55 * c + 53 by omega]
  | succ m ih =>
    intro i f s hi hf
    obtain ⟨f, rfl⟩ : ∃ f9, f = f9 + 1 := ⟨f - 1, by omega⟩
    have e : Int32.ofNat i < 16 := by rw [q_onltL (by omega) (by omega)]; omega
    have cl1 : ∀ b : Int64, (q_ct b (-100) 100).toInt32 = q_cl b (-100) 100 := fun b => q_cut_cl b (-100) 100
    have e1 : Int32.ofNat (55 * c) + 37 + Int32.ofNat i = Int32.ofNat (55 * c + (37 + i)) := by
      rw [show Int32.ofNat (55 * c) + 37 = Int32.ofNat (55 * c + 37) from q_onaL _ 37, q_onR, show 55 * c + 37 + i = 55 * c + (37 + i) by omega]
    have ej : Int32.ofNat i + 1 = Int32.ofNat (i + 1) := q_onaL i 1
    rw [pl_X12_boot_268, if_pos e, e1, q_g (by omega) (by omega), q_onC (by omega), q_cut, q_b, cl1, q_g (by omega) (by omega), q_onC (by omega), ej, show 13000 + (55 * c + (37 + i)) = 13000 + 55 * c + (37 + i) by omega, ih (i + 1) f _ (by omega) (by omega), q_ce_step hc (by omega), q_un (by omega)]
-- the maps
def q_mp (c i : Nat) (s : Nat → Int32) : Nat → Int32 := fun w => if 12000 + i ≤ w ∧ w < 12032 then s (14000 + 34 * c + (1 + (w - 12000))) else s w
theorem q_mp_step {c i : Nat} (hc : c < 2) (hi : i < 32) : q_mp c (i + 1) (pj_u s (12000 + i) (s (14000 + 34 * c + (1 + i)))) = q_mp c i s := by
  funext w
  unfold q_mp
  by_cases c1 : 12000 + (i + 1) ≤ w ∧ w < 12032
  · rw [if_pos c1, if_pos (by omega), q_un (by omega)]
  · rw [if_neg c1]
    by_cases d : w = 12000 + i
    · rw [if_pos (by omega), d, q_ua, show 12000 + i - 12000 = i by omega]
    · rw [if_neg (by omega), q_un d]
theorem q_mp_end {c : Nat} : q_mp c 32 s = s := by
  funext w
  unfold q_mp
  rw [if_neg (by omega)]
theorem q_mpR {c : Nat} (hc : c < 2) : ∀ (m i f : Nat) (s : Nat → Int32), i + m = 32 → m < f → pl_X12_boot_49 fu f (Int32.ofNat c) (Int32.ofNat i) s l u v = pl_X12_boot_85 fu (q_mp c i s) l u v := by
  intro m
  induction m with
  | zero =>
    intro i f s hi hf
    have : i = 32 := by omega
    subst this
    obtain ⟨f, rfl⟩ : ∃ f9, f = f9 + 1 := ⟨f - 1, by omega⟩
    have e : ¬ Int32.ofNat 32 < 32 := by decide
    rw [pl_X12_boot_49, if_neg e, q_mp_end]
  | succ m ih =>
    intro i f s hi hf
    obtain ⟨f, rfl⟩ : ∃ f9, f = f9 + 1 := ⟨f - 1, by omega⟩
    have e : Int32.ofNat i < 32 := by rw [q_onltL (by omega) (by omega)]; omega
    have e1 : (34 : Int32) * Int32.ofNat c + 1 + Int32.ofNat i = Int32.ofNat (34 * c + (1 + i)) := by
      rw [show (34 : Int32) * Int32.ofNat c = Int32.ofNat (34 * c) from (Int32.ofNat_mul 34 c).symm, show Int32.ofNat (34 * c) + 1 = Int32.ofNat (34 * c + 1) from q_onaL _ 1, q_onR, show 34 * c + 1 + i = 34 * c + (1 + i) by omega]
    have ej : Int32.ofNat i + 1 = Int32.ofNat (i + 1) := q_onaL i 1
    rw [pl_X12_boot_49, if_pos e, if_neg (q_encn (by omega)), e1, q_g (by omega) (by omega), q_onC (by omega), q_g (by omega) (by omega), q_onC (by omega), ej, show 14000 + (34 * c + (1 + i)) = 14000 + 34 * c + (1 + i) by omega, ih (i + 1) f _ (by omega) (by omega), q_mp_step hc (by omega)]
theorem q_mpC {c : Nat} (hc : c < 2) : pl_X4_takeOverMaps_16 (Int32.ofNat c) s l x y = some ((), q_mp c 0 s, l, x, y) := by
  unfold pl_X4_takeOverMaps_16
  have c1 : ∀ {A : Type} (K : Option A), pj_c 1 0 16 34 16 K = K := fun K => q_c (sp := 1) (dp := 0) (m := 16) (by omega) (by omega) (by omega) (by omega)
  have c2 : ∀ {A : Type} (K : Option A), pj_c 17 0 16 34 16 K = K := fun K => q_c (sp := 17) (dp := 0) (m := 16) (by omega) (by omega) (by omega) (by omega)
  rw [q_g hc (by omega), q_onC (by omega), q_r hc, c1, q_g hc (by omega), q_r hc, c2]
  have e : pj_y (pj_y s 12000 16 s (14000 + 34 * c + 1)) 12016 16 (pj_y s 12000 16 s (14000 + 34 * c + 1)) (14000 + 34 * c + 17) = q_mp c 0 s := by
    funext w
    unfold q_mp
    by_cases d1 : 12016 ≤ w ∧ w < 12016 + 16
    · rw [q_y_at d1, q_y_out (by omega), if_pos (by omega)]
      exact congrArg s (by omega)
    · rw [q_y_out d1]
      by_cases d2 : 12000 ≤ w ∧ w < 12000 + 16
      · rw [q_y_at d2, if_pos (by omega)]
        exact congrArg s (by omega)
      · rw [q_y_out d2, if_neg (by omega)]
  rw [e]
-- the frame
def q_b87 (w : Int32) : Int32 := if w < 1 then 0 else if 28 < w then 0 else 1
theorem q_b87v (w : Int32) : q_b87 w = 0 ∨ q_b87 w = 1 := by
  unfold q_b87
  split
  · exact Or.inl rfl
  · split
    · exact Or.inl rfl
    · exact Or.inr rfl
def q_fx (c i : Nat) (s x : Nat → Int32) : Nat → Int32 := fun w => if 8000 + i ≤ w ∧ w < 8008 then (if s 87 = 0 then 0 else s (13000 + 55 * c + (29 + (w - 8000)))) else x w
theorem q_fx_step {c i : Nat} (hi : i < 8) : q_fx c (i + 1) s (pj_u x (8000 + i) (if s 87 = 0 then 0 else s (13000 + 55 * c + (29 + i)))) = q_fx c i s x := by
  funext w
  unfold q_fx
  by_cases c1 : 8000 + (i + 1) ≤ w ∧ w < 8008
  · rw [if_pos c1, if_pos (show 8000 + i ≤ w ∧ w < 8008 by omega)]
  · rw [if_neg c1]
    by_cases d : w = 8000 + i
    · rw [if_pos (show 8000 + i ≤ w ∧ w < 8008 by omega), d, q_ua, show 8000 + i - 8000 = i by omega]
    · rw [if_neg (show ¬ (8000 + i ≤ w ∧ w < 8008) by omega), q_un d]
theorem q_fx_end {c : Nat} : q_fx c 8 s x = x := by
  funext w
  unfold q_fx
  rw [if_neg (by omega)]
theorem q_fxC {c : Nat} (hc : c < 2) : ∀ (m i f : Nat) (x : Nat → Int32), i + m = 8 → m < f → pl_X10_takeOver_117 fu f c (Int32.ofNat i) s l x y = some ((), pj_u s 88 (s (13000 + 55 * c + 53)), l, (if s 87 = 0 then q_fx c i s x else pj_u (q_fx c i s x) 8000 (q_fx c i s x 8000 - 1)), y) := by
  intro m
  induction m with
  | zero =>
    intro i f x hi hf
    have : i = 8 := by omega
    subst this
    obtain ⟨f, rfl⟩ : ∃ f9, f = f9 + 1 := ⟨f - 1, by omega⟩
    have e : ¬ Int32.ofNat 8 < 8 := by decide
    rw [pl_X10_takeOver_117, if_neg e, q_fx_end]
    unfold pl_X10_takeOver_169
    rw [q_r hc, q_r hc]
    by_cases d : s 87 = 0
    · rw [if_pos d, if_pos d]
    · rw [if_neg d, if_neg d]
  | succ m ih =>
    intro i f x hi hf
    obtain ⟨f, rfl⟩ : ∃ f9, f = f9 + 1 := ⟨f - 1, by omega⟩
    have e : Int32.ofNat i < 8 := by rw [q_onltL (by omega) (by omega)]; omega
    have e1 : (29 : Int32) + Int32.ofNat i = Int32.ofNat (29 + i) := q_onR (m := 29)
    have ej : Int32.ofNat i + 1 = Int32.ofNat (i + 1) := q_onaL i 1
    rw [pl_X10_takeOver_117, if_pos e, e1, q_r hc, q_g (by omega) (by omega), q_onC (by omega)]
    unfold pl_X10_takeOver_145
    rw [q_g (by omega) (by omega), q_g (by omega) (by omega), q_onC (by omega), ej]
    have z : ∀ b9, b9 = (if s 87 = 0 then 0 else s (13000 + 55 * c + (29 + i))) → pl_X10_takeOver_117 fu f c (Int32.ofNat (i + 1)) s l (pj_u x (8000 + i) b9) y = some ((), pj_u s 88 (s (13000 + 55 * c + 53)), l, (if s 87 = 0 then q_fx c i s x else pj_u (q_fx c i s x) 8000 (q_fx c i s x 8000 - 1)), y) := by
      intro b9 hb
      rw [hb, ih (i + 1) f _ (by omega) (by omega), q_fx_step (by omega)]
    by_cases d : s 87 = 0
    · rw [if_pos d]
      exact z 0 (by rw [if_pos d])
    · rw [if_neg d]
      exact z _ (by rw [if_neg d])
def q_fw (c i : Nat) (s u : Nat → Int32) : Nat → Int32 := fun w => if 10000 + i ≤ w ∧ w < 10008 then s (13000 + 55 * c + (29 + (w - 10000))) - (if w = 10000 then 1 else 0) else u w
theorem q_fw_step {c i : Nat} (hi : i < 8) : q_fw c (i + 1) s (pj_u u (10000 + i) (s (13000 + 55 * c + (29 + i)) - (if i = 0 then 1 else 0))) = q_fw c i s u := by
  funext w
  unfold q_fw
  by_cases c1 : 10000 + (i + 1) ≤ w ∧ w < 10008
  · rw [if_pos c1, if_pos (show 10000 + i ≤ w ∧ w < 10008 by omega)]
  · rw [if_neg c1]
    by_cases d : w = 10000 + i
    · rw [if_pos (show 10000 + i ≤ w ∧ w < 10008 by omega), d, q_ua, show 10000 + i - 10000 = i by omega]
      congr 1
      by_cases z : i = 0
      · rw [if_pos z, if_pos (by omega)]
      · rw [if_neg z, if_neg (by omega)]
    · rw [if_neg (show ¬ (10000 + i ≤ w ∧ w < 10008) by omega), q_un d]
theorem q_fw_end {c : Nat} : q_fw c 8 s u = u := by
  funext w
  unfold q_fw
  rw [if_neg (by omega)]
theorem q_fwR {c : Nat} (hc : c < 2) (hf9 : 20 < fu) : ∀ (m i f : Nat) (u : Nat → Int32), i + m = 8 → m < f → pl_X12_boot_222 fu f (Int32.ofNat (55 * c)) (Int32.ofNat i) s l u v = some ((), pj_u (q_ce c 0 s) 88 (s (13000 + 55 * c + 53)), l, q_fw c i s u, v) := by
  intro m
  induction m with
  | zero =>
    intro i f u hi hf
    have : i = 8 := by omega
    subst this
    obtain ⟨f, rfl⟩ : ∃ f9, f = f9 + 1 := ⟨f - 1, by omega⟩
    have e : ¬ Int32.ofNat 8 < 8 := by decide
    rw [pl_X12_boot_222, if_neg e, q_fw_end]
    exact q_ceR hc 16 0 fu s (by omega) (by omega)
  | succ m ih =>
    intro i f u hi hf
    obtain ⟨f, rfl⟩ : ∃ f9, f = f9 + 1 := ⟨f - 1, by omega⟩
    have e : Int32.ofNat i < 8 := by rw [q_onltL (by omega) (by omega)]; omega
    have e1 : Int32.ofNat (55 * c) + 29 + Int32.ofNat i = Int32.ofNat (55 * c + (29 + i)) := by
      rw [show Int32.ofNat (55 * c) + 29 = Int32.ofNat (55 * c + 29) from q_onaL _ 29, q_onR, show 55 * c + 29 + i = 55 * c + (29 + i) by omega]
    have ej : Int32.ofNat i + 1 = Int32.ofNat (i + 1) := q_onaL i 1
    have iz : (Int32.ofNat i = 0) ↔ i = 0 := by
      constructor
      · intro z
        have : (Int32.ofNat i).toInt = 0 := by rw [z]; rfl
        rw [q_onI (by omega)] at this
        omega
      · intro z; rw [z]; rfl
    rw [pl_X12_boot_222, if_pos e, e1, q_g (by omega) (by omega), q_onC (by omega), show 13000 + (55 * c + (29 + i)) = 13000 + 55 * c + (29 + i) by omega]
    unfold pl_X12_boot_257
    rw [q_g (by omega) (by omega), q_g (by omega) (by omega), q_onC (by omega), ej]
    have z : ∀ b9, b9 = s (13000 + 55 * c + (29 + i)) - (if i = 0 then 1 else 0) → pl_X12_boot_222 fu f (Int32.ofNat (55 * c)) (Int32.ofNat (i + 1)) s l (pj_u u (10000 + i) b9) v = some ((), pj_u (q_ce c 0 s) 88 (s (13000 + 55 * c + 53)), l, q_fw c i s u, v) := by
      intro b9 hb
      rw [hb, ih (i + 1) f _ (by omega) (by omega), q_fw_step (by omega)]
    by_cases d : i = 0
    · rw [if_pos (iz.mpr d)]
      exact z _ (by rw [if_pos d])
    · rw [if_neg (fun q => d (iz.mp q))]
      exact z _ (by rw [if_neg d])
end QBP

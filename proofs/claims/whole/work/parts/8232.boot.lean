/-! PURE: BOOT: what the copies give, the loops -/
section QBO
variable {s x u s' x' u' : Nat → Int32} {l y v l' y' v' : Nat → Int64} {D E W : Int} {fu f k n : Nat} {t : Int64} {a b d e p r : Int32}
/-- the marks of the troubles out of copy c, from the i-th on -/
def q_tm1 (c i : Nat) (s : Nat → Int32) : Nat → Int32 := fun w =>
  if 40056 + i ≤ w ∧ w < 40084 then s (13000 + 55 * c + (1 + (w - 40056))) &&& (1 : Int32)
  else if 40084 + i ≤ w ∧ w < 40112 then (s (13000 + 55 * c + (1 + (w - 40084))) >>> (1 : Int32)) &&& (1 : Int32)
  else if 40112 + i ≤ w ∧ w < 40140 then pj_rem (pj_shr (s (13000 + 55 * c + (1 + (w - 40112)))) 2) 40
  else if 40196 + i ≤ w ∧ w < 40224 then s (13000 + 55 * c + (1 + (w - 40196))) &&& (1 : Int32)
  else s w
def q_tm1s (c i : Nat) (s : Nat → Int32) : Nat → Int32 := pj_u (pj_u (pj_u (pj_u s (40056 + i) (s (13000 + 55 * c + (1 + i)) &&& (1 : Int32))) (40084 + i) ((s (13000 + 55 * c + (1 + i)) >>> (1 : Int32)) &&& (1 : Int32))) (40112 + i) (pj_rem (pj_shr (s (13000 + 55 * c + (1 + i))) 2) 40)) (40196 + i) (s (13000 + 55 * c + (1 + i)) &&& (1 : Int32))
theorem q_tm1s_o {c i w : Nat} (hw : w < 40000) : q_tm1s c i s w = s w := by
  unfold q_tm1s
  rw [q_un (by omega), q_un (by omega), q_un (by omega), q_un (by omega)]
theorem q_tm1_step {c i : Nat} (hc : c < 2) (hi : i < 28) : q_tm1 c (i + 1) (q_tm1s c i s) = q_tm1 c i s := by
  have rd : ∀ j, j < 28 → q_tm1s c i s (13000 + 55 * c + (1 + j)) = s (13000 + 55 * c + (1 + j)) := fun j hj => q_tm1s_o (by omega)
  funext w
  unfold q_tm1
  by_cases c1 : 40056 + (i + 1) ≤ w ∧ w < 40084
  · rw [if_pos c1, if_pos (by omega), rd _ (by omega)]
  · rw [if_neg c1]
    by_cases d1 : w = 40056 + i
    · rw [if_neg (by omega), if_neg (by omega), if_neg (by omega), if_pos (by omega), d1]
      unfold q_tm1s
      rw [q_un (by omega), q_un (by omega), q_un (by omega), q_ua, show 40056 + i - 40056 = i by omega]
    · rw [if_neg (show ¬ (40056 + i ≤ w ∧ w < 40084) by omega)]
      by_cases c2 : 40084 + (i + 1) ≤ w ∧ w < 40112
      · rw [if_pos c2, if_pos (by omega), rd _ (by omega)]
      · rw [if_neg c2]
        by_cases d2 : w = 40084 + i
        · rw [if_neg (by omega), if_neg (by omega), if_pos (by omega), d2]
          unfold q_tm1s
          rw [q_un (by omega), q_un (by omega), q_ua, show 40084 + i - 40084 = i by omega]
        · rw [if_neg (show ¬ (40084 + i ≤ w ∧ w < 40112) by omega)]
          by_cases c3 : 40112 + (i + 1) ≤ w ∧ w < 40140
          · rw [if_pos c3, if_pos (by omega), rd _ (by omega)]
          · rw [if_neg c3]
            by_cases d3 : w = 40112 + i
            · rw [if_neg (by omega), if_pos (by omega), d3]
              unfold q_tm1s
              rw [q_un (by omega), q_ua, show 40112 + i - 40112 = i by omega]
            · rw [if_neg (show ¬ (40112 + i ≤ w ∧ w < 40140) by omega)]
              by_cases c4 : 40196 + (i + 1) ≤ w ∧ w < 40224
              · rw [if_pos c4, if_pos (by omega), rd _ (by omega)]
              · rw [if_neg c4]
                by_cases d4 : w = 40196 + i
                · rw [if_pos (by omega), d4]
                  unfold q_tm1s
                  rw [q_ua, show 40196 + i - 40196 = i by omega]
                · rw [if_neg (show ¬ (40196 + i ≤ w ∧ w < 40224) by omega)]
                  unfold q_tm1s
                  rw [q_un (by omega), q_un (by omega), q_un (by omega), q_un (by omega)]
theorem q_tm1_end {c : Nat} : q_tm1 c 28 s = s := by
  funext w
  unfold q_tm1
  rw [if_neg (by omega), if_neg (by omega), if_neg (by omega), if_neg (by omega)]
theorem q_onR {m i : Nat} : Int32.ofNat m + Int32.ofNat i = Int32.ofNat (m + i) := (Int32.ofNat_add m i).symm
theorem q_tk1C {c : Nat} (hc : c < 2) : ∀ (m i f : Nat) (s : Nat → Int32), i + m = 28 → m < f → ∃ f', pl_X10_takeOver_10 fu f c (Int32.ofNat i) s l x y = pl_X10_takeOver_10 fu (f' + 1) c (Int32.ofNat 28) (q_tm1 c i s) l x y := by
  intro m
  induction m with
  | zero =>
    intro i f s hi hf
    have : i = 28 := by omega
    subst this
    obtain ⟨f, rfl⟩ : ∃ f9, f = f9 + 1 := ⟨f - 1, by omega⟩
    exact ⟨f, by rw [q_tm1_end]⟩
  | succ m ih =>
    intro i f s hi hf
    obtain ⟨f, rfl⟩ : ∃ f9, f = f9 + 1 := ⟨f - 1, by omega⟩
    have e : Int32.ofNat i < 28 := by rw [q_onltL (by omega) (by omega)]; omega
    have e1 : (1 : Int32) + Int32.ofNat i = Int32.ofNat (1 + i) := q_onR (m := 1)
    have ej : Int32.ofNat i + 1 = Int32.ofNat (i + 1) := q_onaL i 1
    obtain ⟨f', z⟩ := ih (i + 1) f (q_tm1s c i s) (by omega) (by omega)
    refine ⟨f', ?_⟩
    rw [q_tm1_step hc (by omega)] at z
    rw [← z, pl_X10_takeOver_10, if_pos e]
    unfold pl_X10_takeOver_31 pl_X10_takeOver_48 pl_X10_takeOver_66
    simp only [e1, q_r hc, q_g (show 1 + i < 55 by omega) (show 55 < 2147483648 by omega), q_onC (show 1 + i < 2147483648 by omega), q_g (show i < 28 by omega) (show 28 < 2147483648 by omega), q_onC (show i < 2147483648 by omega), ej]
    unfold q_tm1s
    rw [q_un (show ¬ 13000 + 55 * c + (1 + i) = 40056 + i by omega), q_un (show ¬ 13000 + 55 * c + (1 + i) = 40084 + i by omega), q_un (show ¬ 13000 + 55 * c + (1 + i) = 40056 + i by omega)]
    rw [q_un (show ¬ 40056 + i = 40112 + i by omega), q_un (show ¬ 40056 + i = 40084 + i by omega), q_ua]
theorem q_tk1R {c : Nat} (hc : c < 2) : ∀ (m i f : Nat) (s : Nat → Int32), i + m = 28 → m < f → ∃ f', pl_X12_boot_104 fu f (Int32.ofNat (55 * c)) (Int32.ofNat i) s l u v = pl_X12_boot_104 fu (f' + 1) (Int32.ofNat (55 * c)) (Int32.ofNat 28) (q_tm1 c i s) l u v := by
  intro m
  induction m with
  | zero =>
    intro i f s hi hf
    have : i = 28 := by omega
    subst this
    obtain ⟨f, rfl⟩ : ∃ f9, f = f9 + 1 := ⟨f - 1, by omega⟩
    exact ⟨f, by rw [q_tm1_end]⟩
  | succ m ih =>
    intro i f s hi hf
    obtain ⟨f, rfl⟩ : ∃ f9, f = f9 + 1 := ⟨f - 1, by omega⟩
    have e : Int32.ofNat i < 28 := by rw [q_onltL (by omega) (by omega)]; omega
    have e1 : Int32.ofNat (55 * c) + 1 + Int32.ofNat i = Int32.ofNat (55 * c + (1 + i)) := by
      rw [show Int32.ofNat (55 * c) + 1 = Int32.ofNat (55 * c + 1) from q_onaL _ 1, q_onR, show 55 * c + 1 + i = 55 * c + (1 + i) by omega]
    have ej : Int32.ofNat i + 1 = Int32.ofNat (i + 1) := q_onaL i 1
    obtain ⟨f', z⟩ := ih (i + 1) f (q_tm1s c i s) (by omega) (by omega)
    refine ⟨f', ?_⟩
    rw [q_tm1_step hc (by omega)] at z
    rw [← z, pl_X12_boot_104, if_pos e, e1, q_g (by omega) (by omega), q_onC (by omega), show 13000 + (55 * c + (1 + i)) = 13000 + 55 * c + (1 + i) by omega]
    generalize hA : s (13000 + 55 * c + (1 + i)) = A
    obtain ⟨p1, p2⟩ := q_bit1 A
    obtain ⟨p3, p4⟩ := q_bit2 A
    have k1 : (if A &&& (1 : Int32) = 1 then pl_X12_boot_143 fu (pl_X12_boot_104 fu f) (Int32.ofNat (55 * c)) (Int32.ofNat i) A (Int32.ofNat i) 1 s l u v else pl_X12_boot_143 fu (pl_X12_boot_104 fu f) (Int32.ofNat (55 * c)) (Int32.ofNat i) A (Int32.ofNat i) 0 s l u v) = pl_X12_boot_143 fu (pl_X12_boot_104 fu f) (Int32.ofNat (55 * c)) (Int32.ofNat i) A (Int32.ofNat i) (A &&& (1 : Int32)) s l u v := by
      rw [← p1]
      split <;> simp_all
    rw [k1]
    unfold pl_X12_boot_143 pl_X12_boot_144
    rw [q_g (by omega) (by omega), q_bz p2, q_onC (by omega)]
    have k2 : ∀ S : Nat → Int32, (if A &&& (2 : Int32) = 2 then pl_X12_boot_163 fu (pl_X12_boot_104 fu f) (Int32.ofNat (55 * c)) (Int32.ofNat i) A (Int32.ofNat i) 1 S l u v else pl_X12_boot_163 fu (pl_X12_boot_104 fu f) (Int32.ofNat (55 * c)) (Int32.ofNat i) A (Int32.ofNat i) 0 S l u v) = pl_X12_boot_163 fu (pl_X12_boot_104 fu f) (Int32.ofNat (55 * c)) (Int32.ofNat i) A (Int32.ofNat i) ((A >>> (1 : Int32)) &&& (1 : Int32)) S l u v := by
      intro S
      rw [← p3]
      by_cases q : A &&& (2 : Int32) = 2
      · rw [if_pos q, if_pos q]
      · rw [if_neg q, if_neg q]
    rw [k2]
    unfold pl_X12_boot_163 pl_X12_boot_164 pl_X12_boot_178
    rw [q_g (by omega) (by omega), q_bz p4, q_onC (by omega), q_g (by omega) (by omega), q_g (by omega) (by omega), q_g (by omega) (by omega)]
    rw [q_un (show ¬ 40056 + i = 40112 + i by omega), q_un (show ¬ 40056 + i = 40084 + i by omega), q_ua, q_bz p2, ej]
    unfold q_tm1s
    rw [hA]
end QBO

/-! PURE: pedals and plates -/
section QPE
variable {s x u s' x' u' : Nat → Int32} {l y v l' y' v' : Nat → Int64} {D E W : Int}
def q_ap (a b : Int32) : Int32 := if b < a then a - b else b - a
def q_ac (c a b : Int32) : Int32 := q_cl (c + (if 60 < q_ap a b then 1 else -1)).toInt64 0 20
theorem q_apartC {c a b : Int32} (ha : -10000 ≤ a.toInt ∧ a.toInt ≤ 30000) (hb : -10000 ≤ b.toInt ∧ b.toInt ≤ 30000) : pf_X9_countApart c a b s l x y = some (q_ac c a b, s, l, x, y) := by
  have e : (if a - b < 0 then -(a - b) else a - b) = q_ap a b := q_apart (a := a) (b := b) (by omega) (by omega) (by omega) (by omega)
  unfold pf_X9_countApart pl_X9_countApart_22 q_ac
  rw [q_abs, q_b, e, q_clip, q_b, q_clip, q_b, Int32.sub_eq_add_neg c 1]
  split <;> rfl
theorem q_apartR (a b : Int32) : pf_X12_apart a b s l u v = some (q_ap a b, s, l, u, v) := by
  unfold pf_X12_apart q_ap
  split <;> rfl
theorem q_minE (a b : Int32) : (if b < a then b else a) = (if a < b then a else b) := by
  rw [← Int32.toInt_inj]
  simp only [q_ifI, Int32.lt_iff_toInt_lt]
  omega
def q_pd (s : Nat → Int32) : Nat → Int32 := if s 36000 = 0 then (if s 36001 = 0 then pj_u (pj_u s 73 (q_ac (s 73) (s 34000) (s 34001))) 71 (if s 34000 < s 34001 then s 34000 else s 34001) else pj_u s 71 (s 34000)) else (if s 36001 = 0 then pj_u s 71 (s 34001) else pj_u s 71 0)
def q_pt (s : Nat → Int32) : Nat → Int32 := if s 36002 = 0 then (if s 36003 = 0 then pj_u s 74 (q_ac (s 74) (s 34002) (s 34003)) else s) else s
def q_pv (s : Nat → Int32) : Int32 := if s 36002 = 0 then s 34002 else if s 36003 = 0 then s 34003 else 60
def q_lf (s : Nat → Int32) : Int32 := if s 74 < 10 then (if s 36002 = 0 then 0 else if s 36003 = 0 then 0 else 1) else 1
theorem q_val34 (hr : q_R s) (k : Nat) (hk : k < 1000) : -10000 ≤ (s (34000 + k)).toInt ∧ (s (34000 + k)).toInt ≤ 30000 := by
  have z := hr (34000 + k)
  rw [(q_rgC hk).2.2.2.2.2.1] at z
  exact z
theorem q_pedC (hr : q_R s) : pf_X9_readPedals s l x y = some ((), q_pd s, l, x, y) := by
  have v0 : -10000 ≤ (s 34000).toInt ∧ (s 34000).toInt ≤ 30000 := q_val34 hr 0 (by omega)
  have v1 : -10000 ≤ (s 34001).toInt ∧ (s 34001).toInt ≤ 30000 := q_val34 hr 1 (by omega)
  unfold pf_X9_readPedals pl_X9_readPedals_38 pl_X9_readPedals_58 q_pd
  rw [q_apartC v0 v1, q_b, q_min, q_b, q_minE]
  by_cases c1 : s 36000 = 0
  · by_cases c2 : s 36001 = 0
    · simp only [if_pos c1, if_pos c2]
    · simp only [if_pos c1, if_neg c2]
  · simp only [if_neg c1]
    split <;> rfl
theorem q_platC (hr : q_R s) : pf_X9_readPlates s l x y = some (q_lf (q_pt s), pj_u (q_pt s) 72 (q_pv s), l, pj_u x 12 (s 72), y) := by
  have m : ∀ (b : Int32) (s : Nat → Int32) (x : Nat → Int32), pl_X9_readPlates_82 (s 36002) (s 36003) b s l x y = some (q_lf s, pj_u s 72 b, l, x, y) := by
    intro b s x
    unfold pl_X9_readPlates_82 pl_X9_readPlates_102 q_lf
    split
    · split
      · rfl
      · split <;> rfl
    · rfl
  have m2 : ∀ (s : Nat → Int32) (x : Nat → Int32), pl_X9_readPlates_53 (s 36002) (s 36003) (s 34002) (s 34003) s l x y = some (q_lf s, pj_u s 72 (q_pv s), l, pj_u x 12 (s 72), y) := by
    intro s x
    unfold pl_X9_readPlates_53 q_pv
    rw [m, m, m]
    split
    · rfl
    · split <;> rfl
  have m3 : ∀ a, pl_X9_readPlates_53 (s 36002) (s 36003) (s 34002) (s 34003) (pj_u s 74 a) l x y = some (q_lf (pj_u s 74 a), pj_u (pj_u s 74 a) 72 (q_pv s), l, pj_u x 12 (s 72), y) := by
    intro a
    have z := m2 (pj_u s 74 a) x
    unfold q_pv at z ⊢
    simp (disch := omega) only [q_un] at z ⊢
    exact z
  have v2 : -10000 ≤ (s 34002).toInt ∧ (s 34002).toInt ≤ 30000 := q_val34 hr 2 (by omega)
  have v3 : -10000 ≤ (s 34003).toInt ∧ (s 34003).toInt ≤ 30000 := q_val34 hr 3 (by omega)
  unfold pf_X9_readPlates q_pt
  rw [q_apartC v2 v3, q_b, m2, m3]
  split
  · split <;> rfl
  · rfl
/-- RICH then, by the rise r; a: 0 if it isn't the first LOOP -/
def q_rh (s : Nat → Int32) (a r : Int32) : Int32 := if a = 0 then (if s 10010 < r then (if s 75 < (if 500 < r * s 10011 then 500 else r * s 10011) then (if 500 < r * s 10011 then 500 else r * s 10011) else s 75) else (if 0 < s 75 then s 75 - s 75 / 8 - 1 else 0)) else (if 0 < s 75 then s 75 - s 75 / 8 - 1 else 0)
theorem q_rich0 (hr : q_R s) : (if 0 < s 75 then s 75 - (s 75 / 8 + 1) else s 75 - (s 75 / 8 + 0)) = (if 0 < s 75 then s 75 - s 75 / 8 - 1 else 0) ∧ 0 ≤ (if 0 < s 75 then s 75 - s 75 / 8 - 1 else 0).toInt ∧ (if 0 < s 75 then s 75 - s 75 / 8 - 1 else 0).toInt ≤ 500 := by
  have a := q_R75 hr
  have e1 : (s 75 / 8).toInt = (s 75).toInt / 8 := q_divI (by omega) (by decide)
  have e2 : (s 75 / 8 + 1).toInt = (s 75).toInt / 8 + 1 := by
    rw [q_add (by rw [e1]; simp only [Int32.reduceToInt]; omega) (by rw [e1]; simp only [Int32.reduceToInt]; omega), e1]; rfl
  have e3 : (s 75 / 8 + 0).toInt = (s 75).toInt / 8 := by
    rw [q_add (by rw [e1]; simp only [Int32.reduceToInt]; omega) (by rw [e1]; simp only [Int32.reduceToInt]; omega), e1]
    simp only [Int32.reduceToInt]; omega
  have e4 : (s 75 - (s 75 / 8 + 1)).toInt = (s 75).toInt - ((s 75).toInt / 8 + 1) := by
    rw [q_sub (by rw [e2]; omega) (by rw [e2]; omega), e2]
  have e5 : (s 75 - (s 75 / 8 + 0)).toInt = (s 75).toInt - (s 75).toInt / 8 := by
    rw [q_sub (by rw [e3]; omega) (by rw [e3]; omega), e3]
  have e6 : (s 75 - s 75 / 8).toInt = (s 75).toInt - (s 75).toInt / 8 := by
    rw [q_sub (by rw [e1]; omega) (by rw [e1]; omega), e1]
  have e7 : (s 75 - s 75 / 8 - 1).toInt = (s 75).toInt - (s 75).toInt / 8 - 1 := by
    rw [q_sub (by rw [e6]; simp only [Int32.reduceToInt]; omega) (by rw [e6]; simp only [Int32.reduceToInt]; omega), e6]; rfl
  refine ⟨?_, ?_⟩
  · rw [← Int32.toInt_inj]
    simp only [q_ifI, Int32.lt_iff_toInt_lt, e4, e5, e7, Int32.reduceToInt]
    omega
  · simp only [q_ifI, Int32.lt_iff_toInt_lt, e7, Int32.reduceToInt]
    split <;> omega
theorem q_richC (hr : q_R s) (a : Int32) : pf_X9_enrich a (s 10010) (s 10011) s l x y = some ((), pj_u s 75 (q_rh s a (s 72 - x 12)), l, x, y) := by
  have m : pl_X9_enrich_45 s l x y = some ((), pj_u s 75 (if 0 < s 75 then s 75 - s 75 / 8 - 1 else 0), l, x, y) := by
    rw [← (q_rich0 hr).1]
    unfold pl_X9_enrich_45 pl_X9_enrich_69
    split <;> rfl
  unfold pf_X9_enrich q_rh
  rw [m, q_min, q_b, q_minE, q_max, q_b]
  have e := q_minE ((s 72 - x 12) * s 10011) 500
  rw [e]
  have e2 := q_minE 500 ((s 72 - x 12) * s 10011)
  rw [e2]
  split
  · split <;> rfl
  · rfl
theorem q_rhV (hr : q_R s) {a r : Int32} (h : r.toInt ≤ 40000) : 0 ≤ (q_rh s a r).toInt ∧ (q_rh s a r).toInt ≤ 500 := by
  have b := q_R75 hr
  have z := (q_rich0 hr).2
  have n10 : 1 ≤ (s 10010).toInt ∧ (s 10010).toInt ≤ 1000 := hr 10010
  have n11 : 0 ≤ (s 10011).toInt ∧ (s 10011).toInt ≤ 50 := hr 10011
  unfold q_rh
  split
  · split
    · rename_i c
      rw [Int32.lt_iff_toInt_lt] at c
      have m0 : 0 ≤ r.toInt * (s 10011).toInt := Int.mul_nonneg (by omega) (by omega)
      have m1 : r.toInt * (s 10011).toInt ≤ 40000 * 50 := Int.mul_le_mul (by omega) (by omega) (by omega) (by omega)
      have e : (r * s 10011).toInt = r.toInt * (s 10011).toInt := q_mul (by omega) (by omega)
      simp only [q_ifI, Int32.lt_iff_toInt_lt, e, Int32.reduceToInt]
      repeat' split
      all_goals omega
    · exact z
  · exact z
-- reference
theorem q_e296 (a o : Int32) (b : Int32) (hb : b = 0 ∨ b = 1) (ha : (1 < v 12) ↔ a = 0) : pl_X12_readPedal_296 o b s l u v = some ((), pj_u (pj_u s 29 b) 75 (q_rh s a (s 72 - o)), l, u, v) := by
  unfold pl_X12_readPedal_296 pl_X12_readPedal_356 pl_X12_readPedal_374 pl_X12_readPedal_380 pl_X12_readPedal_406 q_rh
  rw [q_bz hb]
  simp (disch := omega) only [q_un]
  by_cases c1 : a = 0
  · rw [if_pos c1, if_pos (ha.mpr c1)]
    by_cases c2 : s 10010 < s 72 - o
    · rw [if_pos c2, if_pos c2]
      by_cases c3 : 500 < (s 72 - o) * s 10011
      · rw [if_pos c3, if_pos c3]
        split <;> rfl
      · rw [if_neg c3, if_neg c3]
        split <;> rfl
    · rw [if_neg c2, if_neg c2]
      split <;> rfl
  · rw [if_neg c1, if_neg (fun z => c1 (ha.mp z))]
    split <;> rfl
theorem q_e253 (a o b : Int32) (h29 : s 29 = 0 ∨ s 29 = 1) (ha : (1 < v 12) ↔ a = 0) : pl_X12_readPedal_253 o b s l u v = some ((), pj_u (pj_u (pj_u s 72 b) 29 (if s 29 = 0 then q_lf s else 1)) 75 (q_rh (pj_u s 72 b) a (b - o)), l, u, v) := by
  unfold pl_X12_readPedal_253 pl_X12_readPedal_295 pl_X12_readPedal_291 q_lf
  rw [q_e296 a o 0 (Or.inl rfl) ha, q_e296 a o 1 (Or.inr rfl) ha, q_ua]
  split
  · split
    · split
      · rfl
      · split <;> rfl
    · rfl
  · rfl
theorem q_e209 (a : Int32) (h29 : s 29 = 0 ∨ s 29 = 1) (ha : (1 < v 12) ↔ a = 0) : pl_X12_readPedal_209 s l u v = some ((), pj_u (pj_u (pj_u s 72 (q_pv s)) 29 (if s 29 = 0 then q_lf s else 1)) 75 (q_rh (pj_u s 72 (q_pv s)) a (q_pv s - s 72)), l, u, v) := by
  unfold pl_X12_readPedal_209 q_pv
  rw [q_e253 a _ _ h29 ha, q_e253 a _ _ h29 ha, q_e253 a _ _ h29 ha]
  split
  · rfl
  · split <;> rfl
theorem q_e148 (a : Int32) (h29 : s 29 = 0 ∨ s 29 = 1) (ha : (1 < v 12) ↔ a = 0) : pl_X12_readPedal_148 s l u v = pl_X12_readPedal_209 (q_pt s) l u v := by
  have z : ∀ w : Int64, (q_ct w 0 20).toInt32 = q_cl w 0 20 := fun w => q_cut_cl w 0 20
  unfold pl_X12_readPedal_148 pl_X12_readPedal_196 q_pt q_ac
  rw [q_apartR, q_b, q_cut, q_b, z, q_cut, q_b, z]
  split
  · split
    · split <;> rfl
    · rfl
  · rfl
theorem q_e0 : pf_X12_readPedal s l u v = pl_X12_readPedal_148 (q_pd s) l u v := by
  have z : ∀ w : Int64, (q_ct w 0 20).toInt32 = q_cl w 0 20 := fun w => q_cut_cl w 0 20
  unfold pf_X12_readPedal pl_X12_readPedal_48 pl_X12_readPedal_92 pl_X12_readPedal_98 pl_X12_readPedal_121 pl_X12_readPedal_145 q_pd q_ac
  rw [q_apartR, q_b, q_cut, q_b, z, q_cut, q_b, z]
  by_cases c1 : s 36000 = 0
  · rw [if_pos c1, if_pos c1, if_pos c1, if_pos c1]
    by_cases c2 : s 36001 = 0
    · rw [if_pos c2, if_pos c2]
      split
      · split <;> rfl
      · split <;> rfl
    · rw [if_neg c2, if_neg c2]
  · rw [if_neg c1, if_neg c1, if_neg c1, if_neg c1]
    split <;> rfl
end QPE

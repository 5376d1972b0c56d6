/-! PURE: one cylinder is planned -/
section QPO
variable {s x u s' x' u' : Nat → Int32} {l y v l' y' v' : Nat → Int64} {D E W : Int} {fu k n c : Nat}
theorem q_bif2 {A : Type} (o : Option (Unit × pj_Z)) (B : pj_F (Unit × pj_Z)) (k : pj_F A) : pj_b o (fun _ s l x y => if s 26 = 0 then pj_b (B s l x y) (fun _ s3 l3 x3 y3 => k s3 l3 x3 y3) else k s l x y) = pj_b (pj_b o (fun _ s l x y => if s 26 = 0 then B s l x y else some ((), s, l, x, y))) (fun _ s3 l3 x3 y3 => k s3 l3 x3 y3) := by
  rw [q_bb]
  congr 1
  funext r s l x y
  by_cases c : s 26 = 0
  · rw [if_pos c, if_pos c]
  · rw [if_neg c, if_neg c, q_b]
/-- the knock's retard, new -/
def q_kn (s : Nat → Int32) (c : Nat) : Int32 := if s 34009 < s 10021 then (if 0 < s (8000 + c) then s (8000 + c) - 1 else 0) else q_cl (s (8000 + c) + s 10022).toInt64 0 150
theorem q_knR (hr : q_R s) (hc : c < 8) : 0 ≤ (s (8000 + c)).toInt ∧ (s (8000 + c)).toInt ≤ 150 := by
  have z := hr (8000 + 8 * 0 + c)
  rw [q_rg8 (by omega) hc] at z
  rw [show 8000 + 8 * 0 + c = 8000 + c by omega] at z
  exact z
theorem q_knI (hr : q_R s) (hc : c < 8) : 0 ≤ (q_kn s c).toInt ∧ (q_kn s c).toInt ≤ 150 := by
  have a := q_knR hr hc
  have o : (1 : Int32).toInt = 1 := rfl
  unfold q_kn
  by_cases d : s 34009 < s 10021
  · rw [if_pos d]
    by_cases e : 0 < s (8000 + c)
    · rw [if_pos e]
      rw [Int32.lt_iff_toInt_lt] at e
      have e : 0 < (s (8000 + c)).toInt := e
      rw [q_sub (by rw [o]; omega) (by rw [o]; omega), o]; omega
    · rw [if_neg e]; decide
  · rw [if_neg d]; exact q_clG (lo := 0) (hi := 150) (by decide)
theorem q_R_8 {r : Nat} {a : Int32} (hr : q_R s) (h : r < 4) (hc : c < 8) (ha : (if r = 0 then (0 : Int) else if r = 2 then 0 else if r = 3 then -100 else -2147483648) ≤ a.toInt ∧ a.toInt ≤ (if r = 0 then (150 : Int) else if r = 2 then 25000 else if r = 3 then 450 else 2147483647)) : q_R (pj_u s (8000 + 8 * r + c) a) := by
  refine q_R_u hr ?_
  rw [q_rg8 h hc]
  match r, h with
  | 0, _ => exact ha
  | 1, _ => exact ha
  | 2, _ => exact ha
  | 3, _ => exact ha
theorem q_knC (hr : q_R s) (hc : c < 8) : pl_X11_planCylinder_34 (Int32.ofNat c) s l x y = pj_b (pf_X11_fuelNow (pj_u s (8000 + c) (q_kn s c)) l x y) (fun r2 s2 l2 x2 y2 => pl_X11_planCylinder_122 (Int32.ofNat c) (pj_u s2 (8016 + c) r2) l2 x2 y2) := by
  have a := q_knR hr hc
  have o : (1 : Int32).toInt = 1 := rfl
  unfold pl_X11_planCylinder_34 pl_X11_planCylinder_68 pl_X11_planCylinder_99
  rw [q_g (by omega) (by omega), q_onC (by omega), if_pos rfl, if_neg (show ¬ (1 : Int32) = 0 by decide), q_clip, q_clip, q_b, q_b]
  simp only [q_g (show c < 8 by omega) (show 8 < 2147483648 by omega)]
  unfold q_kn
  by_cases d : s 34009 < s 10021
  · rw [if_pos d, if_pos d]
    have e : q_cl (s (8000 + c) - 1).toInt64 0 150 = if 0 < s (8000 + c) then s (8000 + c) - 1 else 0 := by
      have m : (s (8000 + c) - 1).toInt = (s (8000 + c)).toInt - 1 := by rw [q_sub (by rw [o]; omega) (by rw [o]; omega), o]
      unfold q_cl
      by_cases f : 0 < s (8000 + c)
      · rw [if_pos f]
        rw [Int32.lt_iff_toInt_lt] at f
        have f : 0 < (s (8000 + c)).toInt := f
        rw [if_neg, if_neg, Int32.toInt32_toInt64]
        · rw [Int64.lt_iff_toInt_lt, Int32.toInt_toInt64, Int32.toInt_toInt64, m]
          have : (150 : Int32).toInt = 150 := rfl
          omega
        · rw [Int64.lt_iff_toInt_lt, Int32.toInt_toInt64, Int32.toInt_toInt64, m]
          have : (0 : Int32).toInt = 0 := rfl
          omega
      · rw [if_neg f]
        rw [Int32.lt_iff_toInt_lt] at f
        have f : ¬ 0 < (s (8000 + c)).toInt := f
        rw [if_pos]
        rw [Int64.lt_iff_toInt_lt, Int32.toInt_toInt64, Int32.toInt_toInt64, m]
        have : (0 : Int32).toInt = 0 := rfl
        omega
    rw [e]
  · rw [if_neg d, if_neg d]
theorem q_knRf (a2 : Int32) (hc : c < 8) : (if s 34009 < s 10021 then pj_g (Int32.ofNat c) 8 ((if 0 < s (8000 + (Int32.ofNat c).toNatClampNeg) then pj_g (Int32.ofNat c) 8 (pl_X12_planOne_80 (Int32.ofNat c) a2 (Int32.ofNat c) (s (8000 + (Int32.ofNat c).toNatClampNeg) - 1) s l u v) else pl_X12_planOne_80 (Int32.ofNat c) a2 (Int32.ofNat c) 0 s l u v)) else pj_g (Int32.ofNat c) 8 (pj_b (pf_X12_cutTo ((s (8000 + (Int32.ofNat c).toNatClampNeg) + s 10022).toInt64) 0 150 s l u v) (fun r2 s2 l2 x2 y2 => pj_g (Int32.ofNat c) 8 (pl_X12_planOne_81 (Int32.ofNat c) a2 (pj_u s2 (8000 + (Int32.ofNat c).toNatClampNeg) r2.toInt32) l2 x2 y2)))) = pl_X12_planOne_81 (Int32.ofNat c) a2 (pj_u s (8000 + c) (q_kn s c)) l u v := by
  have cl0 : ∀ b : Int64, (q_ct b 0 150).toInt32 = q_cl b 0 150 := fun b => q_cut_cl b 0 150
  unfold pl_X12_planOne_80 q_kn
  simp only [q_g (show c < 8 by omega) (show 8 < 2147483648 by omega), q_onC (show c < 2147483648 by omega)]
  by_cases d : s 34009 < s 10021
  · rw [if_pos d, if_pos d]
    by_cases e : 0 < s (8000 + c)
    · rw [if_pos e, if_pos e]
    · rw [if_neg e, if_neg e]
  · rw [if_neg d, if_neg d, q_cut, q_b, cl0]
/-- the spark, new -/
def q_ad (r g : Int32) (s : Nat → Int32) (c : Nat) : Int32 := q_cl ((r - s (8000 + c) - q_cl (s 2001).toInt64 0 200) - (if 0 < g then g else 0)).toInt64 (-100) 450
end QPO

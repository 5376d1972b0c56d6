/-! PURE: the model's pins -/
section QPI
variable {s x u : Nat → Int32} {l y v : Nat → Int64} {fu : Nat}
def q_wm (s : Nat → Int32) : Int32 := if s 46 < 400 then (if 20 < s 51 then s 51 - 1 else 20) else (if s 51 < 130 then s 51 + 1 else 130)
def q_wn (s : Nat → Int32) : Int32 := if s 38 = 0 then q_wm s else if 60 < q_wm s then q_wm s - 2 else q_wm s
theorem q_warm (hr : q_R s) : pf_X5_warm (s 38) s l x y = some ((), pj_u s 51 (q_wn s), l, x, y) := by
  have e : ∀ (b : Int32), pl_X5_warm_37 (s 38) b s l x y = some ((), pj_u s 51 (if s 38 = 0 then b else if 60 < b then b - 2 else b), l, x, y) := by
    intro b
    unfold pl_X5_warm_37
    split
    · rfl
    · split
      · rw [q_uu]
      · rfl
  have a := hr 51
  have a : (20 : Int) ≤ (s 51).toInt ∧ (s 51).toInt ≤ 130 := a
  have o : (1 : Int32).toInt = 1 := rfl
  have z20 : (20 : Int32).toInt = 20 := rfl
  have z130 : (130 : Int32).toInt = 130 := rfl
  have e1 : (s 51 - 1).toInt = (s 51).toInt - 1 := q_sub (by rw [o]; omega) (by rw [o]; omega)
  have e2 : (s 51 + 1).toInt = (s 51).toInt + 1 := q_add (by rw [o]; omega) (by rw [o]; omega)
  have m1 : (if 20 < s 51 - 1 then s 51 - 1 else 20) = (if 20 < s 51 then s 51 - 1 else 20) := by
    simp only [Int32.lt_iff_toInt_lt, e1, z20]
    rw [← Int32.toInt_inj]
    repeat' split
    all_goals (try rw [e1]); (try rw [z20]); (try omega)
  have m2 : (if s 51 + 1 < 130 then s 51 + 1 else 130) = (if s 51 < 130 then s 51 + 1 else 130) := by
    simp only [Int32.lt_iff_toInt_lt, e2, z130]
    rw [← Int32.toInt_inj]
    repeat' split
    all_goals (try rw [e2]); (try rw [z130]); (try omega)
  unfold pf_X5_warm q_wn q_wm
  rw [q_max, q_b, q_min, q_b, e, e, m1, m2]
  split <;> rfl
theorem q_flapC (a p : Int32) (hr : q_R s) : pf_X5_moveFlap a p s l x y = some ((), pj_u s 50 (if a = 0 then q_tw (s 50) 60 10 else q_cl (s 50 + p / 20).toInt64 0 1000), l, x, y) := by
  have b := hr 50
  have b : (0 : Int) ≤ (s 50).toInt ∧ (s 50).toInt ≤ 1000 := b
  have z60 : (60 : Int32).toInt = 60 := rfl
  have z10 : (10 : Int32).toInt = 10 := rfl
  have zm : (-10 : Int32).toInt = -10 := rfl
  have z0 : (0 : Int32).toInt = 0 := rfl
  have z1 : (1000 : Int32).toInt = 1000 := rfl
  unfold pf_X5_moveFlap pl_X5_moveFlap_26
  rw [q_clip, q_b, q_clip, q_clip, q_b, q_b, q_tw_cl (by rw [zm, z10]) (by omega) (by omega) (by rw [z10]; omega) (by rw [z10]; omega) (by rw [z60]; omega) (by rw [z60]; omega)]
  have w := q_twV (a := s 50) (b := 60) (c := 10) (by omega) (by omega) (by rw [z10]; omega) (by rw [z10]; omega)
  rw [z60, z10] at w
  have k : q_cl (q_tw (s 50) 60 10).toInt64 0 1000 = q_tw (s 50) 60 10 := by
    rw [← Int32.toInt_inj, q_clV, z0, z1, w]
    repeat' split
    all_goals omega
  rw [k]
  split <;> rfl
end QPI

/-! PURE: the model's pins: the pair -/
section QPJ
variable {s x u : Nat → Int32} {l y v : Nat → Int64} {fu : Nat}
def q_load (s : Nat → Int32) : Int32 := if 12 < 30 + s 50 * 70 / 1000 - s 46 / 200 then 30 + s 50 * 70 / 1000 - s 46 / 200 else 12
/-- the four pins -/
def q_pn (s : Nat → Int32) : Nat → Int32 := pj_u (pj_u (pj_u (pj_u s 29002 (s 50 * 1023 / 1000)) 29003 (s 50 * 1023 / 1000)) 29004 ((q_load s - 10) * 1023 / 100)) 29005 ((140 - s 51) * 1023 / 180)
theorem q_pn45 : pl_X11_moveModelPins_45 s l x y = some ((), q_pn s, l, x, y) := by
  unfold pl_X11_moveModelPins_45 q_pn q_load
  rw [q_max, q_b, q_un (f := pj_u s 29002 (s 50 * 1023 / 1000)) (by omega), q_un (f := s) (by omega)]
theorem q_pinsC (hr : q_R s) : pf_X11_moveModelPins s l x y = some ((), q_pn (if pj_rem (x 1) 50 = 0 then pj_u (pj_u s 50 (if x 13 = 0 then q_tw (s 50) 60 10 else q_cl (s 50 + s 78 / 20).toInt64 0 1000)) 51 (q_wn s) else pj_u s 50 (if x 13 = 0 then q_tw (s 50) 60 10 else q_cl (s 50 + s 78 / 20).toInt64 0 1000)), l, x, y) := by
  have b := hr 50
  have b : (0 : Int) ≤ (s 50).toInt ∧ (s 50).toInt ≤ 1000 := b
  have z60 : (60 : Int32).toInt = 60 := rfl
  have z10 : (10 : Int32).toInt = 10 := rfl
  have w := q_twV (a := s 50) (b := 60) (c := 10) (by omega) (by omega) (by rw [z10]; omega) (by rw [z10]; omega)
  rw [z60, z10] at w
  have z0 : (0 : Int32).toInt = 0 := rfl
  have z1 : (1000 : Int32).toInt = 1000 := rfl
  unfold pf_X11_moveModelPins
  rw [q_flapC _ _ hr, q_b]
  generalize hf : (if x 13 = 0 then q_tw (s 50) 60 10 else q_cl (s 50 + s 78 / 20).toInt64 0 1000) = f
  have hf1 : (0 : Int) ≤ f.toInt ∧ f.toInt ≤ 1000 := by
    rw [← hf]
    split
    · rw [w]
      repeat' split
      all_goals omega
    · have c := q_clI (a := s 50 + s 78 / 20) (lo := 0) (hi := 1000) (by rw [z0, z1]; omega)
      rw [z0, z1] at c
      exact c
  have hr2 : q_R (pj_u s 50 f) := q_R_u hr hf1
  have e : q_wn (pj_u s 50 f) = q_wn s := by
    unfold q_wn q_wm
    rw [q_un (w := 46) (by omega), q_un (w := 51) (by omega), q_un (w := 38) (by omega)]
  rw [q_warm hr2, q_b, q_pn45, q_pn45, e]
  split <;> rfl
end QPJ

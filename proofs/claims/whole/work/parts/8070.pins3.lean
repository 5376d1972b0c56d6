/-! PURE: the model's pins: reference -/
section QPK
variable {s x u : Nat → Int32} {l y v : Nat → Int64} {fu : Nat}
theorem q_p208 : pl_X12_modelPins_208 s l u v = pl_X12_modelPins_241 (pj_u s 51 (if s 38 = 0 then s 51 else if 60 < s 51 then s 51 - 2 else s 51)) l u v := by
  unfold pl_X12_modelPins_208 pl_X12_modelPins_234 pl_X12_modelPins_238
  split
  · rfl
  · split <;> rfl
theorem q_p121 (b : Int32) : pl_X12_modelPins_121 b s l u v = if pj_reml (v 12) 50 = 0 then pl_X12_modelPins_208 (pj_u (pj_u s 29004 ((b - 10) * 1023 / 100)) 51 (q_wm s)) l u v else pl_X12_modelPins_241 (pj_u s 29004 ((b - 10) * 1023 / 100)) l u v := by
  unfold pl_X12_modelPins_121 pl_X12_modelPins_205 pl_X12_modelPins_178 q_wm
  split
  · split
    · split <;> rfl
    · split <;> rfl
  · rfl
theorem q_p50 : pl_X12_modelPins_50 s l u v = pl_X12_modelPins_121 (q_load s) (pj_u (pj_u s 29002 (s 50 * 1023 / 1000)) 29003 (s 50 * 1023 / 1000)) l u v := by
  unfold pl_X12_modelPins_50 q_load
  split <;> rfl
theorem q_p50b : pl_X12_modelPins_50 s l u v = some ((), q_pn (if pj_reml (v 12) 50 = 0 then pj_u s 51 (q_wn s) else s), l, u, v) := by
  rw [q_p50, q_p121]
  generalize hA : s 50 * 1023 / 1000 = A
  have e : q_wm (pj_u (pj_u s 29002 A) 29003 A) = q_wm s := by
    unfold q_wm
    simp (disch := omega) only [q_un]
  rw [e]
  by_cases c : pj_reml (v 12) 50 = 0
  · rw [if_pos c, if_pos c, q_p208]
    unfold pl_X12_modelPins_241 q_pn
    have f : q_load (pj_u s 51 (q_wn s)) = q_load s := by
      unfold q_load
      simp (disch := omega) only [q_un]
    have g : (if q_wm s = q_wm s then q_wn s else 0) = q_wn s := if_pos rfl
    simp (disch := omega) only [q_uu, q_ua, q_un, f, hA]
    have k : (if s 38 = 0 then q_wm s else if 60 < q_wm s then q_wm s - 2 else q_wm s) = q_wn s := rfl
    rw [k, q_us (v := 51) (w := 29004) (by omega), q_us (v := 51) (w := 29003) (by omega), q_us (v := 51) (w := 29002) (by omega)]
  · rw [if_neg c, if_neg c]
    unfold pl_X12_modelPins_241 q_pn
    simp (disch := omega) only [q_un, hA]
theorem q_pinsR : pf_X12_modelPins s l u v = some ((), q_pn (if pj_reml (v 12) 50 = 0 then pj_u (pj_u s 50 (if u 14 = 0 then q_cl (s 50 + s 78 / 20).toInt64 0 1000 else q_tw (s 50) 60 10)) 51 (q_wn s) else pj_u s 50 (if u 14 = 0 then q_cl (s 50 + s 78 / 20).toInt64 0 1000 else q_tw (s 50) 60 10)), l, u, v) := by
  have e : ∀ f, q_wn (pj_u s 50 f) = q_wn s := by
    intro f
    unfold q_wn q_wm
    rw [q_un (w := 46) (by omega), q_un (w := 51) (by omega), q_un (w := 38) (by omega)]
  have z : (q_ct (s 50 + s 78 / 20).toInt64 0 1000).toInt32 = q_cl (s 50 + s 78 / 20).toInt64 0 1000 := q_cut_cl _ 0 1000
  unfold pf_X12_modelPins
  rw [q_cut, q_b, q_toward, q_b, z, q_p50b, q_p50b, e, e]
  split <;> rfl
end QPK

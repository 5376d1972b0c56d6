/-! PURE: time passes: both run alike -/
section QPB
variable {s x u s' x' u' : Nat → Int32} {l y v l' y' v' : Nat → Int64} {D D' E W : Int} {t a : Int64} {n fu f k : Nat} {c : Int32}
def q_nt (l : Nat → Int64) : Int64 := (l 93 / 10000 + 1) * 10000
theorem q_encn {k : Nat} (h : k < 64) : ¬ Int32.ofNat k = -1 := by
  intro z
  have : (Int32.ofNat k).toInt = -1 := by rw [z]; rfl
  rw [q_onI (by omega)] at this
  omega
theorem q_pcN (hc : c < 1000000) (h0 : ¬ s 94 = 0) (h : pf_X6_nextEvent s l x y = some (-1, s, l, x, y)) : pl_X11_passTo_2 fu (f + 1) a c s l x y = (if a < q_nt l then some ((), s, pj_u l 93 a, x, y) else pj_b (pf_X11_oneLoop s (pj_u l 93 (q_nt l)) x y) (fun _ s1 l1 x1 y1 => pl_X11_passTo_2 fu f a (c + 1) s1 l1 x1 y1)) := by
  have z : ¬ (9223372036854775807 : Int64) < q_nt l := by
    rw [Int64.lt_iff_toInt_lt]
    have := Int64.toInt_lt (q_nt l)
    have e : (9223372036854775807 : Int64).toInt = 9223372036854775807 := rfl
    rw [e]; omega
  rw [pl_X11_passTo_2, if_pos hc, if_neg h0, h, q_b, if_pos rfl]
  unfold pl_X11_passTo_62
  rw [if_neg (show ¬ (9223372036854775807 : Int64) < (l 93 / 10000 + 1) * 10000 from z)]
  unfold pl_X11_passTo_77
  rw [if_pos rfl]
  unfold pl_X11_passTo_91 pl_X11_passTo_147 pl_X11_passTo_141 q_nt
  by_cases d : a < (l 93 / 10000 + 1) * 10000
  · rw [if_pos d, if_pos d]
  · rw [if_neg d, if_neg d, if_pos rfl]
theorem q_pcS (hk : k < 64) (hc : c < 1000000) (h0 : ¬ s 94 = 0) (h : pf_X6_nextEvent s l x y = some (Int32.ofNat k, s, l, x, y)) : pl_X11_passTo_2 fu (f + 1) a c s l x y = (if l (16000 + k) < q_nt l then (if a < l (16000 + k) then some ((), s, pj_u l 93 a, x, y) else pj_b (pf_X6_happen (Int32.ofNat k) (s 10004) s (pj_u l 93 (l (16000 + k))) x y) (fun _ s1 l1 x1 y1 => pl_X11_passTo_2 fu f a (c + 1) s1 l1 x1 y1)) else (if a < q_nt l then some ((), s, pj_u l 93 a, x, y) else pj_b (pf_X11_oneLoop s (pj_u l 93 (q_nt l)) x y) (fun _ s1 l1 x1 y1 => pl_X11_passTo_2 fu f a (c + 1) s1 l1 x1 y1))) := by
  rw [pl_X11_passTo_2, if_pos hc, if_neg h0, h, q_b, if_neg (q_encn hk), q_g hk (by omega), q_onC (by omega)]
  unfold pl_X11_passTo_62 q_nt
  by_cases g : l (16000 + k) < (l 93 / 10000 + 1) * 10000
  · rw [if_pos g, if_pos g]
    unfold pl_X11_passTo_77
    rw [if_neg (by decide)]
    unfold pl_X11_passTo_91 pl_X11_passTo_147 pl_X11_passTo_141
    by_cases d : a < l (16000 + k)
    · rw [if_pos d, if_pos d]
    · rw [if_neg d, if_neg d, if_neg (by decide)]
  · rw [if_neg g, if_neg g]
    unfold pl_X11_passTo_77
    rw [if_pos rfl]
    unfold pl_X11_passTo_91 pl_X11_passTo_147 pl_X11_passTo_141
    by_cases d : a < (l 93 / 10000 + 1) * 10000
    · rw [if_pos d, if_pos d]
    · rw [if_neg d, if_neg d, if_pos rfl]
theorem q_prZ {a3 : Int64} : pl_X12_passTo_29 fu (f + 1) a a3 0 s l u v = some ((), s, pj_u l 93 a, u, v) := by
  rw [pl_X12_passTo_29, if_pos rfl]
def q_pwr (s : Nat → Int32) : Int32 := if s 94 = 0 then 0 else 1
theorem q_156 {k29 : Int64 → Int64 → Int32 → pj_F (Unit × pj_Z)} {a3 : Int64} : pl_X12_passTo_156 fu k29 a a3 1 s l u v = k29 a a3 (q_pwr s) s l u v := by
  unfold pl_X12_passTo_156 pl_X12_passTo_172 pl_X12_passTo_173 q_pwr
  rw [if_neg (by decide)]
  by_cases c : s 94 = 0
  · rw [if_pos c, if_pos c]
  · rw [if_neg c, if_neg c]
theorem q_156z {k29 : Int64 → Int64 → Int32 → pj_F (Unit × pj_Z)} {a3 : Int64} : pl_X12_passTo_156 fu k29 a a3 0 s l u v = k29 a a3 0 s l u v := by
  unfold pl_X12_passTo_156 pl_X12_passTo_172 pl_X12_passTo_173
  rw [if_pos rfl]
theorem q_prN {a3 : Int64} (h : pf_X12_firstEvent s l u v = some (-1, s, l, u, v)) : pl_X12_passTo_29 fu (f + 1 + 1) a a3 1 s l u v = (if a < a3 then some ((), s, pj_u l 93 a, u, v) else pj_b (pf_X12_loop s (pj_u l 93 a3) u v) (fun _ s1 l1 x1 y1 => pl_X12_passTo_29 fu (f + 1) a (a3 + 10000) (q_pwr s1) s1 l1 x1 y1)) := by
  rw [pl_X12_passTo_29, if_neg (by decide), h, q_b, if_pos rfl]
  unfold pl_X12_passTo_62 pl_X12_passTo_63
  by_cases d : a < a3
  · rw [if_pos d, if_pos d]
    unfold pl_X12_passTo_106
    rw [if_pos rfl, q_156z, q_prZ]
  · rw [if_neg d, if_neg d, if_pos rfl]
    unfold pl_X12_passTo_88
    congr 1
    funext r1 s1 l1 x1 y1
    rw [q_156]
theorem q_prS {a3 : Int64} (hk : k < 64) (ht : (l 93).toInt ≤ (l (16000 + k)).toInt) (h : pf_X12_firstEvent s l u v = some (Int32.ofNat k, s, l, u, v)) : pl_X12_passTo_29 fu (f + 1 + 1) a a3 1 s l u v = (if l (16000 + k) < a3 then (if a < l (16000 + k) then some ((), s, pj_u l 93 a, u, v) else pj_b (pf_X12_happen (Int32.ofNat k) s (pj_u l 93 (l (16000 + k))) u v) (fun _ s1 l1 x1 y1 => pl_X12_passTo_29 fu (f + 1) a a3 (q_pwr s1) s1 l1 x1 y1)) else (if a < a3 then some ((), s, pj_u l 93 a, u, v) else pj_b (pf_X12_loop s (pj_u l 93 a3) u v) (fun _ s1 l1 x1 y1 => pl_X12_passTo_29 fu (f + 1) a (a3 + 10000) (q_pwr s1) s1 l1 x1 y1))) := by
  have hap : ∀ b5 : Int32, b5 = 1 → pl_X12_passTo_106 fu (pl_X12_passTo_29 fu (f + 1)) a a3 1 (Int32.ofNat k) b5 s l u v = pj_b (pf_X12_happen (Int32.ofNat k) s (pj_u l 93 (l (16000 + k))) u v) (fun _ s1 l1 x1 y1 => pl_X12_passTo_29 fu (f + 1) a a3 (q_pwr s1) s1 l1 x1 y1) := by
    intro b5 hb
    unfold pl_X12_passTo_106
    rw [hb, if_neg (by decide), q_g hk (by omega), q_g hk (by omega), q_onC (by omega)]
    have e : (if l 93 < l (16000 + k) then pl_X12_passTo_141 fu (pl_X12_passTo_29 fu (f + 1)) a a3 1 (Int32.ofNat k) (l (16000 + k)) s l u v else pl_X12_passTo_141 fu (pl_X12_passTo_29 fu (f + 1)) a a3 1 (Int32.ofNat k) (l 93) s l u v) = pl_X12_passTo_141 fu (pl_X12_passTo_29 fu (f + 1)) a a3 1 (Int32.ofNat k) (l (16000 + k)) s l u v := by
      by_cases c : l 93 < l (16000 + k)
      · rw [if_pos c]
      · rw [if_neg c]
        rw [Int64.lt_iff_toInt_lt] at c
        rw [show l 93 = l (16000 + k) from by rw [← Int64.toInt_inj]; omega]
    rw [e]
    unfold pl_X12_passTo_141
    congr 1
    funext r1 s1 l1 x1 y1
    rw [q_156]
  have lo : ∀ k29, pl_X12_passTo_88 fu k29 a a3 1 s l u v = pj_b (pf_X12_loop s (pj_u l 93 a3) u v) (fun _ s1 l1 x1 y1 => k29 a (a3 + 10000) (q_pwr s1) s1 l1 x1 y1) := by
    intro k29
    unfold pl_X12_passTo_88
    congr 1
    funext r1 s1 l1 x1 y1
    rw [q_156]
  rw [pl_X12_passTo_29, if_neg (by decide), h, q_b, if_neg (q_encn hk), q_g hk (by omega), q_onC (by omega)]
  unfold pl_X12_passTo_62 pl_X12_passTo_63
  rw [lo, hap 1 rfl]
  simp only [q_g hk (show 64 < 2147483648 by omega), q_onC (show k < 2147483648 by omega)]
  have fin : pl_X12_passTo_106 fu (pl_X12_passTo_29 fu (f + 1)) a a3 1 (Int32.ofNat k) 0 s l u v = some ((), s, pj_u l 93 a, u, v) := by
    unfold pl_X12_passTo_106
    rw [if_pos rfl, q_156z, q_prZ]
  rw [fin, if_pos trivial, if_neg (by decide : ¬ (1 : Int32) = 0)]
  by_cases d : a < l (16000 + k)
  · rw [if_pos d, if_pos d]
    by_cases e : l (16000 + k) < a3
    · have e2 : a < a3 := by rw [Int64.lt_iff_toInt_lt] at d e ⊢; omega
      rw [if_pos e, if_pos e2]
    · rw [if_neg e]
  · rw [if_neg d, if_neg d]
    by_cases e : l (16000 + k) < a3
    · rw [if_pos e, if_pos e]
      by_cases g : a < a3
      · rw [if_pos g]
      · rw [if_neg g]
    · have e2 : ¬ a < a3 := by rw [Int64.lt_iff_toInt_lt] at d e ⊢; omega
      rw [if_neg e, if_neg e, if_neg e2, if_neg e2]
end QPB

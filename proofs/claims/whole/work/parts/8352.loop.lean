/-! THE LAW'S LOOP, over the machine -/
theorem lo_sub_lv {ls : Array Slot} {n : Nat} {L L' : List (Nat × Value)} {ad : Nat → Nat} (h : lv_has ls n (mj_l ad L)) (hs : ∀ q ∈ L', q ∈ L) : lv_has ls n (mj_l ad L') := by
  refine ⟨h.1, h.2.1, fun q hq => ?_⟩
  obtain ⟨z, hz, rfl⟩ := List.mem_map.mp hq
  exact h.2.2 _ (List.mem_map.mpr ⟨z, hs z hz, rfl⟩)
theorem lo_wS {pc : Nat} {i : Int32} {zC zR : pj_Z} {w : Int64} : mj_wS (pc, lo_LV i, [], fm zC zR w) := by
  refine ⟨fun q hq => ?_, fun v h => (by cases h), fm_wM _ _ _⟩
  have hq : q ∈ [(4, Value.int i), (0, .ref 4000000), (1, .ref 0), (2, .ref 124), (3, .ref 194)] := hq
  simp only [List.mem_cons, List.not_mem_nil, or_false] at hq
  rcases hq with rfl | rfl | rfl | rfl | rfl
  · exact mj_wv_int _
  · exact fun i e => by cases e; exact Or.inr (by decide)
  · exact lo_ref (by decide)
  · exact lo_ref (by decide)
  · exact lo_ref (by decide)
theorem lo_loop {lc : Launch} (hl9 : lc.stackTraces = false) (hMa : mj_MaOk vwCl ic_ty mj_AW) {L b : Nat} {xs : Nat → Int32} (hL : L ≤ 3584) {p : Program} {e : Env} {R : Room} {s : State} {m : MethodId} {args : Array Value} {below : List Frame} {meth : Method} {c : Code} {Q : State → Prop} {D : va_G} {cy : Nat → ClassId} {A : Nat → Prop} (hC : mj_Cx mj_AW ic_Ns vwCl ic_P il_law 121 true p R s m args meth c D cy A) (hb1 : va_X b L xs s s.heap) (hb2 : b < s.heap.size) (hb3 : ¬ A b) : ∀ (n k : Nat), 7 * (k + n) ≤ L → L < 7 * (k + n) + 7 →
    ∀ {s1 : Nat → Int32} {l : Nat → Int64} {x : Nat → Int32} {y : Nat → Int64} {u : Nat → Int32} {v : Nat → Int64} {w : Int64}, q_V k s1 l x y u v → ∀ {ad : Nat → Nat} {H : Heap} {locs : List Loc} {ls : Array Slot} {cells slots : Nat}, ad 4000000 = b → mj_XZ ic_X ad A s s.heap → va_P D vwCl (mj_ws ic_ty cy ad (fm (s1, l, x, y) (s1, l, u, v) w)) H → va_D A (mj_ws ic_ty cy ad (fm (s1, l, x, y) (s1, l, u, v) w)) → va_S A s.heap H locs → lv_has ls 8 (mj_l ad (lo_LV (Int32.ofNat (7 * k)))) → cells + n ≤ R.cells → slots + 6 * n ≤ R.slots →
    (∀ (H1 : Heap) (locs1 : List Loc) (ls1 : Array Slot), va_S A s.heap H1 locs1 → W p lc e R s m args below meth c H1 locs1 (cells + n) (slots + 6 * n) Q (F0 m 3282 ls1 [.int 1])) → W p lc e R s m args below meth c H locs cells slots Q (F0 m 23 ls []) := by
  intro n
  induction n with
  | zero =>
    intro k h1 h2 s1 l x y u v w hV ad H locs ls cells slots had hX hP hD hS hl hc1 hc2 kk
    obtain ⟨n9, h⟩ := lo_end (lc := lc) (xs := xs) (M := fm (s1, l, x, y) (s1, l, u, v) w) (lo_le (k := 7 * k) (L := L) (by omega) (by omega) hL)
    refine ml_steps_ok ic_Good hMa ig_law il_Wt hC hb1 hb2 hb3 n9 h lo_wS had (cells := cells) (slots := slots) hX hP hD hS hl (by show cells + (fm_sh.length - fm_sh.length + 0) ≤ R.cells; omega) (by show slots + (mj_slt (fm (s1, l, x, y) (s1, l, u, v) w) - mj_slt (fm (s1, l, x, y) (s1, l, u, v) w) + 6 * 0) ≤ R.slots; omega) (fun ad' H1 locs1 ls1 g0 g1 g2 g3 g4 => ?_)
    have go := kk H1 locs1 ls1 g3
    refine W.widen ?_ ?_ go
    · show cells + (fm_sh.length - fm_sh.length + 0) ≤ cells + 0; omega
    · show slots + (mj_slt (fm (s1, l, x, y) (s1, l, u, v) w) - mj_slt (fm (s1, l, x, y) (s1, l, u, v) w) + 6 * 0) ≤ slots + 6 * 0; omega
  | succ n ih =>
    intro k h1 h2 s1 l x y u v w hV ad H locs ls cells slots had hX hP hD hS hl hc1 hc2 kk
    obtain ⟨s', l', x', y', u', v', w', lv9, e9, ⟨n9, h⟩, he, hV', hlv⟩ := lo_iter (lc := lc) (xs := xs) (w := w) hl9 hMa hV (by omega) hL (by omega)
    have es : mj_slt (fm (s', l', x', y') (s', l', u', v') w') = mj_slt (fm (s1, l, x, y) (s1, l, u, v) w) := rfl
    refine ml_steps_ok ic_Good hMa ig_law il_Wt hC hb1 hb2 hb3 n9 h lo_wS had (cells := cells) (slots := slots) hX hP hD hS hl (by show cells + (fm_sh.length - fm_sh.length + e9) ≤ R.cells; omega) (by show slots + (mj_slt (fm (s', l', x', y') (s', l', u', v') w') - mj_slt (fm (s1, l, x, y) (s1, l, u, v) w) + 6 * e9) ≤ R.slots; rw [es]; omega) (fun ad' H1 locs1 ls1 g0 g1 g2 g3 g4 => ?_)
    refine W.widen (k := cells + 1) (n := slots + 6) ?_ ?_ ?_
    · show cells + (fm_sh.length - fm_sh.length + e9) ≤ cells + 1; omega
    · show slots + (mj_slt (fm (s', l', x', y') (s', l', u', v') w') - mj_slt (fm (s1, l, x, y) (s1, l, u, v) w) + 6 * e9) ≤ slots + 6; rw [es]; omega
    refine ih (k + 1) (by omega) (by omega) hV' ((g0 4000000 (Or.inr (by omega))).trans had) (mj_XZ_ag g0 hX) g1 g2 g3 (lo_sub_lv g4 hlv) (by omega) (by omega) (fun H2 locs2 ls2 f3 => ?_)
    have go := kk H2 locs2 ls2 f3
    rw [show cells + 1 + n = cells + (n + 1) by omega, show slots + 6 + 6 * n = slots + 6 * (n + 1) by omega]
    exact go

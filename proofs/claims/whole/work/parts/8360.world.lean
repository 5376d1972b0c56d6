/-! THE START: the outside world -/
theorem st_XZ {args : Array Value} {s : State} (hts : ∀ w ∈ lw_tbl, w.before args s = true) (hg : (Cond.and given_1 narrow_1).before args s = true) (b : Nat) : ∃ ad : Nat → Nat, ad 4000000 = b ∧ mj_XZ ic_X ad (fun q => s.heap.size ≤ q) s s.heap := by
  have hF : ∀ c ∈ st_F, c.before args s = true := flat_of_before _ hg
  have hA : ∀ a : Nat, a < s.heap.size → ¬ (fun q => s.heap.size ≤ q) a := fun a h => Nat.not_le.mpr h
  have arr : ∀ k : Nat, ∃ t : Nat, ∀ q, ic_X.1[k]? = some q → (Term.static q.1 q.2.1 q.2.2.1).eval args s none [] s = some (.ref t) ∧ va_X t q.2.2.2.1 q.2.2.2.2 s s.heap ∧ t < s.heap.size ∧ va_Z q.1 q.2.1 q.2.2.1 (.ref t) (fun q => s.heap.size ≤ q) s s.heap := by
    intro k
    cases hk : ic_X.1[k]? with
    | none => exact ⟨0, fun q h => by cases h⟩
    | some q =>
      have g := List.all_eq_true.mp st_ca_all q (List.mem_of_getElem? hk)
      unfold st_ca at g
      simp only [Bool.and_eq_true] at g
      obtain ⟨g1, g2, g3, g4, g5, g6⟩ := g
      obtain ⟨t, e1, e2, e3⟩ := st_X (f := q.2.2.2.2) (of_decide_eq_true g6) (hF _ (of_decide_eq_true g3)) (hF _ (of_decide_eq_true g4)) (fun j hj => hF _ (of_decide_eq_true (List.all_eq_true.mp g5 j (List.mem_range.mpr hj))))
      exact ⟨t, fun z hz => by cases hz; exact ⟨e1, e2, e3, va_Zref (hts _ (of_decide_eq_true g1)) (hts _ (of_decide_eq_true g2)) e1 hA⟩⟩
  have str : ∀ i : Nat, ∃ z : Nat × Nat, ∀ q, ic_X.2[i]? = some q → vk_R q.1 q.2.2.1 q.2.1 z.1 s ∧ (q.2.2.2.1 ≠ 0 → va_O "java/lang/String" z.1 (fun q => s.heap.size ≤ q) s s.heap ∧ va_OF "java/lang/String" "coder" "B" (.int 0) z.1 (fun q => s.heap.size ≤ q) s s.heap ∧ va_OF "java/lang/String" "value" "[B" (.ref z.2) z.1 (fun q => s.heap.size ≤ q) s s.heap ∧ va_T .byte z.2 q.2.2.2.1 (fun j => .int (q.2.2.2.2 j)) (fun q => s.heap.size ≤ q) s s.heap) := by
    intro i
    cases hi : ic_X.2[i]? with
    | none => exact ⟨(0, 0), fun q h => by cases h⟩
    | some q =>
      have g := List.all_eq_true.mp st_cs_all q (List.mem_of_getElem? hi)
      unfold st_cs at g
      simp only [Bool.and_eq_true, Bool.or_eq_true] at g
      obtain ⟨g1, g2, g3⟩ := g
      obtain ⟨a, c, cA, kA, q1, q2, q3, q4, q5, q6, -⟩ := Cond.exactly_spec (args := args) (first := s) (o := none) (s := s) (idx := []) (t := .string q.1 q.2.2.1) (cls := "java/lang/String") (hF _ (of_decide_eq_true g2))
      have hR : vk_R q.1 q.2.2.1 q.2.1 a s := vk_R.of (A := args) (hts _ (of_decide_eq_true g1)) q1
      rcases g3 with g3 | ⟨g4, g5, g6, g7, g8⟩
      · exact ⟨(a, 0), fun z hz => by cases hz; exact ⟨hR, fun hn => absurd (of_decide_eq_true g3) hn⟩⟩
      · obtain ⟨t, ht, hT⟩ := va_Tof (f := fun j => .int (q.2.2.2.2 j)) (A := fun q => s.heap.size ≤ q) (of_decide_eq_true g8) (hF _ (of_decide_eq_true g5)) (va_eqt (hF _ (of_decide_eq_true g6))) (fun j hj => va_eqt (hF _ (of_decide_eq_true (List.all_eq_true.mp g7 j (List.mem_range.mpr hj))))) hA
        exact ⟨(a, t), fun z hz => by cases hz; exact ⟨hR, fun _ => ⟨⟨cA, q3, q5, by rw [q6]; exact q2, hA a (Array.getElem?_eq_some_iff.mp q3).1⟩, vk_OFof q1 (va_eqt (hF _ (of_decide_eq_true g4))) hA, vk_OFof q1 ht hA, hT⟩⟩⟩
  obtain ⟨fa, ha⟩ := Classical.axiomOfChoice arr
  obtain ⟨fs, hs⟩ := Classical.axiomOfChoice str
  have g := st_cj_ok
  unfold st_cj at g
  simp only [Bool.and_eq_true] at g
  obtain ⟨j1, j2, j3, j4, j5, j6, j7, j8, j9, j10, j11, j12⟩ := g
  have hz := va_Zqof (hts _ (of_decide_eq_true j4)) (hts _ (of_decide_eq_true j5)) (hF _ (of_decide_eq_true j6)) hA
  obtain ⟨n0, hz⟩ : ∃ n0, va_Z "jdk/internal/util/Preconditions" "SIOOBE_FORMATTER" "Ljava/util/function/BiFunction;" (mj_ua n0) (fun q => s.heap.size ≤ q) s s.heap := by
    rcases hz with hz | ⟨t, hz⟩
    · exact ⟨0, hz⟩
    · exact ⟨t + 1, hz⟩
  refine ⟨fun i => if i = 4000000 then b else if i = 3000000 then n0 else if 2000000 ≤ i then (if i % 2 = 0 then (fs ((i - 2000000) / 2)).1 else (fs ((i - 2000000) / 2)).2) else fa (i - 1000000), if_pos rfl, fun k q hk => ?_, fun i q hi => ?_, ?_⟩
  · have hlen : k < 9 := (List.getElem?_eq_some_iff.mp hk).1
    have e : (if 1000000 + k = 4000000 then b else if 1000000 + k = 3000000 then n0 else if 2000000 ≤ 1000000 + k then (if (1000000 + k) % 2 = 0 then (fs ((1000000 + k - 2000000) / 2)).1 else (fs ((1000000 + k - 2000000) / 2)).2) else fa (1000000 + k - 1000000)) = fa k := by
      rw [if_neg (by omega), if_neg (by omega), if_neg (by omega), Nat.add_sub_cancel_left]
    obtain ⟨e1, e2, e3, e4⟩ := ha k q hk
    show (q.2.1 ≠ "" → va_Z q.1 q.2.1 q.2.2.1 (.ref (if 1000000 + k = 4000000 then b else _)) _ s s.heap) ∧ va_X (if 1000000 + k = 4000000 then b else _) _ _ s s.heap ∧ (if 1000000 + k = 4000000 then b else _) < s.heap.size ∧ ¬ (fun q => s.heap.size ≤ q) (if 1000000 + k = 4000000 then b else _)
    rw [e]
    exact ⟨fun _ => e4, e2, e3, hA _ e3⟩
  · have hlen : i < 45 := (List.getElem?_eq_some_iff.mp hi).1
    have e1 : (if 2000000 + 2 * i = 4000000 then b else if 2000000 + 2 * i = 3000000 then n0 else if 2000000 ≤ 2000000 + 2 * i then (if (2000000 + 2 * i) % 2 = 0 then (fs ((2000000 + 2 * i - 2000000) / 2)).1 else (fs ((2000000 + 2 * i - 2000000) / 2)).2) else fa (2000000 + 2 * i - 1000000)) = (fs i).1 := by
      rw [if_neg (by omega), if_neg (by omega), if_pos (by omega), if_pos (by omega), show (2000000 + 2 * i - 2000000) / 2 = i by omega]
    have e2 : (if 2000000 + 2 * i + 1 = 4000000 then b else if 2000000 + 2 * i + 1 = 3000000 then n0 else if 2000000 ≤ 2000000 + 2 * i + 1 then (if (2000000 + 2 * i + 1) % 2 = 0 then (fs ((2000000 + 2 * i + 1 - 2000000) / 2)).1 else (fs ((2000000 + 2 * i + 1 - 2000000) / 2)).2) else fa (2000000 + 2 * i + 1 - 1000000)) = (fs i).2 := by
      rw [if_neg (by omega), if_neg (by omega), if_pos (by omega), if_neg (by omega), show (2000000 + 2 * i + 1 - 2000000) / 2 = i by omega]
    have z := hs i q hi
    dsimp only
    rw [e1, e2]
    exact z
  · refine ⟨va_Zof (hts _ (of_decide_eq_true j1)) (hts _ (of_decide_eq_true j2)) (va_eqt (hF _ (of_decide_eq_true j3))) hA, ?_, vx_Zqof (hts _ (of_decide_eq_true j7)) (hts _ (of_decide_eq_true j9)) (hF _ (of_decide_eq_true j10)) hA, vx_Zqof (hts _ (of_decide_eq_true j8)) (hts _ (of_decide_eq_true j9)) (hF _ (of_decide_eq_true j11)) hA, fun q hq => va_Nc.of (hF _ (of_decide_eq_true (List.all_eq_true.mp j12 q hq)))⟩
    show va_Z _ _ _ (mj_ua (if 3000000 = 4000000 then b else if 3000000 = 3000000 then n0 else _)) _ s s.heap
    rw [if_neg (by omega), if_pos rfl]
    exact hz
theorem st_Nw {args : Array Value} {s : State} (hts : ∀ w ∈ lw_tbl, w.before args s = true) : ∀ w ∈ ic_Ns, w.before args s = true ∧ va_Nw w s := by
  intro w hw
  have h := hts w (of_decide_eq_true (List.all_eq_true.mp st_Ns w hw))
  refine ⟨h, ?_⟩
  rcases ic_Ns_ok w hw with ⟨a, i, x, g, rfl⟩ | ⟨ty, rfl⟩ | ⟨x, rfl⟩ | ⟨C, T, rfl⟩
  · exact va_Nw.of rfl h
  · exact h
  · exact va_Nw.of rfl h
  · exact va_Nw.of rfl h

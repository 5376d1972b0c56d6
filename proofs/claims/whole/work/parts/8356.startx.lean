/-! THE START: outside arrays -/
theorem st_X {args : Array Value} {s : State} {tm : Term} {N : Nat} {f : Nat → Int32} (hN : N < 2 ^ 31) (harr : (Cond.arrayOf tm .int).before args s = true) (hlen : (Cond.eq (.length tm) (.int (Int32.ofNat N))).before args s = true) (hel : ∀ j : Nat, j < N → (Cond.eq (.elem tm (.int (Int32.ofNat j))) (.int (f j))).before args s = true) : ∃ t : Nat, tm.eval args s none [] s = some (.ref t) ∧ va_X t N f s s.heap ∧ t < s.heap.size := by
  obtain ⟨t, ht, cell, h1, h2, h3, h4, h5, h6, -⟩ := va_Tof (ty := .int) (f := fun j => .int (f j)) (A := fun _ => False) hN harr (va_eqt hlen) (fun j hj => va_eqt (hel j hj)) (fun _ _ h => h)
  have hv := va_eqt hlen
  obtain ⟨t2, cell2, ht2, hat, hv2⟩ := Term.length_spec hv
  cases Value.ref.inj (Option.some.inj (ht.symm.trans ht2))
  obtain ⟨hc2, -, -, -⟩ := State.arrayAt?_spec hat
  cases Option.some.inj (h1.symm.trans hc2)
  have hsz : cell.slots.size < 2 ^ 31 := by
    simp only [Term.eval, ht, hat, Option.bind_eq_bind, Option.bind_some] at hv
    by_cases hlt : cell.slots.size < 2147483648
    · exact hlt
    · simp [hlt] at hv
  have he : cell.slots.size = N := by
    have z := congrArg Int32.toInt h5
    rw [show cell.slots.size.toInt32 = Int32.ofNat cell.slots.size from rfl, Int32.toInt_ofNat_of_lt hsz, Int32.toInt_ofNat_of_lt hN] at z
    omega
  exact ⟨t, ht, ⟨cell, h1, h2, h3, he, h6⟩, (Array.getElem?_eq_some_iff.mp h1).1⟩

/-! THE START: what the tables say of the classes and arrays -/
theorem st_arr {args : Array Value} {s : State} {ty : FieldType} (h : (Cond.arrayClass ty).before args s = true) : ∃ cA, s.vm.findClass ("[" ++ ty.toString) = some cA ∧ ArrOfT s cA ty := by
  obtain ⟨cA, kA, comp, h1, h2, h3⟩ := Cond.arrayClass_spec h
  exact ⟨cA, h1, fun n z => ⟨fun k h => (by cases h), kA, h2, comp, h3⟩⟩
theorem st_ovr {args : Array Value} {s : State} {t : FieldType} (h : (Cond.arrayOver (.array t)).before args s = true) : ∃ cA, s.vm.findClass ("[" ++ (FieldType.array t).toString) = some cA ∧ ArrOfT s cA (.array t) := by
  obtain ⟨comp, cA, kA, -, h2, h3, h1⟩ := Cond.arrayOver_specA h
  exact ⟨cA, h1, fun n z => ⟨fun k h => (by cases h), kA, h2, comp, h3⟩⟩
/-- the classes and the arrays, as the tables have them -/
theorem st_K {args : Array Value} {s : State} (hts : ∀ w ∈ lw_tbl, w.before args s = true) (hN : ∀ w ∈ ic_Ns, w.before args s = true) : ∃ (D : va_G) (cy : Nat → ClassId), va_K D vwCl (mj_tys cy) s := by
  have hA : ∀ w ∈ mj_AW, w.before args s = true := fun w h => hts w (mj_AW_tbl w h)
  have key : ∀ (k : Nat), ∃ z : ClassId × (Nat → Nat), ∀ q : vw_C, vwCl[k]? = some q → u_Kn s q.1 q.2.1 q.2.2 z.1 z.2 := by
    intro k
    match k with
    | 0 =>
      obtain ⟨c, i, h⟩ := u_known (n := 19) hA iu_X0 (hA (.instantiable RX0 19) (mj_wa_in (q := (3, 194)) (by decide +kernel)))
      exact ⟨(c, i), fun q e => by cases e; exact h⟩
    | 1 =>
      obtain ⟨c, i, h⟩ := u_known (n := 18) hA iu_X1 (hA (.instantiable RX1 18) (mj_wa_in (q := (3, 120)) (by decide +kernel)))
      exact ⟨(c, i), fun q e => by cases e; exact h⟩
    | 2 =>
      obtain ⟨c, i, h⟩ := u_known (n := 19) hA iu_X2 (hA (.instantiable RX2 19) (mj_wa_in (q := (1, 164)) (by decide +kernel)))
      exact ⟨(c, i), fun q e => by cases e; exact h⟩
    | 3 =>
      obtain ⟨c, i, h⟩ := u_known (n := 20) hA iu_X3 (hA (.instantiable RX3 20) (mj_wa_in (q := (2, 164)) (by decide +kernel)))
      exact ⟨(c, i), fun q e => by cases e; exact h⟩
    | 4 =>
      obtain ⟨c, i, h⟩ := u_known (n := 10) hA iu_X4 (hA (.instantiable RX4 10) (mj_wa_in (q := (1, 37)) (by decide +kernel)))
      exact ⟨(c, i), fun q e => by cases e; exact h⟩
    | 5 =>
      obtain ⟨c, i, h⟩ := u_known (n := 13) hA iu_X5 (hA (.instantiable RX5 13) (mj_wa_in (q := (4, 32)) (by decide +kernel)))
      exact ⟨(c, i), fun q e => by cases e; exact h⟩
    | 6 =>
      obtain ⟨c, i, h⟩ := u_known (n := 19) hA iu_X6 (hA (.instantiable RX6 19) (mj_wa_in (q := (2, 14)) (by decide +kernel)))
      exact ⟨(c, i), fun q e => by cases e; exact h⟩
    | 7 =>
      obtain ⟨c, i, h⟩ := u_known (n := 11) hA iu_X7 (hA (.instantiable RX7 11) (mj_wa_in (q := (1, 96)) (by decide +kernel)))
      exact ⟨(c, i), fun q e => by cases e; exact h⟩
    | 8 =>
      obtain ⟨c, i, h⟩ := u_known (n := 18) hA iu_X8 (hA (.instantiable RX8 18) (mj_wa_in (q := (3, 47)) (by decide +kernel)))
      exact ⟨(c, i), fun q e => by cases e; exact h⟩
    | 9 =>
      obtain ⟨c, i, h⟩ := u_known (n := 18) hA iu_X9 (hA (.instantiable RX9 18) (mj_wa_in (q := (2, 88)) (by decide +kernel)))
      exact ⟨(c, i), fun q e => by cases e; exact h⟩
    | 10 =>
      obtain ⟨c, i, h⟩ := u_known (n := 8) hA iu_X10 (hA (.instantiable RX10 8) (mj_wa_in (q := (3, 7)) (by decide +kernel)))
      exact ⟨(c, i), fun q e => by cases e; exact h⟩
    | 11 =>
      obtain ⟨c, i, h⟩ := u_known (n := 17) hA iu_X11 (hA (.instantiable RX11 17) (mj_wa_in (q := (1, 29)) (by decide +kernel)))
      exact ⟨(c, i), fun q e => by cases e; exact h⟩
    | 12 =>
      obtain ⟨c, i, h⟩ := u_known (n := 195) hA iu_X12 (hA (.instantiable RX12 195) (mj_wa_in (q := (10, 110)) (by decide +kernel)))
      exact ⟨(c, i), fun q e => by cases e; exact h⟩
    | n + 13 => exact ⟨(0, fun _ => 0), fun q h => by cases h⟩
  obtain ⟨f, hf⟩ := Classical.axiomOfChoice key
  obtain ⟨a0, h0, g0⟩ := st_arr (hA _ (ic_Good.2.1.1))
  obtain ⟨a1, h1, g1⟩ := st_arr (hA _ (ic_Good.2.1.2.1))
  obtain ⟨a2, h2, g2⟩ := st_arr (hA _ (ic_Good.2.1.2.2))
  obtain ⟨a3, h3, g3⟩ := st_ovr (hN _ (ic_Good.2.2.2.2.1.1))
  obtain ⟨a4, h4, g4⟩ := st_ovr (hN _ (ic_Good.2.2.2.2.1.2))
  refine ⟨(fun k => (f k).1, fun k => (f k).2), fun n => match n with | 0 => a0 | 1 => a1 | 2 => a2 | 3 => a3 | _ => a4, fun k q h => hf k q h, fun k q h => ?_⟩
  match k, h with
  | 0, h => cases h; exact ⟨g0, h0⟩
  | 1, h => cases h; exact ⟨g1, h1⟩
  | 2, h => cases h; exact ⟨g2, h2⟩
  | 3, h => cases h; exact ⟨g3, h3⟩
  | 4, h => cases h; exact ⟨g4, h4⟩
  | n + 5, h => cases h

/-! THE SMALL MACHINE, 7: outside arrays, copies, final fields are the machine's -/
/-- what is known of the outside arrays: the static that holds each (no name: none does), the array, that nothing of A is there -/
def mj_XA (X : mj_XT) (ad : Nat → Nat) (A : Nat → Prop) (U : State) (H : Heap) : Prop := ∀ (k : Nat) (q : String × String × String × Nat × (Nat → Int32)), X.1[k]? = some q → (q.2.1 ≠ "" → va_Z q.1 q.2.1 q.2.2.1 (.ref (ad (1000000 + k))) A U H) ∧ va_X (ad (1000000 + k)) q.2.2.2.1 q.2.2.2.2 U H ∧ ad (1000000 + k) < H.size ∧ ¬ A (ad (1000000 + k))
/-- what is known of the String constants -/
def mj_SZ (X : mj_XT) (ad : Nat → Nat) (A : Nat → Prop) (U : State) (H : Heap) : Prop := ∀ (i : Nat) (q : String × String × Nat × Nat × (Nat → Int32)), X.2[i]? = some q → vk_R q.1 q.2.2.1 q.2.1 (ad (2000000 + 2 * i)) U ∧ (q.2.2.2.1 ≠ 0 → va_O "java/lang/String" (ad (2000000 + 2 * i)) A U H ∧ va_OF "java/lang/String" "coder" "B" (.int 0) (ad (2000000 + 2 * i)) A U H ∧ va_OF "java/lang/String" "value" "[B" (.ref (ad (2000000 + 2 * i + 1))) (ad (2000000 + 2 * i)) A U H ∧ va_T .byte (ad (2000000 + 2 * i + 1)) q.2.2.2.1 (fun j => .int (q.2.2.2.2 j)) A U H)
/-- which exceptions are no others -/
def mj_nl : List (String × String) := [("java/lang/IllegalArgumentException", "java/lang/IndexOutOfBoundsException"), ("java/lang/IllegalStateException", "java/lang/IndexOutOfBoundsException"), ("java/lang/IllegalStateException", "java/lang/IllegalArgumentException")]
/-- and of the JDK's statics -/
def mj_JZ (ad : Nat → Nat) (A : Nat → Prop) (U : State) (H : Heap) : Prop := va_Z "java/lang/String" "COMPACT_STRINGS" "Z" (.int 1) A U H ∧ va_Z "jdk/internal/util/Preconditions" "SIOOBE_FORMATTER" "Ljava/util/function/BiFunction;" (mj_ua (ad 3000000)) A U H ∧ vx_Zq Bundle.tN "UNASSIGNED_STACK" Bundle.steD A U H ∧ vx_Zq Bundle.tN "SUPPRESSED_SENTINEL" Bundle.listD A U H ∧ ∀ q ∈ mj_nl, va_Nc q.1 q.2 U
def mj_XZ (X : mj_XT) (ad : Nat → Nat) (A : Nat → Prop) (U : State) (H : Heap) : Prop := mj_XA X ad A U H ∧ mj_SZ X ad A U H ∧ mj_JZ ad A U H
/-- what a word of the table of statics is: an array's static; a String constant; String's fields; String's and Preconditions' statics -/
def mj_gk (X : mj_XT) (Ts : List Cond) (own : String) (ix k : Nat) : Prop := (∃ q, X.1[k]? = some q ∧ q.2.1 ≠ "" ∧ Cond.fieldLink own ix q.1 q.2.1 q.2.2.1 ∈ Ts) ∨ (X.1.length ≤ k ∧ ((∃ i q, k = 1000000 + 2 * i ∧ X.2[i]? = some q ∧ q.1 = own ∧ q.2.2.1 = ix ∧ k < 2000000) ∨ (k = 2000000 ∧ Cond.fieldLink own ix "java/lang/String" "value" "[B" ∈ Ts) ∨ (k = 2000001 ∧ Cond.fieldLink own ix "java/lang/String" "coder" "B" ∈ Ts) ∨ (k = 2000002 ∧ Cond.fieldLink own ix "java/lang/String" "COMPACT_STRINGS" "Z" ∈ Ts) ∨ (k = 2000003 ∧ Cond.fieldLink own ix "jdk/internal/util/Preconditions" "SIOOBE_FORMATTER" "Ljava/util/function/BiFunction;" ∈ Ts)))
def mj_Gs (X : mj_XT) (Ts : List Cond) (own : String) (gs : Nat → Option Nat) : Prop := ∀ ix k, gs ix = some k → mj_gk X Ts own ix k
theorem mj_sb_inv {X : mj_XT} {r o : Nat} {q : Nat × (Nat → Int32)} (h : mj_sb X r o = some q) : ∃ (i : Nat) (z : String × String × Nat × Nat × (Nat → Int32)), o = 2000000 + 2 * i + r ∧ X.2[i]? = some z ∧ q = z.2.2.2 ∧ z.2.2.2.1 ≠ 0 := by
  unfold mj_sb at h
  split at h
  · rename_i ho
    split at h
    · rename_i z hz
      split at h
      · cases h
      · rename_i hn
        cases h
        exact ⟨(o - 2000000) / 2, z, by have := Nat.div_add_mod (o - 2000000) 2; omega, hz, rfl, hn⟩
    · cases h
  · cases h
theorem mj_xa_inv {X : mj_XT} {o : Nat} {q : Nat × (Nat → Int32)} (h : mj_xa X o = some q) : ∃ (k : Nat) (z : String × String × String × Nat × (Nat → Int32)), o = 1000000 + k ∧ X.1[k]? = some z ∧ q = z.2.2.2 := by
  unfold mj_xa at h
  split at h
  · rename_i ho
    obtain ⟨z, h1, h2⟩ := Option.map_eq_some_iff.mp h
    exact ⟨o - 1000000, z, by omega, h1, h2.symm⟩
  · cases h
section MJF
variable {p : Program} {l : Launch} {e : Env} {R : Room} {s : State} {m : MethodId} {args : Array Value} {below : List Frame} {meth : Method} {c : Code} {H : Heap} {locs : List Loc} {cells slots : Nat} {Q : State → Prop}
variable {cc : ByteArray} {pc : Nat} {ls : Array Slot} {D : va_G} {cl : List vw_C} {cty : Nat → Nat → FieldType} {cy : Nat → ClassId} {ad : Nat → Nat} {M : mj_M} {Ts : List Cond} {own : String} {fl : mj_FL} {A : Nat → Prop} {H0 : Heap} {X : mj_XT}
theorem mj_xr_ok (hexec : p.tables.exec = Jvm.exec) (hb : c.code = cc) (hts : ∀ w ∈ Ts, w.before args s = true) (hown : s.vm.findClass own = some m.cls) {gs : Nat → Option Nat} (hGs : mj_Gs X Ts own gs) (hX : mj_XZ X ad A s s.heap) (hS : va_S A s.heap H locs) {i : Instr} {k : Nat} {st st' : List Value} (h : mj_xr X gs i st = some (k, st')) (hdg : decode cc pc = .ok (i, k))
    (kk : W p l e R s m args below meth c H locs cells slots Q (F0 m (pc + k) ls (mj_s ad st'))) : W p l e R s m args below meth c H locs cells slots Q (F0 m pc ls (mj_s ad st)) := by
  obtain ⟨hX, hSZ, hJ1, hJ2, -⟩ := hX
  unfold mj_xr at h
  split at h
  · split at h
    · rename_i j hj
      split at h
      · rename_i hlt
        cases h
        rcases hGs _ _ hj with ⟨q, h1, h2, h3⟩ | ⟨h1, -⟩
        · exact va_gets hexec hb ((hX _ _ h1).1 h2) hS hown (hts _ h3) (fun _ h9 => h9) hdg kk
        · omega
      · rename_i hge
        split at h
        · rename_i e2
          cases h
          rcases hGs _ _ hj with ⟨q, h1, -⟩ | ⟨-, h1⟩
          · exact absurd (List.getElem?_eq_some_iff.mp h1).1 hge
          rcases h1 with ⟨i, q, h1, -, -, -, h2⟩ | ⟨h1, -⟩ | ⟨h1, -⟩ | ⟨h1, h2⟩ | ⟨h1, -⟩
          · omega
          · omega
          · omega
          · exact va_gets hexec hb hJ1 hS hown (hts _ h2) (fun _ h9 => h9) hdg kk
          · omega
        · split at h
          · cases h
            rcases hGs _ _ hj with ⟨q, h1, -⟩ | ⟨-, h1⟩
            · exact absurd (List.getElem?_eq_some_iff.mp h1).1 hge
            rcases h1 with ⟨i, q, h1, -, -, -, h2⟩ | ⟨h1, -⟩ | ⟨h1, -⟩ | ⟨h1, -⟩ | ⟨h1, h2⟩
            · omega
            · omega
            · omega
            · omega
            · exact va_gets hexec hb hJ2 hS hown (hts _ h2) (fun _ h9 => h9) hdg kk
          · cases h
    · cases h
  · split at h
    · rename_i j hj
      split at h
      · rename_i hc
        cases h
        rcases hGs _ _ hj with ⟨q, h1, -⟩ | ⟨-, h1⟩
        · have := (List.getElem?_eq_some_iff.mp h1).1
          omega
        rcases h1 with ⟨i, q, rfl, h2, rfl, rfl, -⟩ | ⟨h1, -⟩ | ⟨h1, -⟩ | ⟨h1, -⟩ | ⟨h1, -⟩
        · have go := (hSZ _ _ h2).1
          rw [show 2000000 + 2 * i = 1000000 + (1000000 + 2 * i) by omega] at go
          exact va_ldcS hexec hb hown go hdg kk
        · omega
        · omega
        · omega
        · omega
      · cases h
    · cases h
  · split at h
    · rename_i j o r hj
      split at h
      · rename_i q hq
        obtain ⟨i, z, rfl, h1, -, hn⟩ := mj_sb_inv hq
        obtain ⟨-, hs⟩ := hSZ _ _ h1
        obtain ⟨s1, s2, s3, s4⟩ := hs hn
        split at h
        · rename_i hc
          cases h
          rcases hGs _ _ hj with ⟨q, h1, -⟩ | ⟨-, h1⟩
          · have := (List.getElem?_eq_some_iff.mp h1).1
            omega
          rcases h1 with ⟨i, q, h1, -, -, -, h2⟩ | ⟨h1, h2⟩ | ⟨h1, -⟩ | ⟨h1, -⟩ | ⟨h1, -⟩
          · omega
          · exact vk_getf hexec hb s3 hS hown (hts _ h2) (fun _ h9 => h9) hdg kk
          · omega
          · omega
          · omega
        · split at h
          · rename_i hc
            cases h
            rcases hGs _ _ hj with ⟨q, h1, -⟩ | ⟨-, h1⟩
            · have := (List.getElem?_eq_some_iff.mp h1).1
              omega
            rcases h1 with ⟨i, q, h1, -, -, -, h2⟩ | ⟨h1, -⟩ | ⟨h1, h2⟩ | ⟨h1, -⟩ | ⟨h1, -⟩
            · omega
            · omega
            · exact vk_getf hexec hb s2 hS hown (hts _ h2) (fun _ h9 => h9) hdg kk
            · omega
            · omega
          · cases h
      · cases h
    · cases h
  · split at h
    · split at h
      · rename_i hq
        split at h
        · cases h
        · rename_i hin
          cases h
          obtain ⟨i, z, rfl, h1, rfl, hn⟩ := mj_sb_inv hq
          obtain ⟨-, hs⟩ := hSZ _ _ h1
          obtain ⟨s1, s2, s3, s4⟩ := hs hn
          exact va_tb hexec hb s4 hS hin rfl hdg kk
      · cases h
    · cases h
  · split at h
    · split at h
      · rename_i hq
        split at h
        · cases h
        · rename_i hin
          cases h
          obtain ⟨k9, z, rfl, h1, rfl⟩ := mj_xa_inv hq
          obtain ⟨-, x1, x2, x3⟩ := hX _ _ h1
          exact va_sld hexec hb x1 x2 x3 hS hin hdg kk
      · cases h
    · cases h
  · split at h
    · split at h
      · rename_i hq
        cases h
        obtain ⟨k9, z, rfl, h1, rfl⟩ := mj_xa_inv hq
        obtain ⟨-, x1, x2, x3⟩ := hX _ _ h1
        exact va_slen hexec hb x1 x2 x3 hS hdg kk
      · split at h
        · rename_i hq
          cases h
          obtain ⟨i, z, rfl, h1, rfl, hn⟩ := mj_sb_inv hq
          obtain ⟨-, hs⟩ := hSZ _ _ h1
          obtain ⟨s1, s2, s3, s4⟩ := hs hn
          exact va_tlen hexec hb s4 hS rfl hdg kk
        · cases h
    · cases h
  · cases h
theorem mj_uR_ne {α : Type} {f : Nat → Nat → α} {o a : Nat} {g : Nat → α} (h : a ≠ o) : mj_uR f o g a = f a := if_neg h
theorem mj_uR_at {α : Type} {f : Nat → Nat → α} {o : Nat} {g : Nat → α} : mj_uR f o g o = g := if_pos rfl
def mj_Ac (Ts : List Cond) (own : String) (ac : Nat → Bool) : Prop := ∀ ix, ac ix = true → Cond.methodLink own ix arraycopyName ∈ Ts ∧ Cond.native arraycopyName ∈ Ts ∧ Cond.static arraycopyName ∈ Ts ∧ Cond.initialized "java/lang/System" ∈ Ts
theorem mj_cp_ok (hexec : p.tables.exec = Jvm.exec) (hb : c.code = cc) (hml : c.maxLocals = ls.size) (hts : ∀ w ∈ Ts, w.before args s = true) (hown : s.vm.findClass own = some m.cls) {ac : Nat → Bool} (hAc : mj_Ac Ts own ac) (hX : mj_XA X ad A s s.heap) (hfr : 1 ≤ R.frames) (hlo : 64 ≤ R.locals) (hK : va_K D cl (mj_tys cy) s) (hP : va_P D cl (mj_ws cty cy ad M) H) (hD : va_D A (mj_ws cty cy ad M)) (hS : va_S A s.heap H locs) {i : Instr} {k : Nat} {M' : mj_M} {st st' : List Value} (h : mj_cp X ac i M st = some (k, st', M')) (hdg : decode cc pc = .ok (i, k))
    (kk : ∀ (H1 : Heap) (locs1 : List Loc), va_P D cl (mj_ws cty cy ad M') H1 → va_D A (mj_ws cty cy ad M') → va_S A s.heap H1 locs1 → W p l e R s m args below meth c H1 locs1 cells slots Q (F0 m (pc + k) ls (mj_s ad st'))) : W p l e R s m args below meth c H locs cells slots Q (F0 m pc ls (mj_s ad st)) := by
  unfold mj_cp at h
  split at h
  · rename_i ix
    cases hac : ac ix with
    | false => rw [hac] at h; cases h
    | true =>
      rw [hac] at h
      dsimp only [cond_true] at h
      obtain ⟨w1, w2, w3, w4⟩ := hAc ix hac
      split at h
      · rename_i n dp o' sp o r
        split at h
        · cases h
        · rename_i hc
          have c1 : ¬ sp < 0 := fun q => hc (Or.inl q)
          have c2 : ¬ dp < 0 := fun q => hc (Or.inr (Or.inl q))
          have c3 : ¬ n < 0 := fun q => hc (Or.inr (Or.inr (Or.inl q)))
          have c4 : (r.map fun v => v.category).sum ≤ 8 := Nat.not_lt.mp fun q => hc (Or.inr (Or.inr (Or.inr q)))
          have hlo2 : ((mj_s ad r).map fun v => v.category).sum + (nativeFrameWords "java/lang/System" "arraycopy" 5 + 11) ≤ R.locals := by
            have e1 : ((mj_s ad r).map fun v => v.category).sum = (r.map fun v => v.category).sum := by
              unfold mj_s
              rw [List.map_map]
              congr 1
              exact List.map_congr_left (fun v _ => mj_v_cat ad v)
            have e2 : nativeFrameWords "java/lang/System" "arraycopy" 5 ≤ 45 := by decide
            omega
          obtain ⟨M2, h1, h2⟩ := Option.map_eq_some_iff.mp h
          cases h2
          unfold mj_cpw at h1
          rcases mj_or_inv h1 with h1 | h1
          · split at h1
            · rename_i n0 n1 g0 g1
              split at h1
              · rename_i hb9
                cases h1
                have a0 := mj_len_at g0
                have a1 := mj_len_at g1
                have hE : (mj_ws cty cy ad M).set o' (ad o', .inl (cy 0, n1, .inl (va_cpy (M.2.1 o) (M.2.1 o') sp.toNatClampNeg dp.toNatClampNeg n.toNatClampNeg))) = mj_ws cty cy ad (M.1, mj_uR M.2.1 o' (va_cpy (M.2.1 o) (M.2.1 o') sp.toNatClampNeg dp.toNatClampNeg n.toNatClampNeg), M.2.2) :=
                  mj_ws_set rfl a1 (by simp only [mj_cell, mj_uR_at]) (fun b r hb => mj_cell_ne (M := M) (M' := (M.1, mj_uR M.2.1 o' (va_cpy (M.2.1 o) (M.2.1 o') sp.toNatClampNeg dp.toNatClampNeg n.toNatClampNeg), M.2.2)) (mj_uR_ne hb) rfl rfl r)
                exact va_copyi (c0 := cy 0) (c1 := cy 0) (n0 := n0) (n1 := n1) (f := M.2.1 o) (g := M.2.1 o') (ty := .int) hexec hb hml hown (hts _ w1) (hts _ w2) (hts _ w3) (hts _ w4) hK hP hD hS o o' 0 0 (mj_ws_at a0) (mj_ws_at a1) rfl rfl rfl c1 c2 c3 hb9.1 hb9.2 (fun _ _ => rfl) hfr hlo2 hdg (fun H1 locs1 h1 h2 h3 => kk H1 locs1 (by rw [← hE]; exact h1) (by rw [← hE]; exact h2) h3)
              · cases h1
            · cases h1
          rcases mj_or_inv h1 with h1 | h1
          · split at h1
            · rename_i q n1 g0 g1
              split at h1
              · rename_i hb9
                cases h1
                obtain ⟨k9, z, rfl, hz, rfl⟩ := mj_xa_inv g0
                obtain ⟨-, x1, x2, x3⟩ := hX _ _ hz
                have a1 := mj_len_at g1
                have hE : (mj_ws cty cy ad M).set o' (ad o', .inl (cy 0, n1, .inl (va_cpy z.2.2.2.2 (M.2.1 o') sp.toNatClampNeg dp.toNatClampNeg n.toNatClampNeg))) = mj_ws cty cy ad (M.1, mj_uR M.2.1 o' (va_cpy z.2.2.2.2 (M.2.1 o') sp.toNatClampNeg dp.toNatClampNeg n.toNatClampNeg), M.2.2) :=
                  mj_ws_set rfl a1 (by simp only [mj_cell, mj_uR_at]) (fun b r hb => mj_cell_ne (M := M) (M' := (M.1, mj_uR M.2.1 o' (va_cpy z.2.2.2.2 (M.2.1 o') sp.toNatClampNeg dp.toNatClampNeg n.toNatClampNeg), M.2.2)) (mj_uR_ne hb) rfl rfl r)
                exact va_copyx (c1 := cy 0) (n1 := n1) (g := M.2.1 o') hexec hb hml hown (hts _ w1) (hts _ w2) (hts _ w3) (hts _ w4) hK hP hD hS x1 x2 x3 o' 0 (mj_ws_at a1) rfl c1 c2 c3 hb9.1 hb9.2 hfr hlo2 hdg (fun H1 locs1 h1 h2 h3 => kk H1 locs1 (by rw [← hE]; exact h1) (by rw [← hE]; exact h2) h3)
              · cases h1
            · cases h1
          · split at h1
            · rename_i n0 n1 g0 g1
              split at h1
              · rename_i hb9
                cases h1
                have a0 := mj_len_at g0
                have a1 := mj_len_at g1
                have hE : (mj_ws cty cy ad M).set o' (ad o', .inl (cy 1, n1, .inr (.inl (va_cpy (M.2.2.1 o) (M.2.2.1 o') sp.toNatClampNeg dp.toNatClampNeg n.toNatClampNeg)))) = mj_ws cty cy ad (M.1, M.2.1, mj_uR M.2.2.1 o' (va_cpy (M.2.2.1 o) (M.2.2.1 o') sp.toNatClampNeg dp.toNatClampNeg n.toNatClampNeg), M.2.2.2) :=
                  mj_ws_set rfl a1 (by simp only [mj_cell, mj_uR_at]) (fun b r hb => mj_cell_ne (M := M) (M' := (M.1, M.2.1, mj_uR M.2.2.1 o' (va_cpy (M.2.2.1 o) (M.2.2.1 o') sp.toNatClampNeg dp.toNatClampNeg n.toNatClampNeg), M.2.2.2)) rfl (mj_uR_ne hb) rfl r)
                exact va_copyl (c0 := cy 1) (c1 := cy 1) (n0 := n0) (n1 := n1) (f := M.2.2.1 o) (g := M.2.2.1 o') hexec hb hml hown (hts _ w1) (hts _ w2) (hts _ w3) (hts _ w4) hK hP hD hS o o' 1 1 (mj_ws_at a0) (mj_ws_at a1) rfl rfl rfl c1 c2 c3 hb9.1 hb9.2 (fun _ _ => rfl) hfr hlo2 hdg (fun H1 locs1 h1 h2 h3 => kk H1 locs1 (by rw [← hE]; exact h1) (by rw [← hE]; exact h2) h3)
              · cases h1
            · cases h1
      · cases h
  · cases h
theorem mj_pvR_ok {M M' : mj_M} {o k tc : Nat} {v : Value} (h : mj_pvR M o k tc v = some M') (ad : Nat → Nat) : M'.1 = M.1 ∧ mj_v ad v = mj_fv ad M' o tc k ∧ (∀ b tc', b ≠ k → mj_fv ad M' o tc' b = mj_fv ad M o tc' b) ∧ (∀ b, b ≠ o → M'.2.1 b = M.2.1 b ∧ M'.2.2.1 b = M.2.2.1 b ∧ M'.2.2.2 b = M.2.2.2 b) := by
  unfold mj_pvR at h
  split at h
  · split at h
    · rename_i x hc
      subst hc
      cases h
      refine ⟨rfl, ?_, fun b tc' hb => ?_, fun b hb => ⟨rfl, rfl, mj_u_ne hb⟩⟩
      · simp [mj_fv, mj_v, mj_u_at, va_rf]
      · unfold mj_fv
        split
        · rfl
        · simp [mj_u_at, hb]
        · rfl
    · cases h
  · exact mj_pv_ok h ad
theorem mj_pvR_fit {M M' : mj_M} {o k : Nat} {ty : FieldType} {v : Value} (h : mj_pvR M o k (mj_tc ty) v = some M') (ad : Nat → Nat) : narrow ty (mj_v ad v) = mj_v ad v ∧ fits ty (mj_v ad v) = true := by
  unfold mj_pvR at h
  split at h
  · split at h
    · rename_i x hc
      cases ty <;> simp [mj_tc] at hc
      all_goals exact ⟨rfl, rfl⟩
    · cases h
  · exact mj_pv_fit h ad
theorem mj_putF_inv {fl : mj_FL} {ci0 k9 : Nat} {i : Instr} {M M' : mj_M} {st st' : List Value} (h : mj_putF fl ci0 i M st = some (k9, st', M')) : ∃ ix k tc o n v r, i = .putfield ix ∧ fl ix = some (ci0, k, tc, true) ∧ st = v :: .ref o :: r ∧ M.1[o]? = some (ci0, n) ∧ ci0 < 100 ∧ k < n ∧ mj_pvR M o k tc v = some M' ∧ k9 = 3 ∧ st' = r := by
  unfold mj_putF at h
  split at h
  · split at h
    · rename_i hf
      split at h
      · rename_i hn
        split at h
        · rename_i hc
          obtain ⟨hc0, hc1, hc2⟩ := hc
          subst hc0
          obtain ⟨M2, h1, h2⟩ := Option.map_eq_some_iff.mp h
          cases h2
          exact ⟨_, _, _, _, _, _, _, rfl, hf, rfl, mj_len_at hn, hc1, hc2, h1, rfl, rfl⟩
        · cases h
      · cases h
    · cases h
  · cases h
theorem mj_putF_ok (hexec : p.tables.exec = Jvm.exec) (hb : c.code = cc) (hts : ∀ w ∈ Ts, w.before args s = true) (hown : s.vm.findClass own = some m.cls) (hCl : mj_Cl cl cty Ts) (hFl : mj_Fl cl cty Ts own fl) (hin2 : meth.name = "<init>") {ci0 : Nat} (hci : ∀ q : vw_C, cl[ci0]? = some q → ∀ k, k < q.2.2 → (q.2.1 k).1 = own) (hK : va_K D cl (mj_tys cy) s) (hP : va_P D cl (mj_ws cty cy ad M) H) (hD : va_D A (mj_ws cty cy ad M)) (hS : va_S A H0 H locs) {i : Instr} {k : Nat} {M' : mj_M} {st st' : List Value} (h : mj_putF fl ci0 i M st = some (k, st', M')) (hdg : decode cc pc = .ok (i, k))
    (kk : ∀ (H1 : Heap) (locs1 : List Loc), va_P D cl (mj_ws cty cy ad M') H1 → va_D A (mj_ws cty cy ad M') → va_S A H0 H1 locs1 → W p l e R s m args below meth c H1 locs1 cells slots Q (F0 m (pc + k) ls (mj_s ad st'))) : W p l e R s m args below meth c H locs cells slots Q (F0 m pc ls (mj_s ad st)) := by
  obtain ⟨ix, k, tc, o, n, v, r, rfl, hf, rfl, hM, hc, hk, hv, rfl, rfl⟩ := mj_putF_inv h
  obtain ⟨⟨C, T, N⟩, hq, hkN, htc, hfin, hw⟩ := hFl _ _ _ _ _ hf
  obtain ⟨e1, e2, e3, e4⟩ := mj_pvR_ok hv ad
  have hft := mj_pvR_fit (ty := cty ci0 k) (by rw [htc]; exact hv) ad
  have hE : (mj_ws cty cy ad M).set o (ad o, .inr (ci0, ((List.range n).map (fun k => mj_fv ad M o (mj_tc (cty ci0 k)) k)).set k (mj_v ad v))) = mj_ws cty cy ad M' := by
    refine mj_ws_set e1 hM ?_ (fun b r hb => mj_cell_ne (e4 b hb).1 (e4 b hb).2.1 (e4 b hb).2.2 r)
    rw [mj_cell_obj hc, e2, ← htc]
    exact congrArg (fun x => Sum.inr (ci0, x)) (mj_range_set (g := fun k => mj_fv ad M' o (mj_tc (cty ci0 k)) k) (fun j hj => e3 j _ hj))
  refine va_putF (C := C) (T := T) (N := N) (ref := (T k).1) (ci := ci0) (v := mj_v ad v) (ty := cty ci0 k) hexec hb hts (hCl _ _ hq).1 (cty ci0) (hCl _ _ hq).2.1 (hCl _ _ hq).2.2 hown hK hP hD hS o (fs := (List.range n).map (fun k => mj_fv ad M o (mj_tc (cty ci0 k)) k)) ?_ hq k hkN (hts _ hw) (fun _ h9 => h9) hfin hin2 (hci _ hq k hkN) ((hCl _ _ hq).2.1 k hkN) hft.1 hft.2 ?_ hdg (fun H1 locs1 h1 h2 h3 => kk H1 locs1 (by rw [← hE]; exact h1) (by rw [← hE]; exact h2) h3)
  · rw [mj_ws_at hM, mj_cell_obj hc]
  · rw [List.length_map, List.length_range]
    exact hk
end MJF

/-! THE LIFT, 2: it keeps what the table says -/
theorem pj_si_wi (fg fg' : Bool) (z : pj_Z) (v v' : Nat) (x : Int32) : pj_si fg' (pj_wi fg z v x) v' = if fg' = fg ∧ v' = v then x else pj_si fg' z v' := by
  cases fg <;> cases fg' <;> simp [pj_si, pj_wi, pj_u]
theorem pj_sl_wi (fg fg' : Bool) (z : pj_Z) (v v' : Nat) (x : Int32) : pj_sl fg' (pj_wi fg z v x) v' = pj_sl fg' z v' := by
  cases fg <;> cases fg' <;> rfl
theorem pj_sl_wl (fg fg' : Bool) (z : pj_Z) (v v' : Nat) (x : Int64) : pj_sl fg' (pj_wl fg z v x) v' = if fg' = fg ∧ v' = v then x else pj_sl fg' z v' := by
  cases fg <;> cases fg' <;> simp [pj_sl, pj_wl, pj_u]
theorem pj_si_wl (fg fg' : Bool) (z : pj_Z) (v v' : Nat) (x : Int64) : pj_si fg' (pj_wl fg z v x) v' = pj_si fg' z v' := by
  cases fg <;> cases fg' <;> rfl
theorem pj_si_yi (fg fg' : Bool) (z : pj_Z) (v m : Nat) (g : Nat → Int32) (w v' : Nat) : pj_si fg' (pj_yi fg z v m g w) v' = if fg' = fg ∧ v ≤ v' ∧ v' < v + m then g (w + (v' - v)) else pj_si fg' z v' := by
  cases fg <;> cases fg' <;> simp [pj_si, pj_yi, pj_y]
theorem pj_sl_yi (fg fg' : Bool) (z : pj_Z) (v m : Nat) (g : Nat → Int32) (w v' : Nat) : pj_sl fg' (pj_yi fg z v m g w) v' = pj_sl fg' z v' := by
  cases fg <;> cases fg' <;> rfl
theorem pj_sl_yl (fg fg' : Bool) (z : pj_Z) (v m : Nat) (g : Nat → Int64) (w v' : Nat) : pj_sl fg' (pj_yl fg z v m g w) v' = if fg' = fg ∧ v ≤ v' ∧ v' < v + m then g (w + (v' - v)) else pj_sl fg' z v' := by
  cases fg <;> cases fg' <;> simp [pj_sl, pj_yl, pj_y]
theorem pj_si_yl (fg fg' : Bool) (z : pj_Z) (v m : Nat) (g : Nat → Int64) (w v' : Nat) : pj_si fg' (pj_yl fg z v m g w) v' = pj_si fg' z v' := by
  cases fg <;> cases fg' <;> rfl
def pj_lf (L : List (Nat × pj_E)) (sh : List (Nat × Nat)) (S : Nat → Bool) (fi : Nat → Nat → Int32) (fl : Nat → Nat → Int64) (fr : Nat → Nat → Option Nat) (z : pj_Z) : mj_M := (sh, fun o => bif S o then pj_mi L z o else fi o, fun o => bif S o then pj_ml L z o else fl o, fun o => bif S o then pj_mr L o else fr o)
section LIFT2
variable {L : List (Nat × pj_E)} {sh : List (Nat × Nat)} {S : Nat → Bool} {fi : Nat → Nat → Int32} {fl : Nat → Nat → Int64} {fr : Nat → Nat → Option Nat}
theorem pj_mi_at {z : pj_Z} {o i : Nat} {q : Bool × Nat} (h : pj_va L false o i = some q) : pj_mi L z o i = pj_si q.1 z q.2 := by
  unfold pj_mi
  rw [h]
theorem pj_ml_at {z : pj_Z} {o i : Nat} {q : Bool × Nat} (h : pj_va L true o i = some q) : pj_ml L z o i = pj_sl q.1 z q.2 := by
  unfold pj_ml
  rw [h]
theorem pj_mi_wl {fg : Bool} {z : pj_Z} {v : Nat} {x : Int64} : pj_mi L (pj_wl fg z v x) = pj_mi L z := by
  funext o i
  unfold pj_mi
  split
  · exact pj_si_wl _ _ _ _ _ _
  · rfl
theorem pj_ml_wi {fg : Bool} {z : pj_Z} {v : Nat} {x : Int32} : pj_ml L (pj_wi fg z v x) = pj_ml L z := by
  funext o i
  unfold pj_ml
  split
  · exact pj_sl_wi _ _ _ _ _ _
  · rfl
theorem pj_mi_yl {fg : Bool} {z : pj_Z} {v m w : Nat} {g : Nat → Int64} : pj_mi L (pj_yl fg z v m g w) = pj_mi L z := by
  funext o i
  unfold pj_mi
  split
  · exact pj_si_yl _ _ _ _ _ _ _ _
  · rfl
theorem pj_ml_yi {fg : Bool} {z : pj_Z} {v m w : Nat} {g : Nat → Int32} : pj_ml L (pj_yi fg z v m g w) = pj_ml L z := by
  funext o i
  unfold pj_ml
  split
  · exact pj_sl_yi _ _ _ _ _ _ _ _
  · rfl
theorem pj_lf_wi (hc : pj_chk L sh S = true) {z : pj_Z} {o i : Nat} {q : Bool × Nat} (hS : S o = true) (h : pj_va L false o i = some q) (x : Int32) : pj_lf L sh S fi fl fr (pj_wi q.1 z q.2 x) = ((pj_lf L sh S fi fl fr z).1, mj_u (pj_lf L sh S fi fl fr z).2.1 o i x, (pj_lf L sh S fi fl fr z).2.2) := by
  have e1 : (pj_lf L sh S fi fl fr (pj_wi q.1 z q.2 x)).2.1 = mj_u (pj_lf L sh S fi fl fr z).2.1 o i x := by
    funext o' i'
    show (bif S o' then pj_mi L (pj_wi q.1 z q.2 x) o' else fi o') i' = (if o' = o then (fun b => if b = i then x else (bif S o then pj_mi L z o else fi o) b) else (bif S o' then pj_mi L z o' else fi o')) i'
    by_cases eo : o' = o
    · rw [if_pos eo, eo, hS]
      show pj_mi L (pj_wi q.1 z q.2 x) o i' = if i' = i then x else pj_mi L z o i'
      by_cases ei : i' = i
      · rw [if_pos ei, ei, pj_mi_at h, pj_si_wi, if_pos ⟨rfl, rfl⟩]
      · rw [if_neg ei]
        unfold pj_mi
        cases h9 : pj_va L false o i' with
        | none => rfl
        | some q' =>
          show pj_si q'.1 (pj_wi q.1 z q.2 x) q'.2 = pj_si q'.1 z q'.2
          rw [pj_si_wi, if_neg]
          rintro ⟨ha, hb⟩
          have e9 : q' = q := Prod.ext ha hb
          rw [e9] at h9
          exact ei (pj_va_inj hc h9 h).2
    · rw [if_neg eo]
      cases S o' with
      | false => rfl
      | true =>
        show pj_mi L (pj_wi q.1 z q.2 x) o' i' = pj_mi L z o' i'
        unfold pj_mi
        cases h9 : pj_va L false o' i' with
        | none => rfl
        | some q' =>
          show pj_si q'.1 (pj_wi q.1 z q.2 x) q'.2 = pj_si q'.1 z q'.2
          rw [pj_si_wi, if_neg]
          rintro ⟨ha, hb⟩
          have e9 : q' = q := Prod.ext ha hb
          rw [e9] at h9
          exact eo (pj_va_inj hc h9 h).1
  have e2 : (pj_lf L sh S fi fl fr (pj_wi q.1 z q.2 x)).2.2 = (pj_lf L sh S fi fl fr z).2.2 := by
    unfold pj_lf
    rw [pj_ml_wi]
  exact Prod.ext rfl (Prod.ext e1 e2)
theorem pj_lf_wl (hc : pj_chk L sh S = true) {z : pj_Z} {o i : Nat} {q : Bool × Nat} (hS : S o = true) (h : pj_va L true o i = some q) (x : Int64) : pj_lf L sh S fi fl fr (pj_wl q.1 z q.2 x) = ((pj_lf L sh S fi fl fr z).1, (pj_lf L sh S fi fl fr z).2.1, mj_u (pj_lf L sh S fi fl fr z).2.2.1 o i x, (pj_lf L sh S fi fl fr z).2.2.2) := by
  have e1 : (pj_lf L sh S fi fl fr (pj_wl q.1 z q.2 x)).2.2.1 = mj_u (pj_lf L sh S fi fl fr z).2.2.1 o i x := by
    funext o' i'
    show (bif S o' then pj_ml L (pj_wl q.1 z q.2 x) o' else fl o') i' = (if o' = o then (fun b => if b = i then x else (bif S o then pj_ml L z o else fl o) b) else (bif S o' then pj_ml L z o' else fl o')) i'
    by_cases eo : o' = o
    · rw [if_pos eo, eo, hS]
      show pj_ml L (pj_wl q.1 z q.2 x) o i' = if i' = i then x else pj_ml L z o i'
      by_cases ei : i' = i
      · rw [if_pos ei, ei, pj_ml_at h, pj_sl_wl, if_pos ⟨rfl, rfl⟩]
      · rw [if_neg ei]
        unfold pj_ml
        cases h9 : pj_va L true o i' with
        | none => rfl
        | some q' =>
          show pj_sl q'.1 (pj_wl q.1 z q.2 x) q'.2 = pj_sl q'.1 z q'.2
          rw [pj_sl_wl, if_neg]
          rintro ⟨ha, hb⟩
          have e9 : q' = q := Prod.ext ha hb
          rw [e9] at h9
          exact ei (pj_va_inj hc h9 h).2
    · rw [if_neg eo]
      cases S o' with
      | false => rfl
      | true =>
        show pj_ml L (pj_wl q.1 z q.2 x) o' i' = pj_ml L z o' i'
        unfold pj_ml
        cases h9 : pj_va L true o' i' with
        | none => rfl
        | some q' =>
          show pj_sl q'.1 (pj_wl q.1 z q.2 x) q'.2 = pj_sl q'.1 z q'.2
          rw [pj_sl_wl, if_neg]
          rintro ⟨ha, hb⟩
          have e9 : q' = q := Prod.ext ha hb
          rw [e9] at h9
          exact eo (pj_va_inj hc h9 h).1
  have e2 : (pj_lf L sh S fi fl fr (pj_wl q.1 z q.2 x)).2.1 = (pj_lf L sh S fi fl fr z).2.1 := by
    unfold pj_lf
    rw [pj_mi_wl]
  exact Prod.ext rfl (Prod.ext e2 (Prod.ext e1 rfl))
theorem pj_va_row (hc : pj_chk L sh S = true) {b n i : Nat} {e : pj_E} {lg : Bool} (hb : (b, e) ∈ L) (hn : n < e.2.2.1) (hk : ¬ e.1 < 100) (hl : pj_kd lg e.1 = true) (hi : i < e.2.1) : pj_va L lg (b + n) i = some (e.2.2.2.2.1, pj_ei e n i) := by
  obtain ⟨-, k2, -⟩ := pj_chk_at hc hb
  unfold pj_va
  rw [(k2 n hn).2.2]
  dsimp only
  have : Nat.blt e.1 100 = false := by
    cases e9 : Nat.blt e.1 100 with
    | true => exact (hk (by simpa using e9)).elim
    | false => rfl
  rw [this, hl, show Nat.blt i e.2.1 = true from by simpa using hi]
  rfl
theorem pj_va_no (hc : pj_chk L sh S = true) {b n i : Nat} {e : pj_E} {lg : Bool} (hb : (b, e) ∈ L) (hn : n < e.2.2.1) (hk : ¬ e.1 < 100) (hi : ¬ i < e.2.1) : pj_va L lg (b + n) i = none := by
  obtain ⟨-, k2, -⟩ := pj_chk_at hc hb
  unfold pj_va
  rw [(k2 n hn).2.2]
  dsimp only
  have : Nat.blt e.1 100 = false := by
    cases e9 : Nat.blt e.1 100 with
    | true => exact (hk (by simpa using e9)).elim
    | false => rfl
  have h2 : Nat.blt i e.2.1 = false := by
    cases e9 : Nat.blt i e.2.1 with
    | true => exact (hi (by simpa using e9)).elim
    | false => rfl
  rw [this, h2, Bool.and_false]
  rfl
theorem pj_lf_yi (hc : pj_chk L sh S = true) {z : pj_Z} {b n dp m w : Nat} {e : pj_E} {g : Nat → Int32} (hb : (b, e) ∈ L) (hn : n < e.2.2.1) (hk : e.1 = 100) (hm : e.2.2.2.1 ≤ 1) (hd : dp + m ≤ e.2.1) : pj_lf L sh S fi fl fr (pj_yi e.2.2.2.2.1 z (pj_ei e n dp) m g w) = ((pj_lf L sh S fi fl fr z).1, mj_uR (pj_lf L sh S fi fl fr z).2.1 (b + n) (va_cpy (fun i => g (w + i)) ((pj_lf L sh S fi fl fr z).2.1 (b + n)) 0 dp m), (pj_lf L sh S fi fl fr z).2.2) := by
  obtain ⟨k1, k2, k3, k4⟩ := pj_chk_at hc hb
  have hk9 : ¬ e.1 < 100 := by omega
  have hl : pj_kd false e.1 = true := by rw [hk]; rfl
  have rowi : ∀ i, pj_ei e n dp ≤ i → i < pj_ei e n dp + m → pj_va L false (b + n) (dp + (i - pj_ei e n dp)) = some (e.2.2.2.2.1, i) := by
    intro i h1 h2
    rw [pj_va_row hc hb hn hk9 hl (by omega), pj_ei_add hm]
    have e9 : pj_ei e n dp + (i - pj_ei e n dp) = i := by omega
    rw [e9]
  have e1 : (pj_lf L sh S fi fl fr (pj_yi e.2.2.2.2.1 z (pj_ei e n dp) m g w)).2.1 = mj_uR (pj_lf L sh S fi fl fr z).2.1 (b + n) (va_cpy (fun i => g (w + i)) ((pj_lf L sh S fi fl fr z).2.1 (b + n)) 0 dp m) := by
    funext o' i'
    show (bif S o' then pj_mi L (pj_yi e.2.2.2.2.1 z (pj_ei e n dp) m g w) o' else fi o') i' = (if o' = b + n then (fun k => if dp ≤ k ∧ k < dp + m then g (w + (0 + (k - dp))) else (bif S (b + n) then pj_mi L z (b + n) else fi (b + n)) k) else (bif S o' then pj_mi L z o' else fi o')) i'
    by_cases eo : o' = b + n
    · rw [if_pos eo, eo, (k2 n hn).2.1]
      show pj_mi L (pj_yi e.2.2.2.2.1 z (pj_ei e n dp) m g w) (b + n) i' = if dp ≤ i' ∧ i' < dp + m then g (w + (0 + (i' - dp))) else pj_mi L z (b + n) i'
      by_cases hi : i' < e.2.1
      · have r := pj_va_row (lg := false) hc hb hn hk9 hl hi
        rw [pj_mi_at r, pj_si_yi, pj_mi_at r]
        have ei : dp ≤ i' → pj_ei e n i' = pj_ei e n dp + (i' - dp) := by
          intro q9
          rw [← pj_ei_add hm, show dp + (i' - dp) = i' by omega]
        have ei2 : i' ≤ dp → pj_ei e n dp = pj_ei e n i' + (dp - i') := by
          intro q9
          rw [← pj_ei_add hm, show i' + (dp - i') = dp by omega]
        by_cases hq : dp ≤ i' ∧ i' < dp + m
        · have e9 := ei hq.1
          rw [if_pos hq, if_pos ⟨rfl, (show pj_ei e n dp ≤ pj_ei e n i' by omega), (show pj_ei e n i' < pj_ei e n dp + m by omega)⟩]
          show g (w + (pj_ei e n i' - pj_ei e n dp)) = _
          rw [show w + (pj_ei e n i' - pj_ei e n dp) = w + (0 + (i' - dp)) by omega]
        · rw [if_neg hq, if_neg]
          rintro ⟨-, q1, q2⟩
          have q1 : pj_ei e n dp ≤ pj_ei e n i' := q1
          have q2 : pj_ei e n i' < pj_ei e n dp + m := q2
          apply hq
          by_cases hh : dp ≤ i'
          · have e9 := ei hh
            omega
          · have e9 := ei2 (by omega)
            omega
      · have r := pj_va_no (lg := false) hc hb hn hk9 hi
        rw [if_neg (by omega)]
        unfold pj_mi
        rw [r]
    · rw [if_neg eo]
      cases S o' with
      | false => rfl
      | true =>
        show pj_mi L (pj_yi e.2.2.2.2.1 z (pj_ei e n dp) m g w) o' i' = pj_mi L z o' i'
        unfold pj_mi
        cases h9 : pj_va L false o' i' with
        | none => rfl
        | some q' =>
          show pj_si q'.1 (pj_yi e.2.2.2.2.1 z (pj_ei e n dp) m g w) q'.2 = pj_si q'.1 z q'.2
          rw [pj_si_yi, if_neg]
          rintro ⟨ha, b9, c9⟩
          have r := rowi q'.2 b9 c9
          have e9 : q' = (e.2.2.2.2.1, q'.2) := Prod.ext ha rfl
          rw [e9] at h9
          exact eo (pj_va_inj hc h9 r).1
  have e2 : (pj_lf L sh S fi fl fr (pj_yi e.2.2.2.2.1 z (pj_ei e n dp) m g w)).2.2 = (pj_lf L sh S fi fl fr z).2.2 := by
    unfold pj_lf
    rw [pj_ml_yi]
  exact Prod.ext rfl (Prod.ext e1 e2)
theorem pj_lf_yl (hc : pj_chk L sh S = true) {z : pj_Z} {b n dp m w : Nat} {e : pj_E} {g : Nat → Int64} (hb : (b, e) ∈ L) (hn : n < e.2.2.1) (hk : e.1 = 101) (hm : e.2.2.2.1 ≤ 1) (hd : dp + m ≤ e.2.1) : pj_lf L sh S fi fl fr (pj_yl e.2.2.2.2.1 z (pj_ei e n dp) m g w) = ((pj_lf L sh S fi fl fr z).1, (pj_lf L sh S fi fl fr z).2.1, mj_uR (pj_lf L sh S fi fl fr z).2.2.1 (b + n) (va_cpy (fun i => g (w + i)) ((pj_lf L sh S fi fl fr z).2.2.1 (b + n)) 0 dp m), (pj_lf L sh S fi fl fr z).2.2.2) := by
  obtain ⟨k1, k2, k3, k4⟩ := pj_chk_at hc hb
  have hk9 : ¬ e.1 < 100 := by omega
  have hl : pj_kd true e.1 = true := by rw [hk]; rfl
  have rowi : ∀ i, pj_ei e n dp ≤ i → i < pj_ei e n dp + m → pj_va L true (b + n) (dp + (i - pj_ei e n dp)) = some (e.2.2.2.2.1, i) := by
    intro i h1 h2
    rw [pj_va_row hc hb hn hk9 hl (by omega), pj_ei_add hm]
    have e9 : pj_ei e n dp + (i - pj_ei e n dp) = i := by omega
    rw [e9]
  have e1 : (pj_lf L sh S fi fl fr (pj_yl e.2.2.2.2.1 z (pj_ei e n dp) m g w)).2.2.1 = mj_uR (pj_lf L sh S fi fl fr z).2.2.1 (b + n) (va_cpy (fun i => g (w + i)) ((pj_lf L sh S fi fl fr z).2.2.1 (b + n)) 0 dp m) := by
    funext o' i'
    show (bif S o' then pj_ml L (pj_yl e.2.2.2.2.1 z (pj_ei e n dp) m g w) o' else fl o') i' = (if o' = b + n then (fun k => if dp ≤ k ∧ k < dp + m then g (w + (0 + (k - dp))) else (bif S (b + n) then pj_ml L z (b + n) else fl (b + n)) k) else (bif S o' then pj_ml L z o' else fl o')) i'
    by_cases eo : o' = b + n
    · rw [if_pos eo, eo, (k2 n hn).2.1]
      show pj_ml L (pj_yl e.2.2.2.2.1 z (pj_ei e n dp) m g w) (b + n) i' = if dp ≤ i' ∧ i' < dp + m then g (w + (0 + (i' - dp))) else pj_ml L z (b + n) i'
      by_cases hi : i' < e.2.1
      · have r := pj_va_row (lg := true) hc hb hn hk9 hl hi
        rw [pj_ml_at r, pj_sl_yl, pj_ml_at r]
        have ei : dp ≤ i' → pj_ei e n i' = pj_ei e n dp + (i' - dp) := by
          intro q9
          rw [← pj_ei_add hm, show dp + (i' - dp) = i' by omega]
        have ei2 : i' ≤ dp → pj_ei e n dp = pj_ei e n i' + (dp - i') := by
          intro q9
          rw [← pj_ei_add hm, show i' + (dp - i') = dp by omega]
        by_cases hq : dp ≤ i' ∧ i' < dp + m
        · have e9 := ei hq.1
          rw [if_pos hq, if_pos ⟨rfl, (show pj_ei e n dp ≤ pj_ei e n i' by omega), (show pj_ei e n i' < pj_ei e n dp + m by omega)⟩]
          show g (w + (pj_ei e n i' - pj_ei e n dp)) = _
          rw [show w + (pj_ei e n i' - pj_ei e n dp) = w + (0 + (i' - dp)) by omega]
        · rw [if_neg hq, if_neg]
          rintro ⟨-, q1, q2⟩
          have q1 : pj_ei e n dp ≤ pj_ei e n i' := q1
          have q2 : pj_ei e n i' < pj_ei e n dp + m := q2
          apply hq
          by_cases hh : dp ≤ i'
          · have e9 := ei hh
            omega
          · have e9 := ei2 (by omega)
            omega
      · have r := pj_va_no (lg := true) hc hb hn hk9 hi
        rw [if_neg (by omega)]
        unfold pj_ml
        rw [r]
    · rw [if_neg eo]
      cases S o' with
      | false => rfl
      | true =>
        show pj_ml L (pj_yl e.2.2.2.2.1 z (pj_ei e n dp) m g w) o' i' = pj_ml L z o' i'
        unfold pj_ml
        cases h9 : pj_va L true o' i' with
        | none => rfl
        | some q' =>
          show pj_sl q'.1 (pj_yl e.2.2.2.2.1 z (pj_ei e n dp) m g w) q'.2 = pj_sl q'.1 z q'.2
          rw [pj_sl_yl, if_neg]
          rintro ⟨ha, b9, c9⟩
          have r := rowi q'.2 b9 c9
          have e9 : q' = (e.2.2.2.2.1, q'.2) := Prod.ext ha rfl
          rw [e9] at h9
          exact eo (pj_va_inj hc h9 r).1
  have e2 : (pj_lf L sh S fi fl fr (pj_yl e.2.2.2.2.1 z (pj_ei e n dp) m g w)).2.1 = (pj_lf L sh S fi fl fr z).2.1 := by
    unfold pj_lf
    rw [pj_mi_yl]
  exact Prod.ext rfl (Prod.ext e2 (Prod.ext e1 rfl))
theorem pj_lf_ok (hc : pj_chk L sh S = true) : pj_Lt (pj_as L) (pj_lf L sh S fi fl fr) := by
  refine ⟨fun z => ?_, fun b e he => ?_⟩
  · unfold pj_chk at hc
    simp only [Bool.and_eq_true] at hc
    exact Nat.le_of_ble_eq_true hc.1
  have hb := pj_as_in he
  obtain ⟨k1, k2, k3, k4⟩ := pj_chk_at hc hb
  refine ⟨⟨k1, fun z n hn => (k2 n hn).1⟩, fun z n i hk hn hi => ?_, fun z n i hk hn hi => ?_, fun z n i hk hn hi => ?_, fun z f w hk hw => ?_, fun z n dp m g w hk hn hm hd => pj_lf_yi hc hb hn hk hm hd, fun z n dp m g w hk hn hm hd => pj_lf_yl hc hb hn hk hm hd⟩
  · have r := pj_va_row (lg := false) hc hb hn (by omega) (by rcases hk with q | q <;> (rw [q]; rfl)) hi
    refine ⟨?_, fun x => pj_lf_wi hc (k2 n hn).2.1 r x⟩
    show (bif S (b + n) then pj_mi L z (b + n) else fi (b + n)) i = _
    rw [(k2 n hn).2.1]
    exact pj_mi_at r
  · have r := pj_va_row (lg := true) hc hb hn (by omega) (by rw [hk]; rfl) hi
    refine ⟨?_, fun x => pj_lf_wl hc (k2 n hn).2.1 r x⟩
    show (bif S (b + n) then pj_ml L z (b + n) else fl (b + n)) i = _
    rw [(k2 n hn).2.1]
    exact pj_ml_at r
  · show (bif S (b + n) then pj_mr L (b + n) else fr (b + n)) i = _
    rw [(k2 n hn).2.1]
    dsimp only [cond_true]
    unfold pj_mr
    rw [(k2 n hn).2.2]
    dsimp only
    have q1 : Nat.blt e.1 100 = false := by rcases hk with q | q <;> (rw [q]; rfl)
    have q2 : (e.1 == 103 || e.1 == 104) = true := by rcases hk with q | q <;> (rw [q]; rfl)
    rw [q1, q2, show Nat.blt i e.2.1 = true from by simpa using hi]
    rfl
  · have f0 := k2 0 k1
    rw [Nat.add_zero] at f0
    have q1 : Nat.blt e.1 100 = true := by simpa using hk
    refine ⟨fun h2 => ?_, fun fg h2 => ?_⟩
    · show (bif S b then pj_mr L b else fr b) f = _
      rw [f0.2.1]
      dsimp only [cond_true]
      unfold pj_mr
      rw [f0.2.2]
      dsimp only
      rw [q1]
      dsimp only [cond_true]
      rw [hw]
      dsimp only
      rw [h2]
      rfl
    · have r : ∀ lg, pj_va L lg b f = some (fg, w.2) := by
        intro lg
        unfold pj_va
        rw [f0.2.2]
        dsimp only
        rw [q1]
        dsimp only [cond_true]
        rw [hw]
        dsimp only
        rw [h2]
        cases fg <;> rfl
      refine ⟨?_, ?_, fun x => pj_lf_wi hc f0.2.1 (r false) x, fun x => pj_lf_wl hc f0.2.1 (r true) x⟩
      · show (bif S b then pj_mi L z b else fi b) f = _
        rw [f0.2.1]
        exact pj_mi_at (r false)
      · show (bif S b then pj_ml L z b else fl b) f = _
        rw [f0.2.1]
        exact pj_ml_at (r true)
end LIFT2

/-! CONSTRUCTORS: the small machine, run -/
section CE
def ce_s (call : Nat → List Value → mj_M → Option (Option Value × mj_M)) (j : Nat) (Y : mj_Y) : Nat → mj_S → Option (Option Value × mj_M)
  | 0, _ => none
  | n + 1, S => match mj_lk Y.2.2.2.2 S.1 with
    | some (i, k) => (match mj_rt Y.2.2.2.1 i k S.2.2.1 with
      | some r => some (r, S.2.2.2)
      | none => (match mj_one ic_P true j Y.2.2.1 i k S with
        | some S' => ce_s call j Y n S'
        | none => (match mj_call ic_P j i k S with
          | some (j', vs, rest) => (match call j' vs S.2.2.2 with
            | some (v, M') => ce_s call j Y n (S.1 + 3, S.2.1, v.toList ++ rest, M')
            | none => none)
          | none => none)))
    | none => none
def ce_m : Nat → Nat → List Value → mj_M → Option (Option Value × mj_M)
  | 0, _, _, _ => none
  | d + 1, j, vs, M => match mj_pY ic_P j with
    | some Y => if mj_sum vs ≤ Y.2.2.1 then ce_s (ce_m d) j Y 3000 (0, lv_args 0 vs, [], M) else none
    | none => none
theorem ce_s_ok {call : Nat → List Value → mj_M → Option (Option Value × mj_M)} {Rel : Nat → List Value → mj_M → Option Value → mj_M → Prop} (hc : ∀ j vs M r M', call j vs M = some (r, M') → Rel j vs M r M') {j : Nat} {Y : mj_Y} : ∀ (n : Nat) {S : mj_S} {r : Option Value} {M' : mj_M}, ce_s call j Y n S = some (r, M') → mj_wp ic_P Rel true j Y S (fun r9 M9 => r9 = r ∧ M9 = M') := by
  intro n
  induction n with
  | zero => intro S r M' h; cases h
  | succ n ih =>
    intro S r M' h
    unfold ce_s at h
    split at h
    · rename_i i k hl
      split at h
      · rename_i r9 hr
        cases h
        exact mj_wp_ret hl hr ⟨rfl, rfl⟩
      · split at h
        · rename_i S1 h1
          exact mj_wp_one hl h1 (ih h)
        · split at h
          · rename_i j' vs rest h2
            split at h
            · rename_i v M9 h3
              exact mj_wp_call hl h2 (hc _ _ _ _ _ h3) (ih h)
            · cases h
          · cases h
    · cases h
theorem ce_m_ok : ∀ (d : Nat) {j : Nat} {vs : List Value} {M M' : mj_M} {r : Option Value}, ce_m d j vs M = some (r, M') → mj_R ic_P d j vs M r M' := by
  intro d
  induction d with
  | zero => intro j vs M M' r h; cases h
  | succ d ih =>
    intro j vs M M' r h
    unfold ce_m at h
    split at h
    · rename_i Y hY
      split at h
      · rename_i hs
        exact mj_wp_Rb hY hs (ce_s_ok (Rel := mj_R ic_P d) (fun j9 vs9 M9 r9 N9 g => ih g) _ h)
      · cases h
    · cases h
end CE

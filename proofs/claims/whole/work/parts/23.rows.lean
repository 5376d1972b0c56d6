/-! THE SMALL MACHINE, 14: an array of rows, where the heap holds the outer array and behind it its rows -/
def mj_adr (ad : Nat → Nat) (L n h : Nat) : Nat → Nat := fun i => if L ≤ i ∧ i ≤ L + n then h + (i - L) else ad i
theorem mj_adr_ag {ad : Nat → Nat} {L n h : Nat} (hL : L + n < 1000000) : mj_ag L ad (mj_adr ad L n h) := fun i hi => if_neg (by omega)
theorem mj_rows_len {M : mj_M} {ko ki n k : Nat} : (mj_rows M ko ki n k).1.length = M.1.length + (n + 1) := by simp [mj_rows]
theorem mj_rows_old {M : mj_M} {ko ki n k b : Nat} (h : b < M.1.length) : (mj_rows M ko ki n k).1[b]? = M.1[b]? := by
  show (M.1 ++ _)[b]? = _
  rw [List.getElem?_append_left h]
theorem mj_rows_out {M : mj_M} {ko ki n k : Nat} : (mj_rows M ko ki n k).1[M.1.length]? = some (ko, n) := by simp [mj_rows]
theorem mj_rows_in {M : mj_M} {ko ki n k j : Nat} (h : j < n) : (mj_rows M ko ki n k).1[M.1.length + 1 + j]? = some (ki, k) := by
  show (M.1 ++ ((ko, n) :: List.replicate n (ki, k)))[M.1.length + 1 + j]? = _
  rw [List.getElem?_append_right (by omega), show M.1.length + 1 + j - M.1.length = j + 1 by omega]
  simp [h]
theorem mj_rows_world {D : va_G} {cl : List vw_C} {cty : Nat → Nat → FieldType} {cy : Nat → ClassId} {ad : Nat → Nat} {M : mj_M} {n k ki co ci : Nat} {z : vp_A} {H F H0 : Heap} {A : Nat → Prop} {locs : List Loc} (hM : mj_wM M) (hL : M.1.length + n < 1000000) (hP : va_P D cl (mj_ws cty cy ad M) H) (hD : va_D A (mj_ws cty cy ad M)) (hS : va_S A H0 H locs) (hA : ∀ q, H0.size ≤ q → A q)
    (f1 : F.size = H.size + 1 + n) (f2 : F[H.size]? = some (vp_cell (cy co) (n, .inr (.inr (.inr (.inr (fun j => if j < n then some (H.size + 1 + j) else none))))))) (f3 : ∀ j, j < n → F[H.size + 1 + j]? = some (vp_cell (cy ci) z)) (f4 : ∀ x, x < H.size → F[x]? = H[x]?)
    (c1 : ∀ (ad : Nat → Nat) (M : mj_M) (o : Nat), mj_cell cty cy ad M o (ki + 3, n) = .inl (cy co, n, .inr (.inr (.inr (.inr (fun j => (M.2.2.2 o j).map ad)))))) (c2 : ∀ (ad : Nat → Nat) (M : mj_M) (o : Nat), M.2.1 o = (fun _ => 0) → M.2.2.1 o = (fun _ => 0) → mj_cell cty cy ad M o (ki, k) = .inl (cy ci, z)) :
    va_P D cl (mj_ws cty cy (mj_adr ad M.1.length n H.size) (mj_rows M (ki + 3) ki n k)) F ∧ va_D A (mj_ws cty cy (mj_adr ad M.1.length n H.size) (mj_rows M (ki + 3) ki n k)) ∧ va_S A H0 F locs := by
  have hag : mj_ag M.1.length ad (mj_adr ad M.1.length n H.size) := mj_adr_ag hL
  have hlen := mj_rows_len (M := M) (ko := ki + 3) (ki := ki) (n := n) (k := k)
  have old : ∀ b r, b < M.1.length → M.1[b]? = some r → mj_cell cty cy (mj_adr ad M.1.length n H.size) (mj_rows M (ki + 3) ki n k) b r = mj_cell cty cy ad M b r := fun b r hb hr => by
    rw [mj_cell_ne (M := M) (M' := mj_rows M (ki + 3) ki n k) (if_neg (by omega)) (if_neg (by omega)) (by show (if b = M.1.length then _ else if M.1.length ≤ b then _ else M.2.2.2 b) = _; rw [if_neg (by omega), if_neg (by omega)]), mj_cell_ag hag (fun k i hi => hM b k i hi)]
  have adO : ∀ b, b < M.1.length → mj_adr ad M.1.length n H.size b = ad b := fun b hb => hag b (Or.inl hb)
  have adN : ∀ j, j ≤ n → mj_adr ad M.1.length n H.size (M.1.length + j) = H.size + j := fun j hj => by
    unfold mj_adr
    rw [if_pos (by omega)]
    omega
  have lt : ∀ b r, b < M.1.length → M.1[b]? = some r → ad b < H.size := fun b r hb hr => (hP b _ (mj_ws_at hr)).lt
  refine ⟨fun b q hb => ?_, ⟨fun i j p q hi hj hpq => ?_, fun b q hb => ?_⟩, ⟨by rw [f1]; have := hS.1; omega, fun q h1 h2 => (f4 q (Nat.lt_of_lt_of_le h1 hS.1)).trans (hS.2.1 q h1 h2), hS.2.2⟩⟩
  · obtain ⟨-, r, hr⟩ := mj_ws_get hb
    have hq := mj_ws_at (cty := cty) (cy := cy) (ad := mj_adr ad M.1.length n H.size) hr
    rw [hb] at hq
    cases Option.some.inj hq
    have hbl : b < M.1.length + (n + 1) := by rw [← hlen]; exact (List.getElem?_eq_some_iff.mp hr).1
    rcases Nat.lt_trichotomy b M.1.length with h1 | h1 | h1
    · rw [mj_rows_old h1] at hr
      rw [adO b h1, old b r h1 hr]
      exact (hP b _ (mj_ws_at hr)).kept (f4 _ (lt b r h1 hr))
    · subst h1
      rw [mj_rows_out] at hr
      cases hr
      rw [c1]
      show F[mj_adr ad M.1.length n H.size M.1.length]? = some (vp_cell _ _)
      rw [show mj_adr ad M.1.length n H.size M.1.length = H.size from adN 0 (Nat.zero_le _), f2]
      congr 4
      have : (fun j => ((mj_rows M (ki + 3) ki n k).2.2.2 M.1.length j).map (mj_adr ad M.1.length n H.size)) = (fun j => if j < n then some (H.size + 1 + j) else none) := by
        funext j
        show ((if M.1.length = M.1.length then (fun j => if j < n then some (M.1.length + 1 + j) else none) else _) j : Option Nat).map _ = _
        rw [if_pos rfl]
        by_cases hj : j < n
        · simp only [hj, if_true, Option.map_some]
          rw [show M.1.length + 1 + j = M.1.length + (1 + j) by omega, adN (1 + j) (by omega)]
          congr 1
          omega
        · simp only [hj, if_false, Option.map_none]
      rw [this]
    · obtain ⟨j, hj⟩ : ∃ j, b = M.1.length + 1 + j := ⟨b - M.1.length - 1, by omega⟩
      subst hj
      have hjn : j < n := by omega
      rw [mj_rows_in hjn] at hr
      cases hr
      rw [c2 _ _ _ (if_pos (by omega)) (if_pos (by omega))]
      show F[mj_adr ad M.1.length n H.size (M.1.length + 1 + j)]? = some (vp_cell _ _)
      rw [show M.1.length + 1 + j = M.1.length + (1 + j) by omega, adN (1 + j) (by omega), show H.size + (1 + j) = H.size + 1 + j by omega]
      exact f3 j hjn
  · obtain ⟨e1, r1, g1⟩ := mj_ws_get hi
    obtain ⟨e2, r2, g2⟩ := mj_ws_get hj
    have b1 : i < M.1.length + (n + 1) := by rw [← hlen]; exact (List.getElem?_eq_some_iff.mp g1).1
    have b2 : j < M.1.length + (n + 1) := by rw [← hlen]; exact (List.getElem?_eq_some_iff.mp g2).1
    rw [e1, e2] at hpq
    have big : ∀ x, M.1.length ≤ x → x < M.1.length + (n + 1) → mj_adr ad M.1.length n H.size x = H.size + (x - M.1.length) := fun x h1 h2 => by
      unfold mj_adr
      rw [if_pos (by omega)]
    rcases Nat.lt_or_ge i M.1.length with h1 | h1 <;> rcases Nat.lt_or_ge j M.1.length with h2 | h2
    · rw [mj_rows_old h1] at g1
      rw [mj_rows_old h2] at g2
      rw [adO i h1, adO j h2] at hpq
      exact hD.1 i j _ _ (mj_ws_at g1) (mj_ws_at g2) hpq
    · rw [mj_rows_old h1] at g1
      rw [adO i h1, big j h2 b2] at hpq
      have := lt i r1 h1 g1
      omega
    · rw [mj_rows_old h2] at g2
      rw [adO j h2, big i h1 b1] at hpq
      have := lt j r2 h2 g2
      omega
    · rw [big i h1 b1, big j h2 b2] at hpq
      omega
  · obtain ⟨e1, r1, g1⟩ := mj_ws_get hb
    have b1 : b < M.1.length + (n + 1) := by rw [← hlen]; exact (List.getElem?_eq_some_iff.mp g1).1
    rw [e1]
    rcases Nat.lt_or_ge b M.1.length with h1 | h1
    · rw [mj_rows_old h1] at g1
      rw [adO b h1]
      exact hD.2 b _ (mj_ws_at g1)
    · unfold mj_adr
      rw [if_pos (by omega)]
      exact hA _ (by have := hS.1; omega)

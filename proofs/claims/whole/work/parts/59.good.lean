/-! PROGRAM: it is GOOD -/
theorem mj_all_in : ∀ (ws : List Cond) (ps : List (Nat × Nat)), (ws.zip ps).all (fun q => mj_wa q.2 q.1) = true → ws.length = ps.length → ∀ w ∈ ws, w ∈ mj_AW := by
  intro ws
  induction ws with
  | nil => intro ps _ _ w h; cases h
  | cons a r ih =>
    intro ps h hl w hw
    cases ps with
    | nil => cases hl
    | cons p q =>
      simp only [List.zip_cons_cons, List.all_cons, Bool.and_eq_true] at h
      rcases List.mem_cons.mp hw with rfl | hw
      · exact mj_wa_in h.1
      · exact ih q h.2 (Nat.succ.inj hl) w hw
set_option maxRecDepth 100000 in
theorem iu_X0 : ∀ w ∈ u_ws RX0 TX0 19, w ∈ mj_AW := mj_all_in _ [(3, 232), (3, 234), (3, 236), (3, 238), (4, 0), (4, 2), (4, 4), (4, 6), (4, 8), (4, 10), (4, 12), (4, 14), (4, 16), (4, 18), (4, 20), (4, 22), (4, 24), (4, 26), (4, 28)] (by decide +kernel) (by decide +kernel)
set_option maxRecDepth 100000 in
theorem iu_X1 : ∀ w ∈ u_ws RX1 TX1 18, w ∈ mj_AW := mj_all_in _ [(3, 156), (3, 158), (3, 160), (3, 162), (3, 164), (3, 166), (3, 168), (3, 170), (3, 172), (3, 174), (3, 176), (3, 178), (3, 180), (3, 182), (3, 184), (3, 186), (3, 188), (3, 190)] (by decide +kernel) (by decide +kernel)
set_option maxRecDepth 100000 in
theorem iu_X2 : ∀ w ∈ u_ws RX2 TX2 19, w ∈ mj_AW := mj_all_in _ [(1, 214), (1, 216), (1, 218), (1, 220), (1, 222), (1, 224), (1, 226), (1, 228), (1, 230), (1, 232), (1, 234), (1, 236), (1, 238), (2, 0), (2, 2), (2, 4), (2, 6), (2, 8), (2, 10)] (by decide +kernel) (by decide +kernel)
set_option maxRecDepth 100000 in
theorem iu_X3 : ∀ w ∈ u_ws RX3 TX3 20, w ∈ mj_AW := mj_all_in _ [(2, 205), (2, 207), (2, 209), (2, 211), (2, 213), (2, 215), (2, 217), (2, 219), (2, 221), (2, 223), (2, 225), (2, 227), (2, 229), (2, 231), (2, 233), (2, 235), (2, 237), (2, 239), (3, 1), (3, 3)] (by decide +kernel) (by decide +kernel)
set_option maxRecDepth 100000 in
theorem iu_X4 : ∀ w ∈ u_ws RX4 TX4 10, w ∈ mj_AW := mj_all_in _ [(1, 73), (1, 75), (1, 77), (1, 79), (1, 81), (1, 83), (1, 85), (1, 87), (1, 89), (1, 91)] (by decide +kernel) (by decide +kernel)
set_option maxRecDepth 100000 in
theorem iu_X5 : ∀ w ∈ u_ws RX5 TX5 13, w ∈ mj_AW := mj_all_in _ [(4, 60), (4, 62), (4, 64), (4, 66), (4, 68), (4, 70), (4, 72), (4, 74), (4, 76), (4, 78), (4, 80), (4, 82), (4, 84)] (by decide +kernel) (by decide +kernel)
set_option maxRecDepth 100000 in
theorem iu_X6 : ∀ w ∈ u_ws RX6 TX6 19, w ∈ mj_AW := mj_all_in _ [(2, 47), (2, 49), (2, 51), (2, 53), (2, 55), (2, 57), (2, 59), (2, 61), (2, 63), (2, 65), (2, 67), (2, 69), (2, 71), (2, 73), (2, 75), (2, 77), (2, 79), (2, 81), (2, 83)] (by decide +kernel) (by decide +kernel)
set_option maxRecDepth 100000 in
theorem iu_X7 : ∀ w ∈ u_ws RX7 TX7 11, w ∈ mj_AW := mj_all_in _ [(1, 139), (1, 141), (1, 143), (1, 145), (1, 147), (1, 149), (1, 151), (1, 153), (1, 155), (1, 157), (1, 159)] (by decide +kernel) (by decide +kernel)
set_option maxRecDepth 100000 in
theorem iu_X8 : ∀ w ∈ u_ws RX8 TX8 18, w ∈ mj_AW := mj_all_in _ [(3, 82), (3, 84), (3, 86), (3, 88), (3, 90), (3, 92), (3, 94), (3, 96), (3, 98), (3, 100), (3, 102), (3, 104), (3, 106), (3, 108), (3, 110), (3, 112), (3, 114), (3, 116)] (by decide +kernel) (by decide +kernel)
set_option maxRecDepth 100000 in
theorem iu_X9 : ∀ w ∈ u_ws RX9 TX9 18, w ∈ mj_AW := mj_all_in _ [(2, 126), (2, 128), (2, 130), (2, 132), (2, 134), (2, 136), (2, 138), (2, 140), (2, 142), (2, 144), (2, 146), (2, 148), (2, 150), (2, 152), (2, 154), (2, 156), (2, 158), (2, 160)] (by decide +kernel) (by decide +kernel)
set_option maxRecDepth 100000 in
theorem iu_X10 : ∀ w ∈ u_ws RX10 TX10 8, w ∈ mj_AW := mj_all_in _ [(3, 29), (3, 31), (3, 33), (3, 35), (3, 37), (3, 39), (3, 41), (3, 43)] (by decide +kernel) (by decide +kernel)
set_option maxRecDepth 100000 in
theorem iu_X11 : ∀ w ∈ u_ws RX11 TX11 17, w ∈ mj_AW := mj_all_in _ [(4, 104), (4, 106), (4, 108), (4, 110), (4, 112), (4, 114), (4, 116), (4, 118), (4, 120), (4, 122), (4, 124), (4, 126), (4, 128), (4, 130), (4, 132), (4, 134), (4, 136)] (by decide +kernel) (by decide +kernel)
set_option maxRecDepth 100000 in
theorem iu_X12 : ∀ w ∈ u_ws RX12 TX12 195, w ∈ mj_AW := mj_all_in _ [(11, 101), (11, 103), (11, 105), (11, 107), (11, 109), (11, 111), (11, 113), (11, 115), (11, 117), (11, 119), (11, 121), (11, 123), (11, 125), (11, 127), (11, 129), (11, 131), (11, 133), (11, 135), (11, 137), (11, 139), (11, 141), (11, 143), (11, 145), (11, 147), (11, 149), (11, 151), (11, 153), (11, 155), (11, 157), (11, 159), (11, 161), (11, 163), (11, 165), (11, 167), (11, 169), (11, 171), (11, 173), (11, 175), (11, 177), (11, 179), (11, 181), (11, 183), (11, 185), (11, 187), (11, 189), (11, 191), (11, 193), (11, 195), (11, 197), (11, 199), (11, 201), (11, 203), (11, 205), (11, 207), (11, 209), (11, 211), (11, 213), (11, 215), (11, 217), (11, 219), (11, 221), (11, 223), (11, 225), (11, 227), (11, 229), (11, 231), (11, 233), (11, 235), (11, 237), (11, 239), (12, 1), (12, 3), (12, 5), (12, 7), (12, 9), (12, 11), (12, 13), (12, 15), (12, 17), (12, 19), (12, 21), (12, 23), (12, 25), (12, 27), (12, 29), (12, 31), (12, 33), (12, 35), (12, 37), (12, 39), (12, 41), (12, 43), (12, 45), (12, 47), (12, 49), (12, 51), (12, 53), (12, 55), (12, 57), (12, 59), (12, 61), (12, 63), (12, 65), (12, 67), (12, 69), (12, 71), (12, 73), (12, 75), (12, 77), (12, 79), (12, 81), (12, 83), (12, 85), (12, 87), (12, 89), (12, 91), (12, 93), (12, 95), (12, 97), (12, 99), (12, 101), (12, 103), (12, 105), (12, 107), (12, 109), (12, 111), (12, 113), (12, 115), (12, 117), (12, 119), (12, 121), (12, 123), (12, 125), (12, 127), (12, 129), (12, 131), (12, 133), (12, 135), (12, 137), (12, 139), (12, 141), (12, 143), (12, 145), (12, 147), (12, 149), (12, 151), (12, 153), (12, 155), (12, 157), (12, 159), (12, 161), (12, 163), (12, 165), (12, 167), (12, 169), (12, 171), (12, 173), (12, 175), (12, 177), (12, 179), (12, 181), (12, 183), (12, 185), (12, 187), (12, 189), (12, 191), (12, 193), (12, 195), (12, 197), (12, 199), (12, 201), (12, 203), (12, 205), (12, 207), (12, 209), (12, 211), (12, 213), (12, 215), (12, 217), (12, 219), (12, 221), (12, 223), (12, 225), (12, 227), (12, 229), (12, 231), (12, 233), (12, 235), (12, 237), (12, 239), (13, 1), (13, 3), (13, 5), (13, 7), (13, 9)] (by decide +kernel) (by decide +kernel)
theorem ic_Cl : mj_Cl vwCl ic_ty mj_AW := by
  intro ci q h
  match ci, h with
  | 0, h => cases h; exact ⟨iu_X0, tyX0_ok, nmX0⟩
  | 1, h => cases h; exact ⟨iu_X1, tyX1_ok, nmX1⟩
  | 2, h => cases h; exact ⟨iu_X2, tyX2_ok, nmX2⟩
  | 3, h => cases h; exact ⟨iu_X3, tyX3_ok, nmX3⟩
  | 4, h => cases h; exact ⟨iu_X4, tyX4_ok, nmX4⟩
  | 5, h => cases h; exact ⟨iu_X5, tyX5_ok, nmX5⟩
  | 6, h => cases h; exact ⟨iu_X6, tyX6_ok, nmX6⟩
  | 7, h => cases h; exact ⟨iu_X7, tyX7_ok, nmX7⟩
  | 8, h => cases h; exact ⟨iu_X8, tyX8_ok, nmX8⟩
  | 9, h => cases h; exact ⟨iu_X9, tyX9_ok, nmX9⟩
  | 10, h => cases h; exact ⟨iu_X10, tyX10_ok, nmX10⟩
  | 11, h => cases h; exact ⟨iu_X11, tyX11_ok, nmX11⟩
  | 12, h => cases h; exact ⟨iu_X12, tyX12_ok, nmX12⟩
  | n + 13, h => cases h
theorem ic_Ns_ok : ∀ w ∈ ic_Ns, mj_nw w := List.forall_mem_cons.mpr ⟨Or.inl ⟨_, _, _, _, rfl⟩, List.forall_mem_cons.mpr ⟨Or.inl ⟨_, _, _, _, rfl⟩, List.forall_mem_cons.mpr ⟨Or.inl ⟨_, _, _, _, rfl⟩, List.forall_mem_cons.mpr ⟨Or.inl ⟨_, _, _, _, rfl⟩, List.forall_mem_cons.mpr ⟨Or.inl ⟨_, _, _, _, rfl⟩, List.forall_mem_cons.mpr ⟨Or.inl ⟨_, _, _, _, rfl⟩, List.forall_mem_cons.mpr ⟨Or.inl ⟨_, _, _, _, rfl⟩, List.forall_mem_cons.mpr ⟨Or.inl ⟨_, _, _, _, rfl⟩, List.forall_mem_cons.mpr ⟨Or.inl ⟨_, _, _, _, rfl⟩, List.forall_mem_cons.mpr ⟨Or.inl ⟨_, _, _, _, rfl⟩, List.forall_mem_cons.mpr ⟨Or.inl ⟨_, _, _, _, rfl⟩, List.forall_mem_cons.mpr ⟨Or.inl ⟨_, _, _, _, rfl⟩, List.forall_mem_cons.mpr ⟨Or.inl ⟨_, _, _, _, rfl⟩, List.forall_mem_cons.mpr ⟨Or.inl ⟨_, _, _, _, rfl⟩, List.forall_mem_cons.mpr ⟨Or.inl ⟨_, _, _, _, rfl⟩, List.forall_mem_cons.mpr ⟨Or.inr (Or.inl ⟨_, rfl⟩), List.forall_mem_cons.mpr ⟨Or.inr (Or.inl ⟨_, rfl⟩), List.forall_mem_cons.mpr ⟨Or.inr (Or.inr (Or.inl ⟨_, rfl⟩)), List.forall_mem_cons.mpr ⟨Or.inr (Or.inr (Or.inl ⟨_, rfl⟩)), List.forall_mem_cons.mpr ⟨Or.inr (Or.inr (Or.inl ⟨_, rfl⟩)), List.forall_mem_cons.mpr ⟨Or.inr (Or.inr (Or.inr ⟨_, _, rfl⟩)), List.forall_mem_cons.mpr ⟨Or.inr (Or.inr (Or.inr ⟨_, _, rfl⟩)), List.forall_mem_cons.mpr ⟨Or.inr (Or.inr (Or.inr ⟨_, _, rfl⟩)), fun _ h => absurd h List.not_mem_nil⟩⟩⟩⟩⟩⟩⟩⟩⟩⟩⟩⟩⟩⟩⟩⟩⟩⟩⟩⟩⟩⟩⟩
theorem ic_Good : mj_Good mj_AW ic_Ns vwCl ic_ty ic_P := mj_good_of (wi := ic_wi) (wo := ic_wo) (wb := ic_wb) (ws := ic_ws) ic_Cl ⟨mj_wa_in (q := (1, 94)) (by decide +kernel), mj_wa_in (q := (2, 86)) (by decide +kernel), mj_wa_in (q := (1, 162)) (by decide +kernel)⟩ ic_Ns_ok ⟨List.mem_of_getElem? (i := 15) rfl, List.mem_of_getElem? (i := 16) rfl⟩ ok_all

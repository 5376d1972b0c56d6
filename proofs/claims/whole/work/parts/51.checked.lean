/-! PROGRAM: it is checked -/
set_option maxRecDepth 100000 in
theorem ok_X0 : mj_okC ic_Ns vwCl ic_ty ic_all im_all ic_X ic_wi ic_wo ic_wb ic_ws 0 := ⟨by decide +kernel, by decide +kernel, by decide +kernel, by decide +kernel, by decide +kernel, by decide +kernel, by decide +kernel, by decide +kernel, by decide +kernel, by decide +kernel⟩
set_option maxRecDepth 100000 in
theorem ok_X1 : mj_okC ic_Ns vwCl ic_ty ic_all im_all ic_X ic_wi ic_wo ic_wb ic_ws 1 := ⟨by decide +kernel, by decide +kernel, by decide +kernel, by decide +kernel, by decide +kernel, by decide +kernel, by decide +kernel, by decide +kernel, by decide +kernel, by decide +kernel⟩
set_option maxRecDepth 100000 in
theorem ok_X2 : mj_okC ic_Ns vwCl ic_ty ic_all im_all ic_X ic_wi ic_wo ic_wb ic_ws 2 := ⟨by decide +kernel, by decide +kernel, by decide +kernel, by decide +kernel, by decide +kernel, by decide +kernel, by decide +kernel, by decide +kernel, by decide +kernel, by decide +kernel⟩
set_option maxRecDepth 100000 in
theorem ok_X3 : mj_okC ic_Ns vwCl ic_ty ic_all im_all ic_X ic_wi ic_wo ic_wb ic_ws 3 := ⟨by decide +kernel, by decide +kernel, by decide +kernel, by decide +kernel, by decide +kernel, by decide +kernel, by decide +kernel, by decide +kernel, by decide +kernel, by decide +kernel⟩
set_option maxRecDepth 100000 in
theorem ok_X4 : mj_okC ic_Ns vwCl ic_ty ic_all im_all ic_X ic_wi ic_wo ic_wb ic_ws 4 := ⟨by decide +kernel, by decide +kernel, by decide +kernel, by decide +kernel, by decide +kernel, by decide +kernel, by decide +kernel, by decide +kernel, by decide +kernel, by decide +kernel⟩
set_option maxRecDepth 100000 in
theorem ok_X5 : mj_okC ic_Ns vwCl ic_ty ic_all im_all ic_X ic_wi ic_wo ic_wb ic_ws 5 := ⟨by decide +kernel, by decide +kernel, by decide +kernel, by decide +kernel, by decide +kernel, by decide +kernel, by decide +kernel, by decide +kernel, by decide +kernel, by decide +kernel⟩
set_option maxRecDepth 100000 in
theorem ok_X6 : mj_okC ic_Ns vwCl ic_ty ic_all im_all ic_X ic_wi ic_wo ic_wb ic_ws 6 := ⟨by decide +kernel, by decide +kernel, by decide +kernel, by decide +kernel, by decide +kernel, by decide +kernel, by decide +kernel, by decide +kernel, by decide +kernel, by decide +kernel⟩
set_option maxRecDepth 100000 in
theorem ok_X7 : mj_okC ic_Ns vwCl ic_ty ic_all im_all ic_X ic_wi ic_wo ic_wb ic_ws 7 := ⟨by decide +kernel, by decide +kernel, by decide +kernel, by decide +kernel, by decide +kernel, by decide +kernel, by decide +kernel, by decide +kernel, by decide +kernel, by decide +kernel⟩
set_option maxRecDepth 100000 in
theorem ok_X8 : mj_okC ic_Ns vwCl ic_ty ic_all im_all ic_X ic_wi ic_wo ic_wb ic_ws 8 := ⟨by decide +kernel, by decide +kernel, by decide +kernel, by decide +kernel, by decide +kernel, by decide +kernel, by decide +kernel, by decide +kernel, by decide +kernel, by decide +kernel⟩
set_option maxRecDepth 100000 in
theorem ok_X9 : mj_okC ic_Ns vwCl ic_ty ic_all im_all ic_X ic_wi ic_wo ic_wb ic_ws 9 := ⟨by decide +kernel, by decide +kernel, by decide +kernel, by decide +kernel, by decide +kernel, by decide +kernel, by decide +kernel, by decide +kernel, by decide +kernel, by decide +kernel⟩
set_option maxRecDepth 100000 in
theorem ok_X10 : mj_okC ic_Ns vwCl ic_ty ic_all im_all ic_X ic_wi ic_wo ic_wb ic_ws 10 := ⟨by decide +kernel, by decide +kernel, by decide +kernel, by decide +kernel, by decide +kernel, by decide +kernel, by decide +kernel, by decide +kernel, by decide +kernel, by decide +kernel⟩
set_option maxRecDepth 100000 in
theorem ok_X11 : mj_okC ic_Ns vwCl ic_ty ic_all im_all ic_X ic_wi ic_wo ic_wb ic_ws 11 := ⟨by decide +kernel, by decide +kernel, by decide +kernel, by decide +kernel, by decide +kernel, by decide +kernel, by decide +kernel, by decide +kernel, by decide +kernel, by decide +kernel⟩
set_option maxRecDepth 100000 in
theorem ok_X12 : mj_okC ic_Ns vwCl ic_ty ic_all im_all ic_X ic_wi ic_wo ic_wb ic_ws 12 := ⟨by decide +kernel, by decide +kernel, by decide +kernel, by decide +kernel, by decide +kernel, by decide +kernel, by decide +kernel, by decide +kernel, by decide +kernel, by decide +kernel⟩
set_option maxRecDepth 100000 in
theorem ok_J0 : mj_okC ic_Ns vwCl ic_ty ic_all im_all ic_X ic_wi ic_wo ic_wb ic_ws 20 := ⟨by decide +kernel, by decide +kernel, by decide +kernel, by decide +kernel, by decide +kernel, by decide +kernel, by decide +kernel, by decide +kernel, by decide +kernel, by decide +kernel⟩
set_option maxRecDepth 100000 in
theorem ok_J1 : mj_okC ic_Ns vwCl ic_ty ic_all im_all ic_X ic_wi ic_wo ic_wb ic_ws 21 := ⟨by decide +kernel, by decide +kernel, by decide +kernel, by decide +kernel, by decide +kernel, by decide +kernel, by decide +kernel, by decide +kernel, by decide +kernel, by decide +kernel⟩
set_option maxRecDepth 100000 in
theorem ok_J2 : mj_okC ic_Ns vwCl ic_ty ic_all im_all ic_X ic_wi ic_wo ic_wb ic_ws 22 := ⟨by decide +kernel, by decide +kernel, by decide +kernel, by decide +kernel, by decide +kernel, by decide +kernel, by decide +kernel, by decide +kernel, by decide +kernel, by decide +kernel⟩
set_option maxRecDepth 100000 in
theorem ok_J3 : mj_okC ic_Ns vwCl ic_ty ic_all im_all ic_X ic_wi ic_wo ic_wb ic_ws 23 := ⟨by decide +kernel, by decide +kernel, by decide +kernel, by decide +kernel, by decide +kernel, by decide +kernel, by decide +kernel, by decide +kernel, by decide +kernel, by decide +kernel⟩
set_option maxRecDepth 100000 in
theorem ok_J7 : mj_okC ic_Ns vwCl ic_ty ic_all im_all ic_X ic_wi ic_wo ic_wb ic_ws 27 := ⟨by decide +kernel, by decide +kernel, by decide +kernel, by decide +kernel, by decide +kernel, by decide +kernel, by decide +kernel, by decide +kernel, by decide +kernel, by decide +kernel⟩
set_option maxRecDepth 100000 in
theorem ok_J9 : mj_okC ic_Ns vwCl ic_ty ic_all im_all ic_X ic_wi ic_wo ic_wb ic_ws 29 := ⟨by decide +kernel, by decide +kernel, by decide +kernel, by decide +kernel, by decide +kernel, by decide +kernel, by decide +kernel, by decide +kernel, by decide +kernel, by decide +kernel⟩
set_option maxRecDepth 100000 in
theorem ok_J11 : mj_okC ic_Ns vwCl ic_ty ic_all im_all ic_X ic_wi ic_wo ic_wb ic_ws 31 := ⟨by decide +kernel, by decide +kernel, by decide +kernel, by decide +kernel, by decide +kernel, by decide +kernel, by decide +kernel, by decide +kernel, by decide +kernel, by decide +kernel⟩
theorem ok_all (c : Nat) : mj_okC ic_Ns vwCl ic_ty ic_all im_all ic_X ic_wi ic_wo ic_wb ic_ws c := by
  by_cases h0 : c = 0
  · subst h0; exact ok_X0
  by_cases h1 : c = 1
  · subst h1; exact ok_X1
  by_cases h2 : c = 2
  · subst h2; exact ok_X2
  by_cases h3 : c = 3
  · subst h3; exact ok_X3
  by_cases h4 : c = 4
  · subst h4; exact ok_X4
  by_cases h5 : c = 5
  · subst h5; exact ok_X5
  by_cases h6 : c = 6
  · subst h6; exact ok_X6
  by_cases h7 : c = 7
  · subst h7; exact ok_X7
  by_cases h8 : c = 8
  · subst h8; exact ok_X8
  by_cases h9 : c = 9
  · subst h9; exact ok_X9
  by_cases h10 : c = 10
  · subst h10; exact ok_X10
  by_cases h11 : c = 11
  · subst h11; exact ok_X11
  by_cases h12 : c = 12
  · subst h12; exact ok_X12
  by_cases h20 : c = 20
  · subst h20; exact ok_J0
  by_cases h21 : c = 21
  · subst h21; exact ok_J1
  by_cases h22 : c = 22
  · subst h22; exact ok_J2
  by_cases h23 : c = 23
  · subst h23; exact ok_J3
  by_cases h27 : c = 27
  · subst h27; exact ok_J7
  by_cases h29 : c = 29
  · subst h29; exact ok_J9
  by_cases h31 : c = 31
  · subst h31; exact ok_J11
  have e1 : ic_all c = ("", [], [], [], [], [], [], [], [], []) := by unfold ic_all; split <;> first | rfl | contradiction
  have e2 : im_all c = [] := by unfold im_all; split <;> first | rfl | contradiction
  unfold mj_okC
  rw [e1, e2]
  exact ⟨rfl, rfl, rfl, rfl, rfl, rfl, rfl, rfl, rfl, rfl⟩

/-! PROGRAM: its methods are checked -/
set_option maxRecDepth 100000 in
theorem om_J0_length_8abf5 : mj_chM vwCl RJ0 ie_J0_length_8abf5 = true := by decide +kernel
set_option maxRecDepth 100000 in
theorem ow_J0_length_8abf5 : mj_cw ie_J0_length_8abf5 := rfl
set_option maxRecDepth 100000 in
theorem om_J0_charAt_5068e : mj_chM vwCl RJ0 ie_J0_charAt_5068e = true := by decide +kernel
set_option maxRecDepth 100000 in
theorem ow_J0_charAt_5068e : mj_cw ie_J0_charAt_5068e := rfl
set_option maxRecDepth 100000 in
theorem om_J0_indexOf_0f7a4 : mj_chM vwCl RJ0 ie_J0_indexOf_0f7a4 = true := by decide +kernel
set_option maxRecDepth 100000 in
theorem ow_J0_indexOf_0f7a4 : mj_cw ie_J0_indexOf_0f7a4 := rfl
set_option maxRecDepth 100000 in
theorem om_J0_indexOf_7cf53 : mj_chM vwCl RJ0 ie_J0_indexOf_7cf53 = true := by decide +kernel
set_option maxRecDepth 100000 in
theorem ow_J0_indexOf_7cf53 : mj_cw ie_J0_indexOf_7cf53 := rfl
set_option maxRecDepth 100000 in
theorem om_J0_coder_7d493 : mj_chM vwCl RJ0 ie_J0_coder_7d493 = true := by decide +kernel
set_option maxRecDepth 100000 in
theorem ow_J0_coder_7d493 : mj_cw ie_J0_coder_7d493 := rfl
set_option maxRecDepth 100000 in
theorem om_J0_isLatin1_aae02 : mj_chM vwCl RJ0 ie_J0_isLatin1_aae02 = true := by decide +kernel
set_option maxRecDepth 100000 in
theorem ow_J0_isLatin1_aae02 : mj_cw ie_J0_isLatin1_aae02 := rfl
set_option maxRecDepth 100000 in
theorem om_J0_checkIndex_df160 : mj_chM vwCl RJ0 ie_J0_checkIndex_df160 = true := by decide +kernel
set_option maxRecDepth 100000 in
theorem ow_J0_checkIndex_df160 : mj_cw ie_J0_checkIndex_df160 := rfl
set_option maxRecDepth 100000 in
theorem om_J0_checkBoundsBeginEnd_23922 : mj_chM vwCl RJ0 ie_J0_checkBoundsBeginEnd_23922 = true := by decide +kernel
set_option maxRecDepth 100000 in
theorem ow_J0_checkBoundsBeginEnd_23922 : mj_cw ie_J0_checkBoundsBeginEnd_23922 := rfl
set_option maxRecDepth 100000 in
theorem om_J1_charAt_3b067 : mj_chM vwCl RJ1 ie_J1_charAt_3b067 = true := by decide +kernel
set_option maxRecDepth 100000 in
theorem ow_J1_charAt_3b067 : mj_cw ie_J1_charAt_3b067 := rfl
set_option maxRecDepth 100000 in
theorem om_J1_canEncode_9a6ad : mj_chM vwCl RJ1 ie_J1_canEncode_9a6ad = true := by decide +kernel
set_option maxRecDepth 100000 in
theorem ow_J1_canEncode_9a6ad : mj_cw ie_J1_canEncode_9a6ad := rfl
set_option maxRecDepth 100000 in
theorem om_J1_indexOf_4cfef : mj_chM vwCl RJ1 ie_J1_indexOf_4cfef = true := by decide +kernel
set_option maxRecDepth 100000 in
theorem ow_J1_indexOf_4cfef : mj_cw ie_J1_indexOf_4cfef := rfl
set_option maxRecDepth 100000 in
theorem om_J1_indexOfChar_4cfef : mj_chM vwCl RJ1 ie_J1_indexOfChar_4cfef = true := by decide +kernel
set_option maxRecDepth 100000 in
theorem ow_J1_indexOfChar_4cfef : mj_cw ie_J1_indexOfChar_4cfef := rfl
set_option maxRecDepth 100000 in
theorem om_J2_getChar_3b067 : mj_chM vwCl RJ2 ie_J2_getChar_3b067 = true := by decide +kernel
set_option maxRecDepth 100000 in
theorem ow_J2_getChar_3b067 : mj_cw ie_J2_getChar_3b067 := rfl
set_option maxRecDepth 100000 in
theorem om_J2_length_9d52b : mj_chM vwCl RJ2 ie_J2_length_9d52b = true := by decide +kernel
set_option maxRecDepth 100000 in
theorem ow_J2_length_9d52b : mj_cw ie_J2_length_9d52b := rfl
set_option maxRecDepth 100000 in
theorem om_J2_indexOf_4cfef : mj_chM vwCl RJ2 ie_J2_indexOf_4cfef = true := by decide +kernel
set_option maxRecDepth 100000 in
theorem ow_J2_indexOf_4cfef : mj_cw ie_J2_indexOf_4cfef := rfl
set_option maxRecDepth 100000 in
theorem om_J2_indexOfChar_4cfef : mj_chM vwCl RJ2 ie_J2_indexOfChar_4cfef = true := by decide +kernel
set_option maxRecDepth 100000 in
theorem ow_J2_indexOfChar_4cfef : mj_cw ie_J2_indexOfChar_4cfef := rfl
set_option maxRecDepth 100000 in
theorem om_J2_indexOfCharUnsafe_4cfef : mj_chM vwCl RJ2 ie_J2_indexOfCharUnsafe_4cfef = true := by decide +kernel
set_option maxRecDepth 100000 in
theorem ow_J2_indexOfCharUnsafe_4cfef : mj_cw ie_J2_indexOfCharUnsafe_4cfef := rfl
set_option maxRecDepth 100000 in
theorem om_J2_indexOfSupplementary_4cfef : mj_chM vwCl RJ2 ie_J2_indexOfSupplementary_4cfef = true := by decide +kernel
set_option maxRecDepth 100000 in
theorem ow_J2_indexOfSupplementary_4cfef : mj_cw ie_J2_indexOfSupplementary_4cfef := rfl
set_option maxRecDepth 100000 in
theorem om_J2_charAt_3b067 : mj_chM vwCl RJ2 ie_J2_charAt_3b067 = true := by decide +kernel
set_option maxRecDepth 100000 in
theorem ow_J2_charAt_3b067 : mj_cw ie_J2_charAt_3b067 := rfl
set_option maxRecDepth 100000 in
theorem om_J2_checkIndex_2214a : mj_chM vwCl RJ2 ie_J2_checkIndex_2214a = true := by decide +kernel
set_option maxRecDepth 100000 in
theorem ow_J2_checkIndex_2214a : mj_cw ie_J2_checkIndex_2214a := rfl
set_option maxRecDepth 100000 in
theorem om_J2_checkBoundsBeginEnd_d044e : mj_chM vwCl RJ2 ie_J2_checkBoundsBeginEnd_d044e = true := by decide +kernel
set_option maxRecDepth 100000 in
theorem ow_J2_checkBoundsBeginEnd_d044e : mj_cw ie_J2_checkBoundsBeginEnd_d044e := rfl
set_option maxRecDepth 100000 in
theorem om_J3_checkIndex_8e157 : mj_chM vwCl RJ3 ie_J3_checkIndex_8e157 = true := by decide +kernel
set_option maxRecDepth 100000 in
theorem ow_J3_checkIndex_8e157 : mj_cw ie_J3_checkIndex_8e157 := rfl
set_option maxRecDepth 100000 in
theorem om_J3_checkFromToIndex_8c36e : mj_chM vwCl RJ3 ie_J3_checkFromToIndex_8c36e = true := by decide +kernel
set_option maxRecDepth 100000 in
theorem ow_J3_checkFromToIndex_8c36e : mj_cw ie_J3_checkFromToIndex_8c36e := rfl
set_option maxRecDepth 100000 in
theorem om_J7_fill_53178 : mj_chM vwCl RJ7 ie_J7_fill_53178 = true := by decide +kernel
set_option maxRecDepth 100000 in
theorem ow_J7_fill_53178 : mj_cw ie_J7_fill_53178 := rfl
set_option maxRecDepth 100000 in
theorem om_J9_floorDiv_7cf53 : mj_chM vwCl RJ9 ie_J9_floorDiv_7cf53 = true := by decide +kernel
set_option maxRecDepth 100000 in
theorem ow_J9_floorDiv_7cf53 : mj_cw ie_J9_floorDiv_7cf53 := rfl
set_option maxRecDepth 100000 in
theorem om_J9_floorDiv_f86c9 : mj_chM vwCl RJ9 ie_J9_floorDiv_f86c9 = true := by decide +kernel
set_option maxRecDepth 100000 in
theorem ow_J9_floorDiv_f86c9 : mj_cw ie_J9_floorDiv_f86c9 := rfl
set_option maxRecDepth 100000 in
theorem om_J9_floorMod_7cf53 : mj_chM vwCl RJ9 ie_J9_floorMod_7cf53 = true := by decide +kernel
set_option maxRecDepth 100000 in
theorem ow_J9_floorMod_7cf53 : mj_cw ie_J9_floorMod_7cf53 := rfl
set_option maxRecDepth 100000 in
theorem om_J9_abs_0f7a4 : mj_chM vwCl RJ9 ie_J9_abs_0f7a4 = true := by decide +kernel
set_option maxRecDepth 100000 in
theorem ow_J9_abs_0f7a4 : mj_cw ie_J9_abs_0f7a4 := rfl
set_option maxRecDepth 100000 in
theorem om_J9_max_7cf53 : mj_chM vwCl RJ9 ie_J9_max_7cf53 = true := by decide +kernel
set_option maxRecDepth 100000 in
theorem ow_J9_max_7cf53 : mj_cw ie_J9_max_7cf53 := rfl
set_option maxRecDepth 100000 in
theorem om_J9_max_f86c9 : mj_chM vwCl RJ9 ie_J9_max_f86c9 = true := by decide +kernel
set_option maxRecDepth 100000 in
theorem ow_J9_max_f86c9 : mj_cw ie_J9_max_f86c9 := rfl
set_option maxRecDepth 100000 in
theorem om_J9_min_7cf53 : mj_chM vwCl RJ9 ie_J9_min_7cf53 = true := by decide +kernel
set_option maxRecDepth 100000 in
theorem ow_J9_min_7cf53 : mj_cw ie_J9_min_7cf53 := rfl
set_option maxRecDepth 100000 in
theorem om_J9_min_f86c9 : mj_chM vwCl RJ9 ie_J9_min_f86c9 = true := by decide +kernel
set_option maxRecDepth 100000 in
theorem ow_J9_min_f86c9 : mj_cw ie_J9_min_f86c9 := rfl
set_option maxRecDepth 100000 in
theorem om_J11_isValidCodePoint_9a6ad : mj_chM vwCl RJ11 ie_J11_isValidCodePoint_9a6ad = true := by decide +kernel
set_option maxRecDepth 100000 in
theorem ow_J11_isValidCodePoint_9a6ad : mj_cw ie_J11_isValidCodePoint_9a6ad := rfl
set_option maxRecDepth 100000 in
theorem om_J11_highSurrogate_5068e : mj_chM vwCl RJ11 ie_J11_highSurrogate_5068e = true := by decide +kernel
set_option maxRecDepth 100000 in
theorem ow_J11_highSurrogate_5068e : mj_cw ie_J11_highSurrogate_5068e := rfl
set_option maxRecDepth 100000 in
theorem om_J11_lowSurrogate_5068e : mj_chM vwCl RJ11 ie_J11_lowSurrogate_5068e = true := by decide +kernel
set_option maxRecDepth 100000 in
theorem ow_J11_lowSurrogate_5068e : mj_cw ie_J11_lowSurrogate_5068e := rfl

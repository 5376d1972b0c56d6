/-! PROGRAM: its methods are checked -/
set_option maxRecDepth 100000 in
theorem om_X12_happen : mj_chM vwCl RX12 ie_X12_happen = true := by decide +kernel
set_option maxRecDepth 100000 in
theorem ow_X12_happen : mj_cw ie_X12_happen := rfl
set_option maxRecDepth 100000 in
theorem om_X12_allOff : mj_chM vwCl RX12 ie_X12_allOff = true := by decide +kernel
set_option maxRecDepth 100000 in
theorem ow_X12_allOff : mj_cw ie_X12_allOff := rfl
set_option maxRecDepth 100000 in
theorem om_X12_lineValue : mj_chM vwCl RX12 ie_X12_lineValue = true := by decide +kernel
set_option maxRecDepth 100000 in
theorem ow_X12_lineValue : mj_cw ie_X12_lineValue := rfl
set_option maxRecDepth 100000 in
theorem om_X12_greatestBelow : mj_chM vwCl RX12 ie_X12_greatestBelow = true := by decide +kernel
set_option maxRecDepth 100000 in
theorem ow_X12_greatestBelow : mj_cw ie_X12_greatestBelow := rfl
set_option maxRecDepth 100000 in
theorem om_X12_mapValue : mj_chM vwCl RX12 ie_X12_mapValue = true := by decide +kernel
set_option maxRecDepth 100000 in
theorem ow_X12_mapValue : mj_cw ie_X12_mapValue := rfl
set_option maxRecDepth 100000 in
theorem om_X12_speed : mj_chM vwCl RX12 ie_X12_speed = true := by decide +kernel
set_option maxRecDepth 100000 in
theorem ow_X12_speed : mj_cw ie_X12_speed := rfl
set_option maxRecDepth 100000 in
theorem om_X12_cellNow : mj_chM vwCl RX12 ie_X12_cellNow = true := by decide +kernel
set_option maxRecDepth 100000 in
theorem ow_X12_cellNow : mj_cw ie_X12_cellNow := rfl
set_option maxRecDepth 100000 in
theorem om_X12_angleNow : mj_chM vwCl RX12 ie_X12_angleNow = true := by decide +kernel
set_option maxRecDepth 100000 in
theorem ow_X12_angleNow : mj_cw ie_X12_angleNow := rfl
set_option maxRecDepth 100000 in
theorem om_X12_comesAt : mj_chM vwCl RX12 ie_X12_comesAt = true := by decide +kernel
set_option maxRecDepth 100000 in
theorem ow_X12_comesAt : mj_cw ie_X12_comesAt := rfl
set_option maxRecDepth 100000 in
theorem om_X12_crank : mj_chM vwCl RX12 ie_X12_crank = true := by decide +kernel
set_option maxRecDepth 100000 in
theorem ow_X12_crank : mj_cw ie_X12_crank := rfl
set_option maxRecDepth 100000 in
theorem om_X12_camEdge : mj_chM vwCl RX12 ie_X12_camEdge = true := by decide +kernel
set_option maxRecDepth 100000 in
theorem ow_X12_camEdge : mj_cw ie_X12_camEdge := rfl
set_option maxRecDepth 100000 in
theorem om_X12_topOf : mj_chM vwCl RX12 ie_X12_topOf = true := by decide +kernel
set_option maxRecDepth 100000 in
theorem ow_X12_topOf : mj_cw ie_X12_topOf := rfl
set_option maxRecDepth 100000 in
theorem om_X12_standsFor : mj_chM vwCl RX12 ie_X12_standsFor = true := by decide +kernel
set_option maxRecDepth 100000 in
theorem ow_X12_standsFor : mj_cw ie_X12_standsFor := rfl
set_option maxRecDepth 100000 in
theorem om_X12_plan : mj_chM vwCl RX12 ie_X12_plan = true := by decide +kernel
set_option maxRecDepth 100000 in
theorem ow_X12_plan : mj_cw ie_X12_plan := rfl
set_option maxRecDepth 100000 in
theorem om_X12_segment : mj_chM vwCl RX12 ie_X12_segment = true := by decide +kernel
set_option maxRecDepth 100000 in
theorem ow_X12_segment : mj_cw ie_X12_segment := rfl
set_option maxRecDepth 100000 in
theorem om_X12_fuelNow : mj_chM vwCl RX12 ie_X12_fuelNow = true := by decide +kernel
set_option maxRecDepth 100000 in
theorem ow_X12_fuelNow : mj_cw ie_X12_fuelNow := rfl
set_option maxRecDepth 100000 in
theorem om_X12_planOne : mj_chM vwCl RX12 ie_X12_planOne = true := by decide +kernel
set_option maxRecDepth 100000 in
theorem ow_X12_planOne : mj_cw ie_X12_planOne := rfl
set_option maxRecDepth 100000 in
theorem om_X12_toward : mj_chM vwCl RX12 ie_X12_toward = true := by decide +kernel
set_option maxRecDepth 100000 in
theorem ow_X12_toward : mj_cw ie_X12_toward := rfl
set_option maxRecDepth 100000 in
theorem om_X12_modelPins : mj_chM vwCl RX12 ie_X12_modelPins = true := by decide +kernel
set_option maxRecDepth 100000 in
theorem ow_X12_modelPins : mj_cw ie_X12_modelPins := rfl
set_option maxRecDepth 100000 in
theorem om_X12_readPins : mj_chM vwCl RX12 ie_X12_readPins = true := by decide +kernel
set_option maxRecDepth 100000 in
theorem ow_X12_readPins : mj_cw ie_X12_readPins := rfl
set_option maxRecDepth 100000 in
theorem om_X12_apart : mj_chM vwCl RX12 ie_X12_apart = true := by decide +kernel
set_option maxRecDepth 100000 in
theorem ow_X12_apart : mj_cw ie_X12_apart := rfl
set_option maxRecDepth 100000 in
theorem om_X12_readPedal : mj_chM vwCl RX12 ie_X12_readPedal = true := by decide +kernel
set_option maxRecDepth 100000 in
theorem ow_X12_readPedal : mj_cw ie_X12_readPedal := rfl
set_option maxRecDepth 100000 in
theorem om_X12_drive : mj_chM vwCl RX12 ie_X12_drive = true := by decide +kernel
set_option maxRecDepth 100000 in
theorem ow_X12_drive : mj_cw ie_X12_drive := rfl
set_option maxRecDepth 100000 in
theorem om_X12_lookAgain : mj_chM vwCl RX12 ie_X12_lookAgain = true := by decide +kernel
set_option maxRecDepth 100000 in
theorem ow_X12_lookAgain : mj_cw ie_X12_lookAgain := rfl
set_option maxRecDepth 100000 in
theorem om_X12_watchNow : mj_chM vwCl RX12 ie_X12_watchNow = true := by decide +kernel
set_option maxRecDepth 100000 in
theorem ow_X12_watchNow : mj_cw ie_X12_watchNow := rfl
set_option maxRecDepth 100000 in
theorem om_X12_warmth : mj_chM vwCl RX12 ie_X12_warmth = true := by decide +kernel
set_option maxRecDepth 100000 in
theorem ow_X12_warmth : mj_cw ie_X12_warmth := rfl
set_option maxRecDepth 100000 in
theorem om_X12_mixture : mj_chM vwCl RX12 ie_X12_mixture = true := by decide +kernel
set_option maxRecDepth 100000 in
theorem ow_X12_mixture : mj_cw ie_X12_mixture := rfl
set_option maxRecDepth 100000 in
theorem om_X12_tests : mj_chM vwCl RX12 ie_X12_tests = true := by decide +kernel
set_option maxRecDepth 100000 in
theorem ow_X12_tests : mj_cw ie_X12_tests := rfl
set_option maxRecDepth 100000 in
theorem om_X12_loop : mj_chM vwCl RX12 ie_X12_loop = true := by decide +kernel
set_option maxRecDepth 100000 in
theorem ow_X12_loop : mj_cw ie_X12_loop := rfl
set_option maxRecDepth 100000 in
theorem om_X12_test : mj_chM vwCl RX12 ie_X12_test = true := by decide +kernel
set_option maxRecDepth 100000 in
theorem ow_X12_test : mj_cw ie_X12_test := rfl
set_option maxRecDepth 100000 in
theorem om_X12_freeze : mj_chM vwCl RX12 ie_X12_freeze = true := by decide +kernel
set_option maxRecDepth 100000 in
theorem ow_X12_freeze : mj_cw ie_X12_freeze := rfl
set_option maxRecDepth 100000 in
theorem om_X12_lamp : mj_chM vwCl RX12 ie_X12_lamp = true := by decide +kernel
set_option maxRecDepth 100000 in
theorem ow_X12_lamp : mj_cw ie_X12_lamp := rfl
set_option maxRecDepth 100000 in
theorem om_X12_heard : mj_chM vwCl RX12 ie_X12_heard = true := by decide +kernel
set_option maxRecDepth 100000 in
theorem ow_X12_heard : mj_cw ie_X12_heard := rfl
set_option maxRecDepth 100000 in
theorem om_X12_say : mj_chM vwCl RX12 ie_X12_say = true := by decide +kernel
set_option maxRecDepth 100000 in
theorem ow_X12_say : mj_cw ie_X12_say := rfl
set_option maxRecDepth 100000 in
theorem om_X12_two : mj_chM vwCl RX12 ie_X12_two = true := by decide +kernel
set_option maxRecDepth 100000 in
theorem ow_X12_two : mj_cw ie_X12_two := rfl
set_option maxRecDepth 100000 in
theorem om_X12_byteOr : mj_chM vwCl RX12 ie_X12_byteOr = true := by decide +kernel
set_option maxRecDepth 100000 in
theorem ow_X12_byteOr : mj_cw ie_X12_byteOr := rfl
set_option maxRecDepth 100000 in
theorem om_X12_wordOr : mj_chM vwCl RX12 ie_X12_wordOr = true := by decide +kernel
set_option maxRecDepth 100000 in
theorem ow_X12_wordOr : mj_cw ie_X12_wordOr := rfl
set_option maxRecDepth 100000 in
theorem om_X12_refuse : mj_chM vwCl RX12 ie_X12_refuse = true := by decide +kernel
set_option maxRecDepth 100000 in
theorem ow_X12_refuse : mj_cw ie_X12_refuse := rfl
set_option maxRecDepth 100000 in
theorem om_X12_send : mj_chM vwCl RX12 ie_X12_send = true := by decide +kernel
set_option maxRecDepth 100000 in
theorem ow_X12_send : mj_cw ie_X12_send := rfl
set_option maxRecDepth 100000 in
theorem om_X12_handle : mj_chM vwCl RX12 ie_X12_handle = true := by decide +kernel
set_option maxRecDepth 100000 in
theorem ow_X12_handle : mj_cw ie_X12_handle := rfl
set_option maxRecDepth 100000 in
theorem om_X12_plain : mj_chM vwCl RX12 ie_X12_plain = true := by decide +kernel
set_option maxRecDepth 100000 in
theorem ow_X12_plain : mj_cw ie_X12_plain := rfl
set_option maxRecDepth 100000 in
theorem om_X12_codeOf : mj_chM vwCl RX12 ie_X12_codeOf = true := by decide +kernel
set_option maxRecDepth 100000 in
theorem ow_X12_codeOf : mj_cw ie_X12_codeOf := rfl
set_option maxRecDepth 100000 in
theorem om_X12_wipe : mj_chM vwCl RX12 ie_X12_wipe = true := by decide +kernel
set_option maxRecDepth 100000 in
theorem ow_X12_wipe : mj_cw ie_X12_wipe := rfl
set_option maxRecDepth 100000 in
theorem om_X12_isPid : mj_chM vwCl RX12 ie_X12_isPid = true := by decide +kernel
set_option maxRecDepth 100000 in
theorem ow_X12_isPid : mj_cw ie_X12_isPid := rfl
set_option maxRecDepth 100000 in
theorem om_X12_live : mj_chM vwCl RX12 ie_X12_live = true := by decide +kernel
set_option maxRecDepth 100000 in
theorem ow_X12_live : mj_cw ie_X12_live := rfl
set_option maxRecDepth 100000 in
theorem om_X12_told : mj_chM vwCl RX12 ie_X12_told = true := by decide +kernel
set_option maxRecDepth 100000 in
theorem ow_X12_told : mj_cw ie_X12_told := rfl
set_option maxRecDepth 100000 in
theorem om_X12_frozen : mj_chM vwCl RX12 ie_X12_frozen = true := by decide +kernel
set_option maxRecDepth 100000 in
theorem ow_X12_frozen : mj_cw ie_X12_frozen := rfl
set_option maxRecDepth 100000 in
theorem om_X12_named : mj_chM vwCl RX12 ie_X12_named = true := by decide +kernel
set_option maxRecDepth 100000 in
theorem ow_X12_named : mj_cw ie_X12_named := rfl
set_option maxRecDepth 100000 in
theorem om_X12_unlock : mj_chM vwCl RX12 ie_X12_unlock = true := by decide +kernel
set_option maxRecDepth 100000 in
theorem ow_X12_unlock : mj_cw ie_X12_unlock := rfl
set_option maxRecDepth 100000 in
theorem om_X12_change : mj_chM vwCl RX12 ie_X12_change = true := by decide +kernel
set_option maxRecDepth 100000 in
theorem ow_X12_change : mj_cw ie_X12_change := rfl
set_option maxRecDepth 100000 in
theorem om_X12_step : mj_chM vwCl RX12 ie_X12_step = true := by decide +kernel
set_option maxRecDepth 100000 in
theorem ow_X12_step : mj_cw ie_X12_step := rfl
set_option maxRecDepth 100000 in
theorem om_X12_burn : mj_chM vwCl RX12 ie_X12_burn = true := by decide +kernel
set_option maxRecDepth 100000 in
theorem ow_X12_burn : mj_cw ie_X12_burn := rfl

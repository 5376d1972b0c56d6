/-! PROGRAM: its methods are checked -/
set_option maxRecDepth 100000 in
theorem om_X11_driveThrottle : mj_chM vwCl RX11 ie_X11_driveThrottle = true := by decide +kernel
set_option maxRecDepth 100000 in
theorem ow_X11_driveThrottle : mj_cw ie_X11_driveThrottle := rfl
set_option maxRecDepth 100000 in
theorem om_X11_trimMixture : mj_chM vwCl RX11 ie_X11_trimMixture = true := by decide +kernel
set_option maxRecDepth 100000 in
theorem ow_X11_trimMixture : mj_cw ie_X11_trimMixture := rfl
set_option maxRecDepth 100000 in
theorem om_X11_setRuleInputs : mj_chM vwCl RX11 ie_X11_setRuleInputs = true := by decide +kernel
set_option maxRecDepth 100000 in
theorem ow_X11_setRuleInputs : mj_cw ie_X11_setRuleInputs := rfl
set_option maxRecDepth 100000 in
theorem om_X11_recordRow : mj_chM vwCl RX11 ie_X11_recordRow = true := by decide +kernel
set_option maxRecDepth 100000 in
theorem ow_X11_recordRow : mj_cw ie_X11_recordRow := rfl
set_option maxRecDepth 100000 in
theorem om_X11_testChannels : mj_chM vwCl RX11 ie_X11_testChannels = true := by decide +kernel
set_option maxRecDepth 100000 in
theorem ow_X11_testChannels : mj_cw ie_X11_testChannels := rfl
set_option maxRecDepth 100000 in
theorem om_X11_testRest : mj_chM vwCl RX11 ie_X11_testRest = true := by decide +kernel
set_option maxRecDepth 100000 in
theorem ow_X11_testRest : mj_cw ie_X11_testRest := rfl
set_option maxRecDepth 100000 in
theorem om_X11_judge : mj_chM vwCl RX11 ie_X11_judge = true := by decide +kernel
set_option maxRecDepth 100000 in
theorem ow_X11_judge : mj_cw ie_X11_judge := rfl
set_option maxRecDepth 100000 in
theorem om_X11_fillView : mj_chM vwCl RX11 ie_X11_fillView = true := by decide +kernel
set_option maxRecDepth 100000 in
theorem ow_X11_fillView : mj_cw ie_X11_fillView := rfl
set_option maxRecDepth 100000 in
theorem om_X11_isLampOn : mj_chM vwCl RX11 ie_X11_isLampOn = true := by decide +kernel
set_option maxRecDepth 100000 in
theorem ow_X11_isLampOn : mj_cw ie_X11_isLampOn := rfl
set_option maxRecDepth 100000 in
theorem om_X11_writeStore : mj_chM vwCl RX11 ie_X11_writeStore = true := by decide +kernel
set_option maxRecDepth 100000 in
theorem ow_X11_writeStore : mj_cw ie_X11_writeStore := rfl
set_option maxRecDepth 100000 in
theorem om_X11_writeBook : mj_chM vwCl RX11 ie_X11_writeBook = true := by decide +kernel
set_option maxRecDepth 100000 in
theorem ow_X11_writeBook : mj_cw ie_X11_writeBook := rfl
set_option maxRecDepth 100000 in
theorem om_X11_useBus : mj_chM vwCl RX11 ie_X11_useBus = true := by decide +kernel
set_option maxRecDepth 100000 in
theorem ow_X11_useBus : mj_cw ie_X11_useBus := rfl
set_option maxRecDepth 100000 in
theorem om_X11_sendMotion : mj_chM vwCl RX11 ie_X11_sendMotion = true := by decide +kernel
set_option maxRecDepth 100000 in
theorem ow_X11_sendMotion : mj_cw ie_X11_sendMotion := rfl
set_option maxRecDepth 100000 in
theorem om_X11_sendState : mj_chM vwCl RX11 ie_X11_sendState = true := by decide +kernel
set_option maxRecDepth 100000 in
theorem ow_X11_sendState : mj_cw ie_X11_sendState := rfl
set_option maxRecDepth 100000 in
theorem om_X11_listen : mj_chM vwCl RX11 ie_X11_listen = true := by decide +kernel
set_option maxRecDepth 100000 in
theorem ow_X11_listen : mj_cw ie_X11_listen := rfl
set_option maxRecDepth 100000 in
theorem om_X11_serve : mj_chM vwCl RX11 ie_X11_serve = true := by decide +kernel
set_option maxRecDepth 100000 in
theorem ow_X11_serve : mj_cw ie_X11_serve := rfl
set_option maxRecDepth 100000 in
theorem om_X11_servePid : mj_chM vwCl RX11 ie_X11_servePid = true := by decide +kernel
set_option maxRecDepth 100000 in
theorem ow_X11_servePid : mj_cw ie_X11_servePid := rfl
set_option maxRecDepth 100000 in
theorem om_X11_mixtureState : mj_chM vwCl RX11 ie_X11_mixtureState = true := by decide +kernel
set_option maxRecDepth 100000 in
theorem ow_X11_mixtureState : mj_cw ie_X11_mixtureState := rfl
set_option maxRecDepth 100000 in
theorem om_X11_serveFrame : mj_chM vwCl RX11 ie_X11_serveFrame = true := by decide +kernel
set_option maxRecDepth 100000 in
theorem ow_X11_serveFrame : mj_cw ie_X11_serveFrame := rfl
set_option maxRecDepth 100000 in
theorem om_X11_serveCodes : mj_chM vwCl RX11 ie_X11_serveCodes = true := by decide +kernel
set_option maxRecDepth 100000 in
theorem ow_X11_serveCodes : mj_cw ie_X11_serveCodes := rfl
set_option maxRecDepth 100000 in
theorem om_X11_serveClear : mj_chM vwCl RX11 ie_X11_serveClear = true := by decide +kernel
set_option maxRecDepth 100000 in
theorem ow_X11_serveClear : mj_cw ie_X11_serveClear := rfl
set_option maxRecDepth 100000 in
theorem om_X11_serveType : mj_chM vwCl RX11 ie_X11_serveType = true := by decide +kernel
set_option maxRecDepth 100000 in
theorem ow_X11_serveType : mj_cw ie_X11_serveType := rfl
set_option maxRecDepth 100000 in
theorem om_X11_serveNumber : mj_chM vwCl RX11 ie_X11_serveNumber = true := by decide +kernel
set_option maxRecDepth 100000 in
theorem ow_X11_serveNumber : mj_cw ie_X11_serveNumber := rfl
set_option maxRecDepth 100000 in
theorem om_X11_serveCalibration : mj_chM vwCl RX11 ie_X11_serveCalibration = true := by decide +kernel
set_option maxRecDepth 100000 in
theorem ow_X11_serveCalibration : mj_cw ie_X11_serveCalibration := rfl
set_option maxRecDepth 100000 in
theorem om_X11_serveLoading : mj_chM vwCl RX11 ie_X11_serveLoading = true := by decide +kernel
set_option maxRecDepth 100000 in
theorem ow_X11_serveLoading : mj_cw ie_X11_serveLoading := rfl
set_option maxRecDepth 100000 in
theorem om_X11_serveBook : mj_chM vwCl RX11 ie_X11_serveBook = true := by decide +kernel
set_option maxRecDepth 100000 in
theorem ow_X11_serveBook : mj_cw ie_X11_serveBook := rfl
set_option maxRecDepth 100000 in
theorem om_X11_pushWheel : mj_chM vwCl RX11 ie_X11_pushWheel = true := by decide +kernel
set_option maxRecDepth 100000 in
theorem ow_X11_pushWheel : mj_cw ie_X11_pushWheel := rfl
set_option maxRecDepth 100000 in
theorem om_X11_tell : mj_chM vwCl RX11 ie_X11_tell = true := by decide +kernel
set_option maxRecDepth 100000 in
theorem ow_X11_tell : mj_cw ie_X11_tell := rfl
set_option maxRecDepth 100000 in
theorem om_X11_tellWheel : mj_chM vwCl RX11 ie_X11_tellWheel = true := by decide +kernel
set_option maxRecDepth 100000 in
theorem ow_X11_tellWheel : mj_cw ie_X11_tellWheel := rfl
set_option maxRecDepth 100000 in
theorem om_X11_tellLoop : mj_chM vwCl RX11 ie_X11_tellLoop = true := by decide +kernel
set_option maxRecDepth 100000 in
theorem ow_X11_tellLoop : mj_cw ie_X11_tellLoop := rfl
set_option maxRecDepth 100000 in
theorem om_X11_tellKept : mj_chM vwCl RX11 ie_X11_tellKept = true := by decide +kernel
set_option maxRecDepth 100000 in
theorem ow_X11_tellKept : mj_cw ie_X11_tellKept := rfl
set_option maxRecDepth 100000 in
theorem om_X11_tellCar : mj_chM vwCl RX11 ie_X11_tellCar = true := by decide +kernel
set_option maxRecDepth 100000 in
theorem ow_X11_tellCar : mj_cw ie_X11_tellCar := rfl
set_option maxRecDepth 100000 in
theorem om_X11_tellBench : mj_chM vwCl RX11 ie_X11_tellBench = true := by decide +kernel
set_option maxRecDepth 100000 in
theorem ow_X11_tellBench : mj_cw ie_X11_tellBench := rfl
set_option maxRecDepth 100000 in
theorem om_X12_init : mj_chM vwCl RX12 ie_X12_init = true := by decide +kernel
set_option maxRecDepth 100000 in
theorem ow_X12_init : mj_cw ie_X12_init := rfl
set_option maxRecDepth 100000 in
theorem om_X12_three : mj_chM vwCl RX12 ie_X12_three = true := by decide +kernel
set_option maxRecDepth 100000 in
theorem ow_X12_three : mj_cw ie_X12_three := rfl
set_option maxRecDepth 100000 in
theorem om_X12_axisOf : mj_chM vwCl RX12 ie_X12_axisOf = true := by decide +kernel
set_option maxRecDepth 100000 in
theorem ow_X12_axisOf : mj_cw ie_X12_axisOf := rfl
set_option maxRecDepth 100000 in
theorem om_X12_thrown : mj_chM vwCl RX12 ie_X12_thrown = true := by decide +kernel
set_option maxRecDepth 100000 in
theorem ow_X12_thrown : mj_cw ie_X12_thrown := rfl
set_option maxRecDepth 100000 in
theorem om_X12_isIn : mj_chM vwCl RX12 ie_X12_isIn = true := by decide +kernel
set_option maxRecDepth 100000 in
theorem ow_X12_isIn : mj_cw ie_X12_isIn := rfl
set_option maxRecDepth 100000 in
theorem om_X12_cutTo : mj_chM vwCl RX12 ie_X12_cutTo = true := by decide +kernel
set_option maxRecDepth 100000 in
theorem ow_X12_cutTo : mj_cw ie_X12_cutTo := rfl
set_option maxRecDepth 100000 in
theorem om_X12_down : mj_chM vwCl RX12 ie_X12_down = true := by decide +kernel
set_option maxRecDepth 100000 in
theorem ow_X12_down : mj_cw ie_X12_down := rfl
set_option maxRecDepth 100000 in
theorem om_X12_modulo : mj_chM vwCl RX12 ie_X12_modulo = true := by decide +kernel
set_option maxRecDepth 100000 in
theorem ow_X12_modulo : mj_cw ie_X12_modulo := rfl
set_option maxRecDepth 100000 in
theorem om_X12_substitute : mj_chM vwCl RX12 ie_X12_substitute = true := by decide +kernel
set_option maxRecDepth 100000 in
theorem ow_X12_substitute : mj_cw ie_X12_substitute := rfl
set_option maxRecDepth 100000 in
theorem om_X12_forget : mj_chM vwCl RX12 ie_X12_forget = true := by decide +kernel
set_option maxRecDepth 100000 in
theorem ow_X12_forget : mj_cw ie_X12_forget := rfl
set_option maxRecDepth 100000 in
theorem om_X12_forgetRoad : mj_chM vwCl RX12 ie_X12_forgetRoad = true := by decide +kernel
set_option maxRecDepth 100000 in
theorem ow_X12_forgetRoad : mj_cw ie_X12_forgetRoad := rfl
set_option maxRecDepth 100000 in
theorem om_X12_forgetLoop : mj_chM vwCl RX12 ie_X12_forgetLoop = true := by decide +kernel
set_option maxRecDepth 100000 in
theorem ow_X12_forgetLoop : mj_cw ie_X12_forgetLoop := rfl
set_option maxRecDepth 100000 in
theorem om_X12_forgetTrouble : mj_chM vwCl RX12 ie_X12_forgetTrouble = true := by decide +kernel
set_option maxRecDepth 100000 in
theorem ow_X12_forgetTrouble : mj_cw ie_X12_forgetTrouble := rfl
set_option maxRecDepth 100000 in
theorem om_X12_cutNow : mj_chM vwCl RX12 ie_X12_cutNow = true := by decide +kernel
set_option maxRecDepth 100000 in
theorem ow_X12_cutNow : mj_cw ie_X12_cutNow := rfl
set_option maxRecDepth 100000 in
theorem om_X12_key : mj_chM vwCl RX12 ie_X12_key = true := by decide +kernel
set_option maxRecDepth 100000 in
theorem ow_X12_key : mj_cw ie_X12_key := rfl
set_option maxRecDepth 100000 in
theorem om_X12_sumOf : mj_chM vwCl RX12 ie_X12_sumOf = true := by decide +kernel
set_option maxRecDepth 100000 in
theorem ow_X12_sumOf : mj_cw ie_X12_sumOf := rfl
set_option maxRecDepth 100000 in
theorem om_X12_isValid : mj_chM vwCl RX12 ie_X12_isValid = true := by decide +kernel
set_option maxRecDepth 100000 in
theorem ow_X12_isValid : mj_cw ie_X12_isValid := rfl
set_option maxRecDepth 100000 in
theorem om_X12_validCopy : mj_chM vwCl RX12 ie_X12_validCopy = true := by decide +kernel
set_option maxRecDepth 100000 in
theorem ow_X12_validCopy : mj_cw ie_X12_validCopy := rfl
set_option maxRecDepth 100000 in
theorem om_X12_wordOf : mj_chM vwCl RX12 ie_X12_wordOf = true := by decide +kernel
set_option maxRecDepth 100000 in
theorem ow_X12_wordOf : mj_cw ie_X12_wordOf := rfl
set_option maxRecDepth 100000 in
theorem om_X12_lay : mj_chM vwCl RX12 ie_X12_lay = true := by decide +kernel
set_option maxRecDepth 100000 in
theorem ow_X12_lay : mj_cw ie_X12_lay := rfl
set_option maxRecDepth 100000 in
theorem om_X12_counted : mj_chM vwCl RX12 ie_X12_counted = true := by decide +kernel
set_option maxRecDepth 100000 in
theorem ow_X12_counted : mj_cw ie_X12_counted := rfl
set_option maxRecDepth 100000 in
theorem om_X12_writeStore : mj_chM vwCl RX12 ie_X12_writeStore = true := by decide +kernel
set_option maxRecDepth 100000 in
theorem ow_X12_writeStore : mj_cw ie_X12_writeStore := rfl
set_option maxRecDepth 100000 in
theorem om_X12_boot : mj_chM vwCl RX12 ie_X12_boot = true := by decide +kernel
set_option maxRecDepth 100000 in
theorem ow_X12_boot : mj_cw ie_X12_boot := rfl
set_option maxRecDepth 100000 in
theorem om_X12_isCell : mj_chM vwCl RX12 ie_X12_isCell = true := by decide +kernel
set_option maxRecDepth 100000 in
theorem ow_X12_isCell : mj_cw ie_X12_isCell := rfl
set_option maxRecDepth 100000 in
theorem om_X12_isBook : mj_chM vwCl RX12 ie_X12_isBook = true := by decide +kernel
set_option maxRecDepth 100000 in
theorem ow_X12_isBook : mj_cw ie_X12_isBook := rfl
set_option maxRecDepth 100000 in
theorem om_X12_validBook : mj_chM vwCl RX12 ie_X12_validBook = true := by decide +kernel
set_option maxRecDepth 100000 in
theorem ow_X12_validBook : mj_cw ie_X12_validBook := rfl
set_option maxRecDepth 100000 in
theorem om_X12_layPage : mj_chM vwCl RX12 ie_X12_layPage = true := by decide +kernel
set_option maxRecDepth 100000 in
theorem ow_X12_layPage : mj_cw ie_X12_layPage := rfl
set_option maxRecDepth 100000 in
theorem om_X12_writeBook : mj_chM vwCl RX12 ie_X12_writeBook = true := by decide +kernel
set_option maxRecDepth 100000 in
theorem ow_X12_writeBook : mj_cw ie_X12_writeBook := rfl
set_option maxRecDepth 100000 in
theorem om_X12_endCycle : mj_chM vwCl RX12 ie_X12_endCycle = true := by decide +kernel
set_option maxRecDepth 100000 in
theorem ow_X12_endCycle : mj_cw ie_X12_endCycle := rfl
set_option maxRecDepth 100000 in
theorem om_X12_firstEvent : mj_chM vwCl RX12 ie_X12_firstEvent = true := by decide +kernel
set_option maxRecDepth 100000 in
theorem ow_X12_firstEvent : mj_cw ie_X12_firstEvent := rfl
set_option maxRecDepth 100000 in
theorem om_X12_passTo : mj_chM vwCl RX12 ie_X12_passTo = true := by decide +kernel
set_option maxRecDepth 100000 in
theorem ow_X12_passTo : mj_cw ie_X12_passTo := rfl
set_option maxRecDepth 100000 in
theorem om_X12_put : mj_chM vwCl RX12 ie_X12_put = true := by decide +kernel
set_option maxRecDepth 100000 in
theorem ow_X12_put : mj_cw ie_X12_put := rfl
set_option maxRecDepth 100000 in
theorem om_X12_log : mj_chM vwCl RX12 ie_X12_log = true := by decide +kernel
set_option maxRecDepth 100000 in
theorem ow_X12_log : mj_cw ie_X12_log := rfl

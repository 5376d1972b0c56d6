/-! PROGRAM: its methods are checked -/
set_option maxRecDepth 100000 in
theorem om_X8_hasRequest : mj_chM vwCl RX8 ie_X8_hasRequest = true := by decide +kernel
set_option maxRecDepth 100000 in
theorem ow_X8_hasRequest : mj_cw ie_X8_hasRequest := rfl
set_option maxRecDepth 100000 in
theorem om_X8_lengthDue : mj_chM vwCl RX8 ie_X8_lengthDue = true := by decide +kernel
set_option maxRecDepth 100000 in
theorem ow_X8_lengthDue : mj_cw ie_X8_lengthDue := rfl
set_option maxRecDepth 100000 in
theorem om_X8_say : mj_chM vwCl RX8 ie_X8_say = true := by decide +kernel
set_option maxRecDepth 100000 in
theorem ow_X8_say : mj_cw ie_X8_say := rfl
set_option maxRecDepth 100000 in
theorem om_X8_sayTwo : mj_chM vwCl RX8 ie_X8_sayTwo = true := by decide +kernel
set_option maxRecDepth 100000 in
theorem ow_X8_sayTwo : mj_cw ie_X8_sayTwo := rfl
set_option maxRecDepth 100000 in
theorem om_X8_sayFour : mj_chM vwCl RX8 ie_X8_sayFour = true := by decide +kernel
set_option maxRecDepth 100000 in
theorem ow_X8_sayFour : mj_cw ie_X8_sayFour := rfl
set_option maxRecDepth 100000 in
theorem om_X8_sayByte : mj_chM vwCl RX8 ie_X8_sayByte = true := by decide +kernel
set_option maxRecDepth 100000 in
theorem ow_X8_sayByte : mj_cw ie_X8_sayByte := rfl
set_option maxRecDepth 100000 in
theorem om_X8_sayPids : mj_chM vwCl RX8 ie_X8_sayPids = true := by decide +kernel
set_option maxRecDepth 100000 in
theorem ow_X8_sayPids : mj_cw ie_X8_sayPids := rfl
set_option maxRecDepth 100000 in
theorem om_X8_sayName : mj_chM vwCl RX8 ie_X8_sayName = true := by decide +kernel
set_option maxRecDepth 100000 in
theorem ow_X8_sayName : mj_cw ie_X8_sayName := rfl
set_option maxRecDepth 100000 in
theorem om_X8_describe : mj_chM vwCl RX8 ie_X8_describe = true := by decide +kernel
set_option maxRecDepth 100000 in
theorem ow_X8_describe : mj_cw ie_X8_describe := rfl
set_option maxRecDepth 100000 in
theorem om_X8_reply : mj_chM vwCl RX8 ie_X8_reply = true := by decide +kernel
set_option maxRecDepth 100000 in
theorem ow_X8_reply : mj_cw ie_X8_reply := rfl
set_option maxRecDepth 100000 in
theorem om_X8_keepByte : mj_chM vwCl RX8 ie_X8_keepByte = true := by decide +kernel
set_option maxRecDepth 100000 in
theorem ow_X8_keepByte : mj_cw ie_X8_keepByte := rfl
set_option maxRecDepth 100000 in
theorem om_X8_beginSession : mj_chM vwCl RX8 ie_X8_beginSession = true := by decide +kernel
set_option maxRecDepth 100000 in
theorem ow_X8_beginSession : mj_cw ie_X8_beginSession := rfl
set_option maxRecDepth 100000 in
theorem om_X8_leaveSession : mj_chM vwCl RX8 ie_X8_leaveSession = true := by decide +kernel
set_option maxRecDepth 100000 in
theorem ow_X8_leaveSession : mj_cw ie_X8_leaveSession := rfl
set_option maxRecDepth 100000 in
theorem om_X8_serveLock : mj_chM vwCl RX8 ie_X8_serveLock = true := by decide +kernel
set_option maxRecDepth 100000 in
theorem ow_X8_serveLock : mj_cw ie_X8_serveLock := rfl
set_option maxRecDepth 100000 in
theorem om_X8_servePlace : mj_chM vwCl RX8 ie_X8_servePlace = true := by decide +kernel
set_option maxRecDepth 100000 in
theorem ow_X8_servePlace : mj_cw ie_X8_servePlace := rfl
set_option maxRecDepth 100000 in
theorem om_X8_sumIsRight : mj_chM vwCl RX8 ie_X8_sumIsRight = true := by decide +kernel
set_option maxRecDepth 100000 in
theorem ow_X8_sumIsRight : mj_cw ie_X8_sumIsRight := rfl
set_option maxRecDepth 100000 in
theorem om_X9_init : mj_chM vwCl RX9 ie_X9_init = true := by decide +kernel
set_option maxRecDepth 100000 in
theorem ow_X9_init : mj_cw ie_X9_init := rfl
set_option maxRecDepth 100000 in
theorem om_X9_reset : mj_chM vwCl RX9 ie_X9_reset = true := by decide +kernel
set_option maxRecDepth 100000 in
theorem ow_X9_reset : mj_cw ie_X9_reset := rfl
set_option maxRecDepth 100000 in
theorem om_X9_feelBrake : mj_chM vwCl RX9 ie_X9_feelBrake = true := by decide +kernel
set_option maxRecDepth 100000 in
theorem ow_X9_feelBrake : mj_cw ie_X9_feelBrake := rfl
set_option maxRecDepth 100000 in
theorem om_X9_readPedals : mj_chM vwCl RX9 ie_X9_readPedals = true := by decide +kernel
set_option maxRecDepth 100000 in
theorem ow_X9_readPedals : mj_cw ie_X9_readPedals := rfl
set_option maxRecDepth 100000 in
theorem om_X9_readPlates : mj_chM vwCl RX9 ie_X9_readPlates = true := by decide +kernel
set_option maxRecDepth 100000 in
theorem ow_X9_readPlates : mj_cw ie_X9_readPlates := rfl
set_option maxRecDepth 100000 in
theorem om_X9_countApart : mj_chM vwCl RX9 ie_X9_countApart = true := by decide +kernel
set_option maxRecDepth 100000 in
theorem ow_X9_countApart : mj_cw ie_X9_countApart := rfl
set_option maxRecDepth 100000 in
theorem om_X9_enrich : mj_chM vwCl RX9 ie_X9_enrich = true := by decide +kernel
set_option maxRecDepth 100000 in
theorem ow_X9_enrich : mj_cw ie_X9_enrich := rfl
set_option maxRecDepth 100000 in
theorem om_X9_feelButton : mj_chM vwCl RX9 ie_X9_feelButton = true := by decide +kernel
set_option maxRecDepth 100000 in
theorem ow_X9_feelButton : mj_cw ie_X9_feelButton := rfl
set_option maxRecDepth 100000 in
theorem om_X9_hold : mj_chM vwCl RX9 ie_X9_hold = true := by decide +kernel
set_option maxRecDepth 100000 in
theorem ow_X9_hold : mj_cw ie_X9_hold := rfl
set_option maxRecDepth 100000 in
theorem om_X9_holdRoadSpeed : mj_chM vwCl RX9 ie_X9_holdRoadSpeed = true := by decide +kernel
set_option maxRecDepth 100000 in
theorem ow_X9_holdRoadSpeed : mj_cw ie_X9_holdRoadSpeed := rfl
set_option maxRecDepth 100000 in
theorem om_X9_drive : mj_chM vwCl RX9 ie_X9_drive = true := by decide +kernel
set_option maxRecDepth 100000 in
theorem ow_X9_drive : mj_cw ie_X9_drive := rfl
set_option maxRecDepth 100000 in
theorem om_X9_letGo : mj_chM vwCl RX9 ie_X9_letGo = true := by decide +kernel
set_option maxRecDepth 100000 in
theorem ow_X9_letGo : mj_cw ie_X9_letGo := rfl
set_option maxRecDepth 100000 in
theorem om_X10_init : mj_chM vwCl RX10 ie_X10_init = true := by decide +kernel
set_option maxRecDepth 100000 in
theorem ow_X10_init : mj_cw ie_X10_init := rfl
set_option maxRecDepth 100000 in
theorem om_X10_reset : mj_chM vwCl RX10 ie_X10_reset = true := by decide +kernel
set_option maxRecDepth 100000 in
theorem ow_X10_reset : mj_cw ie_X10_reset := rfl
set_option maxRecDepth 100000 in
theorem om_X10_clearMarks : mj_chM vwCl RX10 ie_X10_clearMarks = true := by decide +kernel
set_option maxRecDepth 100000 in
theorem ow_X10_clearMarks : mj_cw ie_X10_clearMarks := rfl
set_option maxRecDepth 100000 in
theorem om_X10_codeOf : mj_chM vwCl RX10 ie_X10_codeOf = true := by decide +kernel
set_option maxRecDepth 100000 in
theorem ow_X10_codeOf : mj_cw ie_X10_codeOf := rfl
set_option maxRecDepth 100000 in
theorem om_X10_countFail : mj_chM vwCl RX10 ie_X10_countFail = true := by decide +kernel
set_option maxRecDepth 100000 in
theorem ow_X10_countFail : mj_cw ie_X10_countFail := rfl
set_option maxRecDepth 100000 in
theorem om_X10_countPass : mj_chM vwCl RX10 ie_X10_countPass = true := by decide +kernel
set_option maxRecDepth 100000 in
theorem ow_X10_countPass : mj_cw ie_X10_countPass := rfl
set_option maxRecDepth 100000 in
theorem om_X10_endCycle : mj_chM vwCl RX10 ie_X10_endCycle = true := by decide +kernel
set_option maxRecDepth 100000 in
theorem ow_X10_endCycle : mj_cw ie_X10_endCycle := rfl
set_option maxRecDepth 100000 in
theorem om_X10_heal : mj_chM vwCl RX10 ie_X10_heal = true := by decide +kernel
set_option maxRecDepth 100000 in
theorem ow_X10_heal : mj_cw ie_X10_heal := rfl
set_option maxRecDepth 100000 in
theorem om_X10_lights : mj_chM vwCl RX10 ie_X10_lights = true := by decide +kernel
set_option maxRecDepth 100000 in
theorem ow_X10_lights : mj_cw ie_X10_lights := rfl
set_option maxRecDepth 100000 in
theorem om_X10_countOf : mj_chM vwCl RX10 ie_X10_countOf = true := by decide +kernel
set_option maxRecDepth 100000 in
theorem ow_X10_countOf : mj_cw ie_X10_countOf := rfl
set_option maxRecDepth 100000 in
theorem om_X10_fill : mj_chM vwCl RX10 ie_X10_fill = true := by decide +kernel
set_option maxRecDepth 100000 in
theorem ow_X10_fill : mj_cw ie_X10_fill := rfl
set_option maxRecDepth 100000 in
theorem om_X10_takeOver : mj_chM vwCl RX10 ie_X10_takeOver = true := by decide +kernel
set_option maxRecDepth 100000 in
theorem ow_X10_takeOver : mj_cw ie_X10_takeOver := rfl
set_option maxRecDepth 100000 in
theorem om_X11_init : mj_chM vwCl RX11 ie_X11_init = true := by decide +kernel
set_option maxRecDepth 100000 in
theorem ow_X11_init : mj_cw ie_X11_init := rfl
set_option maxRecDepth 100000 in
theorem om_X11_key : mj_chM vwCl RX11 ie_X11_key = true := by decide +kernel
set_option maxRecDepth 100000 in
theorem ow_X11_key : mj_cw ie_X11_key := rfl
set_option maxRecDepth 100000 in
theorem om_X11_pass : mj_chM vwCl RX11 ie_X11_pass = true := by decide +kernel
set_option maxRecDepth 100000 in
theorem ow_X11_pass : mj_cw ie_X11_pass := rfl
set_option maxRecDepth 100000 in
theorem om_X11_tooth : mj_chM vwCl RX11 ie_X11_tooth = true := by decide +kernel
set_option maxRecDepth 100000 in
theorem ow_X11_tooth : mj_cw ie_X11_tooth := rfl
set_option maxRecDepth 100000 in
theorem om_X11_cam : mj_chM vwCl RX11 ie_X11_cam = true := by decide +kernel
set_option maxRecDepth 100000 in
theorem ow_X11_cam : mj_cw ie_X11_cam := rfl
set_option maxRecDepth 100000 in
theorem om_X11_turn : mj_chM vwCl RX11 ie_X11_turn = true := by decide +kernel
set_option maxRecDepth 100000 in
theorem ow_X11_turn : mj_cw ie_X11_turn := rfl
set_option maxRecDepth 100000 in
theorem om_X11_run : mj_chM vwCl RX11 ie_X11_run = true := by decide +kernel
set_option maxRecDepth 100000 in
theorem ow_X11_run : mj_cw ie_X11_run := rfl
set_option maxRecDepth 100000 in
theorem om_X11_cut : mj_chM vwCl RX11 ie_X11_cut = true := by decide +kernel
set_option maxRecDepth 100000 in
theorem ow_X11_cut : mj_cw ie_X11_cut := rfl
set_option maxRecDepth 100000 in
theorem om_X11_set : mj_chM vwCl RX11 ie_X11_set = true := by decide +kernel
set_option maxRecDepth 100000 in
theorem ow_X11_set : mj_cw ie_X11_set := rfl
set_option maxRecDepth 100000 in
theorem om_X11_load : mj_chM vwCl RX11 ie_X11_load = true := by decide +kernel
set_option maxRecDepth 100000 in
theorem ow_X11_load : mj_cw ie_X11_load := rfl
set_option maxRecDepth 100000 in
theorem om_X11_pin : mj_chM vwCl RX11 ie_X11_pin = true := by decide +kernel
set_option maxRecDepth 100000 in
theorem ow_X11_pin : mj_cw ie_X11_pin := rfl
set_option maxRecDepth 100000 in
theorem om_X11_limits : mj_chM vwCl RX11 ie_X11_limits = true := by decide +kernel
set_option maxRecDepth 100000 in
theorem ow_X11_limits : mj_cw ie_X11_limits := rfl
set_option maxRecDepth 100000 in
theorem om_X11_car : mj_chM vwCl RX11 ie_X11_car = true := by decide +kernel
set_option maxRecDepth 100000 in
theorem ow_X11_car : mj_cw ie_X11_car := rfl
set_option maxRecDepth 100000 in
theorem om_X11_brake : mj_chM vwCl RX11 ie_X11_brake = true := by decide +kernel
set_option maxRecDepth 100000 in
theorem ow_X11_brake : mj_cw ie_X11_brake := rfl
set_option maxRecDepth 100000 in
theorem om_X11_press : mj_chM vwCl RX11 ie_X11_press = true := by decide +kernel
set_option maxRecDepth 100000 in
theorem ow_X11_press : mj_cw ie_X11_press := rfl
set_option maxRecDepth 100000 in
theorem om_X11_line : mj_chM vwCl RX11 ie_X11_line = true := by decide +kernel
set_option maxRecDepth 100000 in
theorem ow_X11_line : mj_cw ie_X11_line := rfl
set_option maxRecDepth 100000 in
theorem om_X11_point : mj_chM vwCl RX11 ie_X11_point = true := by decide +kernel
set_option maxRecDepth 100000 in
theorem ow_X11_point : mj_cw ie_X11_point := rfl
set_option maxRecDepth 100000 in
theorem om_X11_lineAt : mj_chM vwCl RX11 ie_X11_lineAt = true := by decide +kernel
set_option maxRecDepth 100000 in
theorem ow_X11_lineAt : mj_cw ie_X11_lineAt := rfl
set_option maxRecDepth 100000 in
theorem om_X11_axis : mj_chM vwCl RX11 ie_X11_axis = true := by decide +kernel
set_option maxRecDepth 100000 in
theorem ow_X11_axis : mj_cw ie_X11_axis := rfl
set_option maxRecDepth 100000 in
theorem om_X11_cell : mj_chM vwCl RX11 ie_X11_cell = true := by decide +kernel
set_option maxRecDepth 100000 in
theorem ow_X11_cell : mj_cw ie_X11_cell := rfl
set_option maxRecDepth 100000 in
theorem om_X11_value : mj_chM vwCl RX11 ie_X11_value = true := by decide +kernel
set_option maxRecDepth 100000 in
theorem ow_X11_value : mj_cw ie_X11_value := rfl
set_option maxRecDepth 100000 in
theorem om_X11_calibrate : mj_chM vwCl RX11 ie_X11_calibrate = true := by decide +kernel
set_option maxRecDepth 100000 in
theorem ow_X11_calibrate : mj_cw ie_X11_calibrate := rfl
set_option maxRecDepth 100000 in
theorem om_X11_spoil : mj_chM vwCl RX11 ie_X11_spoil = true := by decide +kernel
set_option maxRecDepth 100000 in
theorem ow_X11_spoil : mj_cw ie_X11_spoil := rfl
set_option maxRecDepth 100000 in
theorem om_X11_word : mj_chM vwCl RX11 ie_X11_word = true := by decide +kernel
set_option maxRecDepth 100000 in
theorem ow_X11_word : mj_cw ie_X11_word := rfl
set_option maxRecDepth 100000 in
theorem om_X11_page : mj_chM vwCl RX11 ie_X11_page = true := by decide +kernel
set_option maxRecDepth 100000 in
theorem ow_X11_page : mj_cw ie_X11_page := rfl
set_option maxRecDepth 100000 in
theorem om_X11_tear : mj_chM vwCl RX11 ie_X11_tear = true := by decide +kernel
set_option maxRecDepth 100000 in
theorem ow_X11_tear : mj_cw ie_X11_tear := rfl
set_option maxRecDepth 100000 in
theorem om_X11_lock : mj_chM vwCl RX11 ie_X11_lock = true := by decide +kernel
set_option maxRecDepth 100000 in
theorem ow_X11_lock : mj_cw ie_X11_lock := rfl
set_option maxRecDepth 100000 in
theorem om_X11_watch : mj_chM vwCl RX11 ie_X11_watch = true := by decide +kernel
set_option maxRecDepth 100000 in
theorem ow_X11_watch : mj_cw ie_X11_watch := rfl
set_option maxRecDepth 100000 in
theorem om_X11_answer : mj_chM vwCl RX11 ie_X11_answer = true := by decide +kernel
set_option maxRecDepth 100000 in
theorem ow_X11_answer : mj_cw ie_X11_answer := rfl
set_option maxRecDepth 100000 in
theorem om_X11_hear : mj_chM vwCl RX11 ie_X11_hear = true := by decide +kernel
set_option maxRecDepth 100000 in
theorem ow_X11_hear : mj_cw ie_X11_hear := rfl
set_option maxRecDepth 100000 in
theorem om_X11_ask : mj_chM vwCl RX11 ie_X11_ask = true := by decide +kernel
set_option maxRecDepth 100000 in
theorem ow_X11_ask : mj_cw ie_X11_ask := rfl
set_option maxRecDepth 100000 in
theorem om_X11_byteOf : mj_chM vwCl RX11 ie_X11_byteOf = true := by decide +kernel
set_option maxRecDepth 100000 in
theorem ow_X11_byteOf : mj_cw ie_X11_byteOf := rfl
set_option maxRecDepth 100000 in
theorem om_X11_drain : mj_chM vwCl RX11 ie_X11_drain = true := by decide +kernel
set_option maxRecDepth 100000 in
theorem ow_X11_drain : mj_cw ie_X11_drain := rfl
set_option maxRecDepth 100000 in
theorem om_X11_frameComes : mj_chM vwCl RX11 ie_X11_frameComes = true := by decide +kernel
set_option maxRecDepth 100000 in
theorem ow_X11_frameComes : mj_cw ie_X11_frameComes := rfl
set_option maxRecDepth 100000 in
theorem om_X11_sent : mj_chM vwCl RX11 ie_X11_sent = true := by decide +kernel
set_option maxRecDepth 100000 in
theorem ow_X11_sent : mj_cw ie_X11_sent := rfl
set_option maxRecDepth 100000 in
theorem om_X11_noise : mj_chM vwCl RX11 ie_X11_noise = true := by decide +kernel
set_option maxRecDepth 100000 in
theorem ow_X11_noise : mj_cw ie_X11_noise := rfl
set_option maxRecDepth 100000 in
theorem om_X11_unit : mj_chM vwCl RX11 ie_X11_unit = true := by decide +kernel
set_option maxRecDepth 100000 in
theorem ow_X11_unit : mj_cw ie_X11_unit := rfl
set_option maxRecDepth 100000 in
theorem om_X11_build : mj_chM vwCl RX11 ie_X11_build = true := by decide +kernel
set_option maxRecDepth 100000 in
theorem ow_X11_build : mj_cw ie_X11_build := rfl
set_option maxRecDepth 100000 in
theorem om_X11_record : mj_chM vwCl RX11 ie_X11_record = true := by decide +kernel
set_option maxRecDepth 100000 in
theorem ow_X11_record : mj_cw ie_X11_record := rfl
set_option maxRecDepth 100000 in
theorem om_X11_row : mj_chM vwCl RX11 ie_X11_row = true := by decide +kernel
set_option maxRecDepth 100000 in
theorem ow_X11_row : mj_cw ie_X11_row := rfl
set_option maxRecDepth 100000 in
theorem om_X11_about : mj_chM vwCl RX11 ie_X11_about = true := by decide +kernel
set_option maxRecDepth 100000 in
theorem ow_X11_about : mj_cw ie_X11_about := rfl
set_option maxRecDepth 100000 in
theorem om_X11_channel : mj_chM vwCl RX11 ie_X11_channel = true := by decide +kernel
set_option maxRecDepth 100000 in
theorem ow_X11_channel : mj_cw ie_X11_channel := rfl
set_option maxRecDepth 100000 in
theorem om_X11_cylinder : mj_chM vwCl RX11 ie_X11_cylinder = true := by decide +kernel
set_option maxRecDepth 100000 in
theorem ow_X11_cylinder : mj_cw ie_X11_cylinder := rfl
set_option maxRecDepth 100000 in
theorem om_X11_edge : mj_chM vwCl RX11 ie_X11_edge = true := by decide +kernel
set_option maxRecDepth 100000 in
theorem ow_X11_edge : mj_cw ie_X11_edge := rfl
set_option maxRecDepth 100000 in
theorem om_X11_trouble : mj_chM vwCl RX11 ie_X11_trouble = true := by decide +kernel
set_option maxRecDepth 100000 in
theorem ow_X11_trouble : mj_cw ie_X11_trouble := rfl
set_option maxRecDepth 100000 in
theorem om_X11_frame : mj_chM vwCl RX11 ie_X11_frame = true := by decide +kernel
set_option maxRecDepth 100000 in
theorem ow_X11_frame : mj_cw ie_X11_frame := rfl
set_option maxRecDepth 100000 in
theorem om_X11_comes : mj_chM vwCl RX11 ie_X11_comes = true := by decide +kernel
set_option maxRecDepth 100000 in
theorem ow_X11_comes : mj_cw ie_X11_comes := rfl
set_option maxRecDepth 100000 in
theorem om_X11_clip : mj_chM vwCl RX11 ie_X11_clip = true := by decide +kernel
set_option maxRecDepth 100000 in
theorem ow_X11_clip : mj_cw ie_X11_clip := rfl
set_option maxRecDepth 100000 in
theorem om_X11_bit : mj_chM vwCl RX11 ie_X11_bit = true := by decide +kernel
set_option maxRecDepth 100000 in
theorem ow_X11_bit : mj_cw ie_X11_bit := rfl
set_option maxRecDepth 100000 in
theorem om_X11_isRaw : mj_chM vwCl RX11 ie_X11_isRaw = true := by decide +kernel
set_option maxRecDepth 100000 in
theorem ow_X11_isRaw : mj_cw ie_X11_isRaw := rfl
set_option maxRecDepth 100000 in
theorem om_X11_boot : mj_chM vwCl RX11 ie_X11_boot = true := by decide +kernel
set_option maxRecDepth 100000 in
theorem ow_X11_boot : mj_cw ie_X11_boot := rfl
set_option maxRecDepth 100000 in
theorem om_X11_goOff : mj_chM vwCl RX11 ie_X11_goOff = true := by decide +kernel
set_option maxRecDepth 100000 in
theorem ow_X11_goOff : mj_cw ie_X11_goOff := rfl
set_option maxRecDepth 100000 in
theorem om_X11_allOff : mj_chM vwCl RX11 ie_X11_allOff = true := by decide +kernel
set_option maxRecDepth 100000 in
theorem ow_X11_allOff : mj_cw ie_X11_allOff := rfl
set_option maxRecDepth 100000 in
theorem om_X11_passTo : mj_chM vwCl RX11 ie_X11_passTo = true := by decide +kernel
set_option maxRecDepth 100000 in
theorem ow_X11_passTo : mj_cw ie_X11_passTo := rfl
set_option maxRecDepth 100000 in
theorem om_X11_oneLoop : mj_chM vwCl RX11 ie_X11_oneLoop = true := by decide +kernel
set_option maxRecDepth 100000 in
theorem ow_X11_oneLoop : mj_cw ie_X11_oneLoop := rfl
set_option maxRecDepth 100000 in
theorem om_X11_countAfterRun : mj_chM vwCl RX11 ie_X11_countAfterRun = true := by decide +kernel
set_option maxRecDepth 100000 in
theorem ow_X11_countAfterRun : mj_cw ie_X11_countAfterRun := rfl
set_option maxRecDepth 100000 in
theorem om_X11_arrive : mj_chM vwCl RX11 ie_X11_arrive = true := by decide +kernel
set_option maxRecDepth 100000 in
theorem ow_X11_arrive : mj_cw ie_X11_arrive := rfl
set_option maxRecDepth 100000 in
theorem om_X11_camEdge : mj_chM vwCl RX11 ie_X11_camEdge = true := by decide +kernel
set_option maxRecDepth 100000 in
theorem ow_X11_camEdge : mj_cw ie_X11_camEdge := rfl
set_option maxRecDepth 100000 in
theorem om_X11_crankEdge : mj_chM vwCl RX11 ie_X11_crankEdge = true := by decide +kernel
set_option maxRecDepth 100000 in
theorem ow_X11_crankEdge : mj_cw ie_X11_crankEdge := rfl
set_option maxRecDepth 100000 in
theorem om_X11_topOf : mj_chM vwCl RX11 ie_X11_topOf = true := by decide +kernel
set_option maxRecDepth 100000 in
theorem ow_X11_topOf : mj_cw ie_X11_topOf := rfl
set_option maxRecDepth 100000 in
theorem om_X11_findLimit : mj_chM vwCl RX11 ie_X11_findLimit = true := by decide +kernel
set_option maxRecDepth 100000 in
theorem ow_X11_findLimit : mj_cw ie_X11_findLimit := rfl
set_option maxRecDepth 100000 in
theorem om_X11_planCylinder : mj_chM vwCl RX11 ie_X11_planCylinder = true := by decide +kernel
set_option maxRecDepth 100000 in
theorem ow_X11_planCylinder : mj_cw ie_X11_planCylinder := rfl
set_option maxRecDepth 100000 in
theorem om_X11_testMisfires : mj_chM vwCl RX11 ie_X11_testMisfires = true := by decide +kernel
set_option maxRecDepth 100000 in
theorem ow_X11_testMisfires : mj_cw ie_X11_testMisfires := rfl
set_option maxRecDepth 100000 in
theorem om_X11_fuelNow : mj_chM vwCl RX11 ie_X11_fuelNow = true := by decide +kernel
set_option maxRecDepth 100000 in
theorem ow_X11_fuelNow : mj_cw ie_X11_fuelNow := rfl
set_option maxRecDepth 100000 in
theorem om_X11_advanceNow : mj_chM vwCl RX11 ie_X11_advanceNow = true := by decide +kernel
set_option maxRecDepth 100000 in
theorem ow_X11_advanceNow : mj_cw ie_X11_advanceNow := rfl
set_option maxRecDepth 100000 in
theorem om_X11_putWaiting : mj_chM vwCl RX11 ie_X11_putWaiting = true := by decide +kernel
set_option maxRecDepth 100000 in
theorem ow_X11_putWaiting : mj_cw ie_X11_putWaiting := rfl
set_option maxRecDepth 100000 in
theorem om_X11_cellAtHand : mj_chM vwCl RX11 ie_X11_cellAtHand = true := by decide +kernel
set_option maxRecDepth 100000 in
theorem ow_X11_cellAtHand : mj_cw ie_X11_cellAtHand := rfl
set_option maxRecDepth 100000 in
theorem om_X11_moveModelPins : mj_chM vwCl RX11 ie_X11_moveModelPins = true := by decide +kernel
set_option maxRecDepth 100000 in
theorem ow_X11_moveModelPins : mj_cw ie_X11_moveModelPins := rfl
set_option maxRecDepth 100000 in
theorem om_X11_lookForStall : mj_chM vwCl RX11 ie_X11_lookForStall = true := by decide +kernel
set_option maxRecDepth 100000 in
theorem ow_X11_lookForStall : mj_cw ie_X11_lookForStall := rfl
set_option maxRecDepth 100000 in
theorem om_X11_idle : mj_chM vwCl RX11 ie_X11_idle = true := by decide +kernel
set_option maxRecDepth 100000 in
theorem ow_X11_idle : mj_cw ie_X11_idle := rfl
set_option maxRecDepth 100000 in
theorem om_X11_isBraking : mj_chM vwCl RX11 ie_X11_isBraking = true := by decide +kernel
set_option maxRecDepth 100000 in
theorem ow_X11_isBraking : mj_cw ie_X11_isBraking := rfl
set_option maxRecDepth 100000 in
theorem om_X11_mayHold : mj_chM vwCl RX11 ie_X11_mayHold = true := by decide +kernel
set_option maxRecDepth 100000 in
theorem ow_X11_mayHold : mj_cw ie_X11_mayHold := rfl
set_option maxRecDepth 100000 in
theorem om_X11_cruise : mj_chM vwCl RX11 ie_X11_cruise = true := by decide +kernel
set_option maxRecDepth 100000 in
theorem ow_X11_cruise : mj_cw ie_X11_cruise := rfl

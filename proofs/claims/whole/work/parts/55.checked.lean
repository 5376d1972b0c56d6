/-! PROGRAM: its methods are checked -/
set_option maxRecDepth 100000 in
theorem om_X12_pass : mj_chM vwCl RX12 ie_X12_pass = true := by decide +kernel
set_option maxRecDepth 100000 in
theorem ow_X12_pass : mj_cw ie_X12_pass := rfl
set_option maxRecDepth 100000 in
theorem om_X12_tooth : mj_chM vwCl RX12 ie_X12_tooth = true := by decide +kernel
set_option maxRecDepth 100000 in
theorem ow_X12_tooth : mj_cw ie_X12_tooth := rfl
set_option maxRecDepth 100000 in
theorem om_X12_cam : mj_chM vwCl RX12 ie_X12_cam = true := by decide +kernel
set_option maxRecDepth 100000 in
theorem ow_X12_cam : mj_cw ie_X12_cam := rfl
set_option maxRecDepth 100000 in
theorem om_X12_turn : mj_chM vwCl RX12 ie_X12_turn = true := by decide +kernel
set_option maxRecDepth 100000 in
theorem ow_X12_turn : mj_cw ie_X12_turn := rfl
set_option maxRecDepth 100000 in
theorem om_X12_run : mj_chM vwCl RX12 ie_X12_run = true := by decide +kernel
set_option maxRecDepth 100000 in
theorem ow_X12_run : mj_cw ie_X12_run := rfl
set_option maxRecDepth 100000 in
theorem om_X12_set : mj_chM vwCl RX12 ie_X12_set = true := by decide +kernel
set_option maxRecDepth 100000 in
theorem ow_X12_set : mj_cw ie_X12_set := rfl
set_option maxRecDepth 100000 in
theorem om_X12_load : mj_chM vwCl RX12 ie_X12_load = true := by decide +kernel
set_option maxRecDepth 100000 in
theorem ow_X12_load : mj_cw ie_X12_load := rfl
set_option maxRecDepth 100000 in
theorem om_X12_pin : mj_chM vwCl RX12 ie_X12_pin = true := by decide +kernel
set_option maxRecDepth 100000 in
theorem ow_X12_pin : mj_cw ie_X12_pin := rfl
set_option maxRecDepth 100000 in
theorem om_X12_limits : mj_chM vwCl RX12 ie_X12_limits = true := by decide +kernel
set_option maxRecDepth 100000 in
theorem ow_X12_limits : mj_cw ie_X12_limits := rfl
set_option maxRecDepth 100000 in
theorem om_X12_isPoint : mj_chM vwCl RX12 ie_X12_isPoint = true := by decide +kernel
set_option maxRecDepth 100000 in
theorem ow_X12_isPoint : mj_cw ie_X12_isPoint := rfl
set_option maxRecDepth 100000 in
theorem om_X12_line : mj_chM vwCl RX12 ie_X12_line = true := by decide +kernel
set_option maxRecDepth 100000 in
theorem ow_X12_line : mj_cw ie_X12_line := rfl
set_option maxRecDepth 100000 in
theorem om_X12_point : mj_chM vwCl RX12 ie_X12_point = true := by decide +kernel
set_option maxRecDepth 100000 in
theorem ow_X12_point : mj_cw ie_X12_point := rfl
set_option maxRecDepth 100000 in
theorem om_X12_lineAt : mj_chM vwCl RX12 ie_X12_lineAt = true := by decide +kernel
set_option maxRecDepth 100000 in
theorem ow_X12_lineAt : mj_cw ie_X12_lineAt := rfl
set_option maxRecDepth 100000 in
theorem om_X12_axis : mj_chM vwCl RX12 ie_X12_axis = true := by decide +kernel
set_option maxRecDepth 100000 in
theorem ow_X12_axis : mj_cw ie_X12_axis := rfl
set_option maxRecDepth 100000 in
theorem om_X12_cell : mj_chM vwCl RX12 ie_X12_cell = true := by decide +kernel
set_option maxRecDepth 100000 in
theorem ow_X12_cell : mj_cw ie_X12_cell := rfl
set_option maxRecDepth 100000 in
theorem om_X12_value : mj_chM vwCl RX12 ie_X12_value = true := by decide +kernel
set_option maxRecDepth 100000 in
theorem ow_X12_value : mj_cw ie_X12_value := rfl
set_option maxRecDepth 100000 in
theorem om_X12_calibrate : mj_chM vwCl RX12 ie_X12_calibrate = true := by decide +kernel
set_option maxRecDepth 100000 in
theorem ow_X12_calibrate : mj_cw ie_X12_calibrate := rfl
set_option maxRecDepth 100000 in
theorem om_X12_cut : mj_chM vwCl RX12 ie_X12_cut = true := by decide +kernel
set_option maxRecDepth 100000 in
theorem ow_X12_cut : mj_cw ie_X12_cut := rfl
set_option maxRecDepth 100000 in
theorem om_X12_noWord : mj_chM vwCl RX12 ie_X12_noWord = true := by decide +kernel
set_option maxRecDepth 100000 in
theorem ow_X12_noWord : mj_cw ie_X12_noWord := rfl
set_option maxRecDepth 100000 in
theorem om_X12_spoil : mj_chM vwCl RX12 ie_X12_spoil = true := by decide +kernel
set_option maxRecDepth 100000 in
theorem ow_X12_spoil : mj_cw ie_X12_spoil := rfl
set_option maxRecDepth 100000 in
theorem om_X12_word : mj_chM vwCl RX12 ie_X12_word = true := by decide +kernel
set_option maxRecDepth 100000 in
theorem ow_X12_word : mj_cw ie_X12_word := rfl
set_option maxRecDepth 100000 in
theorem om_X12_watch : mj_chM vwCl RX12 ie_X12_watch = true := by decide +kernel
set_option maxRecDepth 100000 in
theorem ow_X12_watch : mj_cw ie_X12_watch := rfl
set_option maxRecDepth 100000 in
theorem om_X12_answer : mj_chM vwCl RX12 ie_X12_answer = true := by decide +kernel
set_option maxRecDepth 100000 in
theorem ow_X12_answer : mj_cw ie_X12_answer := rfl
set_option maxRecDepth 100000 in
theorem om_X12_hear : mj_chM vwCl RX12 ie_X12_hear = true := by decide +kernel
set_option maxRecDepth 100000 in
theorem ow_X12_hear : mj_cw ie_X12_hear := rfl
set_option maxRecDepth 100000 in
theorem om_X12_byteAfter : mj_chM vwCl RX12 ie_X12_byteAfter = true := by decide +kernel
set_option maxRecDepth 100000 in
theorem ow_X12_byteAfter : mj_cw ie_X12_byteAfter := rfl
set_option maxRecDepth 100000 in
theorem om_X12_ask : mj_chM vwCl RX12 ie_X12_ask = true := by decide +kernel
set_option maxRecDepth 100000 in
theorem ow_X12_ask : mj_cw ie_X12_ask := rfl
set_option maxRecDepth 100000 in
theorem om_X12_byteOf : mj_chM vwCl RX12 ie_X12_byteOf = true := by decide +kernel
set_option maxRecDepth 100000 in
theorem ow_X12_byteOf : mj_cw ie_X12_byteOf := rfl
set_option maxRecDepth 100000 in
theorem om_X12_drain : mj_chM vwCl RX12 ie_X12_drain = true := by decide +kernel
set_option maxRecDepth 100000 in
theorem ow_X12_drain : mj_cw ie_X12_drain := rfl
set_option maxRecDepth 100000 in
theorem om_X12_about : mj_chM vwCl RX12 ie_X12_about = true := by decide +kernel
set_option maxRecDepth 100000 in
theorem ow_X12_about : mj_cw ie_X12_about := rfl
set_option maxRecDepth 100000 in
theorem om_X12_aboutOf : mj_chM vwCl RX12 ie_X12_aboutOf = true := by decide +kernel
set_option maxRecDepth 100000 in
theorem ow_X12_aboutOf : mj_cw ie_X12_aboutOf := rfl
set_option maxRecDepth 100000 in
theorem om_X12_aboutWheel : mj_chM vwCl RX12 ie_X12_aboutWheel = true := by decide +kernel
set_option maxRecDepth 100000 in
theorem ow_X12_aboutWheel : mj_cw ie_X12_aboutWheel := rfl
set_option maxRecDepth 100000 in
theorem om_X12_aboutLoop : mj_chM vwCl RX12 ie_X12_aboutLoop = true := by decide +kernel
set_option maxRecDepth 100000 in
theorem ow_X12_aboutLoop : mj_cw ie_X12_aboutLoop := rfl
set_option maxRecDepth 100000 in
theorem om_X12_aboutRest : mj_chM vwCl RX12 ie_X12_aboutRest = true := by decide +kernel
set_option maxRecDepth 100000 in
theorem ow_X12_aboutRest : mj_cw ie_X12_aboutRest := rfl
set_option maxRecDepth 100000 in
theorem om_X12_channel : mj_chM vwCl RX12 ie_X12_channel = true := by decide +kernel
set_option maxRecDepth 100000 in
theorem ow_X12_channel : mj_cw ie_X12_channel := rfl
set_option maxRecDepth 100000 in
theorem om_X12_cylinder : mj_chM vwCl RX12 ie_X12_cylinder = true := by decide +kernel
set_option maxRecDepth 100000 in
theorem ow_X12_cylinder : mj_cw ie_X12_cylinder := rfl
set_option maxRecDepth 100000 in
theorem om_X12_edge : mj_chM vwCl RX12 ie_X12_edge = true := by decide +kernel
set_option maxRecDepth 100000 in
theorem ow_X12_edge : mj_cw ie_X12_edge := rfl
set_option maxRecDepth 100000 in
theorem om_X12_trouble : mj_chM vwCl RX12 ie_X12_trouble = true := by decide +kernel
set_option maxRecDepth 100000 in
theorem ow_X12_trouble : mj_cw ie_X12_trouble := rfl
set_option maxRecDepth 100000 in
theorem om_X12_frame : mj_chM vwCl RX12 ie_X12_frame = true := by decide +kernel
set_option maxRecDepth 100000 in
theorem ow_X12_frame : mj_cw ie_X12_frame := rfl
set_option maxRecDepth 100000 in
theorem om_X12_comes : mj_chM vwCl RX12 ie_X12_comes = true := by decide +kernel
set_option maxRecDepth 100000 in
theorem ow_X12_comes : mj_cw ie_X12_comes := rfl
set_option maxRecDepth 100000 in
theorem om_X12_ratio : mj_chM vwCl RX12 ie_X12_ratio = true := by decide +kernel
set_option maxRecDepth 100000 in
theorem ow_X12_ratio : mj_cw ie_X12_ratio := rfl
set_option maxRecDepth 100000 in
theorem om_X12_drives : mj_chM vwCl RX12 ie_X12_drives = true := by decide +kernel
set_option maxRecDepth 100000 in
theorem ow_X12_drives : mj_cw ie_X12_drives := rfl
set_option maxRecDepth 100000 in
theorem om_X12_braking : mj_chM vwCl RX12 ie_X12_braking = true := by decide +kernel
set_option maxRecDepth 100000 in
theorem ow_X12_braking : mj_cw ie_X12_braking := rfl
set_option maxRecDepth 100000 in
theorem om_X12_mayHold : mj_chM vwCl RX12 ie_X12_mayHold = true := by decide +kernel
set_option maxRecDepth 100000 in
theorem ow_X12_mayHold : mj_cw ie_X12_mayHold := rfl
set_option maxRecDepth 100000 in
theorem om_X12_hold : mj_chM vwCl RX12 ie_X12_hold = true := by decide +kernel
set_option maxRecDepth 100000 in
theorem ow_X12_hold : mj_cw ie_X12_hold := rfl
set_option maxRecDepth 100000 in
theorem om_X12_car : mj_chM vwCl RX12 ie_X12_car = true := by decide +kernel
set_option maxRecDepth 100000 in
theorem ow_X12_car : mj_cw ie_X12_car := rfl
set_option maxRecDepth 100000 in
theorem om_X12_brake : mj_chM vwCl RX12 ie_X12_brake = true := by decide +kernel
set_option maxRecDepth 100000 in
theorem ow_X12_brake : mj_cw ie_X12_brake := rfl
set_option maxRecDepth 100000 in
theorem om_X12_press : mj_chM vwCl RX12 ie_X12_press = true := by decide +kernel
set_option maxRecDepth 100000 in
theorem ow_X12_press : mj_cw ie_X12_press := rfl
set_option maxRecDepth 100000 in
theorem om_X12_check : mj_chM vwCl RX12 ie_X12_check = true := by decide +kernel
set_option maxRecDepth 100000 in
theorem ow_X12_check : mj_cw ie_X12_check := rfl
set_option maxRecDepth 100000 in
theorem om_X12_twoBytes : mj_chM vwCl RX12 ie_X12_twoBytes = true := by decide +kernel
set_option maxRecDepth 100000 in
theorem ow_X12_twoBytes : mj_cw ie_X12_twoBytes := rfl
set_option maxRecDepth 100000 in
theorem om_X12_four : mj_chM vwCl RX12 ie_X12_four = true := by decide +kernel
set_option maxRecDepth 100000 in
theorem ow_X12_four : mj_cw ie_X12_four := rfl
set_option maxRecDepth 100000 in
theorem om_X12_sendFrame : mj_chM vwCl RX12 ie_X12_sendFrame = true := by decide +kernel
set_option maxRecDepth 100000 in
theorem ow_X12_sendFrame : mj_cw ie_X12_sendFrame := rfl
set_option maxRecDepth 100000 in
theorem om_X12_sendFast : mj_chM vwCl RX12 ie_X12_sendFast = true := by decide +kernel
set_option maxRecDepth 100000 in
theorem ow_X12_sendFast : mj_cw ie_X12_sendFast := rfl
set_option maxRecDepth 100000 in
theorem om_X12_sendSlow : mj_chM vwCl RX12 ie_X12_sendSlow = true := by decide +kernel
set_option maxRecDepth 100000 in
theorem ow_X12_sendSlow : mj_cw ie_X12_sendSlow := rfl
set_option maxRecDepth 100000 in
theorem om_X12_busNow : mj_chM vwCl RX12 ie_X12_busNow = true := by decide +kernel
set_option maxRecDepth 100000 in
theorem ow_X12_busNow : mj_cw ie_X12_busNow := rfl
set_option maxRecDepth 100000 in
theorem om_X12_percentage : mj_chM vwCl RX12 ie_X12_percentage = true := by decide +kernel
set_option maxRecDepth 100000 in
theorem ow_X12_percentage : mj_cw ie_X12_percentage := rfl
set_option maxRecDepth 100000 in
theorem om_X12_opens : mj_chM vwCl RX12 ie_X12_opens = true := by decide +kernel
set_option maxRecDepth 100000 in
theorem ow_X12_opens : mj_cw ie_X12_opens := rfl
set_option maxRecDepth 100000 in
theorem om_X12_frameComes : mj_chM vwCl RX12 ie_X12_frameComes = true := by decide +kernel
set_option maxRecDepth 100000 in
theorem ow_X12_frameComes : mj_cw ie_X12_frameComes := rfl
set_option maxRecDepth 100000 in
theorem om_X12_sent : mj_chM vwCl RX12 ie_X12_sent = true := by decide +kernel
set_option maxRecDepth 100000 in
theorem ow_X12_sent : mj_cw ie_X12_sent := rfl
set_option maxRecDepth 100000 in
theorem om_X12_noise : mj_chM vwCl RX12 ie_X12_noise = true := by decide +kernel
set_option maxRecDepth 100000 in
theorem ow_X12_noise : mj_cw ie_X12_noise := rfl
set_option maxRecDepth 100000 in
theorem om_X12_lock : mj_chM vwCl RX12 ie_X12_lock = true := by decide +kernel
set_option maxRecDepth 100000 in
theorem ow_X12_lock : mj_cw ie_X12_lock := rfl
set_option maxRecDepth 100000 in
theorem om_X12_noPage : mj_chM vwCl RX12 ie_X12_noPage = true := by decide +kernel
set_option maxRecDepth 100000 in
theorem ow_X12_noPage : mj_cw ie_X12_noPage := rfl
set_option maxRecDepth 100000 in
theorem om_X12_page : mj_chM vwCl RX12 ie_X12_page = true := by decide +kernel
set_option maxRecDepth 100000 in
theorem ow_X12_page : mj_cw ie_X12_page := rfl
set_option maxRecDepth 100000 in
theorem om_X12_tear : mj_chM vwCl RX12 ie_X12_tear = true := by decide +kernel
set_option maxRecDepth 100000 in
theorem ow_X12_tear : mj_cw ie_X12_tear := rfl
set_option maxRecDepth 100000 in
theorem om_X12_loadMap : mj_chM vwCl RX12 ie_X12_loadMap = true := by decide +kernel
set_option maxRecDepth 100000 in
theorem ow_X12_loadMap : mj_cw ie_X12_loadMap := rfl
set_option maxRecDepth 100000 in
theorem om_X12_loadCell : mj_chM vwCl RX12 ie_X12_loadCell = true := by decide +kernel
set_option maxRecDepth 100000 in
theorem ow_X12_loadCell : mj_cw ie_X12_loadCell := rfl
set_option maxRecDepth 100000 in
theorem om_X12_loaded : mj_chM vwCl RX12 ie_X12_loaded = true := by decide +kernel
set_option maxRecDepth 100000 in
theorem ow_X12_loaded : mj_cw ie_X12_loaded := rfl
set_option maxRecDepth 100000 in
theorem om_X12_unit : mj_chM vwCl RX12 ie_X12_unit = true := by decide +kernel
set_option maxRecDepth 100000 in
theorem ow_X12_unit : mj_cw ie_X12_unit := rfl
set_option maxRecDepth 100000 in
theorem om_X12_add : mj_chM vwCl RX12 ie_X12_add = true := by decide +kernel
set_option maxRecDepth 100000 in
theorem ow_X12_add : mj_cw ie_X12_add := rfl
set_option maxRecDepth 100000 in
theorem om_X12_awaits : mj_chM vwCl RX12 ie_X12_awaits = true := by decide +kernel
set_option maxRecDepth 100000 in
theorem ow_X12_awaits : mj_cw ie_X12_awaits := rfl
set_option maxRecDepth 100000 in
theorem om_X12_top : mj_chM vwCl RX12 ie_X12_top = true := by decide +kernel
set_option maxRecDepth 100000 in
theorem ow_X12_top : mj_cw ie_X12_top := rfl
set_option maxRecDepth 100000 in
theorem om_X12_reduce : mj_chM vwCl RX12 ie_X12_reduce = true := by decide +kernel
set_option maxRecDepth 100000 in
theorem ow_X12_reduce : mj_cw ie_X12_reduce := rfl
set_option maxRecDepth 100000 in
theorem om_X12_endFactor : mj_chM vwCl RX12 ie_X12_endFactor = true := by decide +kernel
set_option maxRecDepth 100000 in
theorem ow_X12_endFactor : mj_cw ie_X12_endFactor := rfl
set_option maxRecDepth 100000 in
theorem om_X12_endSeconds : mj_chM vwCl RX12 ie_X12_endSeconds = true := by decide +kernel
set_option maxRecDepth 100000 in
theorem ow_X12_endSeconds : mj_cw ie_X12_endSeconds := rfl
set_option maxRecDepth 100000 in
theorem om_X12_inputOf : mj_chM vwCl RX12 ie_X12_inputOf = true := by decide +kernel
set_option maxRecDepth 100000 in
theorem ow_X12_inputOf : mj_cw ie_X12_inputOf := rfl
set_option maxRecDepth 100000 in
theorem om_X12_takeFactor : mj_chM vwCl RX12 ie_X12_takeFactor = true := by decide +kernel
set_option maxRecDepth 100000 in
theorem ow_X12_takeFactor : mj_cw ie_X12_takeFactor := rfl
set_option maxRecDepth 100000 in
theorem om_X12_takeSign : mj_chM vwCl RX12 ie_X12_takeSign = true := by decide +kernel
set_option maxRecDepth 100000 in
theorem ow_X12_takeSign : mj_cw ie_X12_takeSign := rfl
set_option maxRecDepth 100000 in
theorem om_X12_readText : mj_chM vwCl RX12 ie_X12_readText = true := by decide +kernel
set_option maxRecDepth 100000 in
theorem ow_X12_readText : mj_cw ie_X12_readText := rfl
set_option maxRecDepth 100000 in
theorem om_X12_build : mj_chM vwCl RX12 ie_X12_build = true := by decide +kernel
set_option maxRecDepth 100000 in
theorem ow_X12_build : mj_cw ie_X12_build := rfl
set_option maxRecDepth 100000 in
theorem om_X12_input : mj_chM vwCl RX12 ie_X12_input = true := by decide +kernel
set_option maxRecDepth 100000 in
theorem ow_X12_input : mj_cw ie_X12_input := rfl
set_option maxRecDepth 100000 in
theorem om_X12_join : mj_chM vwCl RX12 ie_X12_join = true := by decide +kernel
set_option maxRecDepth 100000 in
theorem ow_X12_join : mj_cw ie_X12_join := rfl
set_option maxRecDepth 100000 in
theorem om_X12_work : mj_chM vwCl RX12 ie_X12_work = true := by decide +kernel
set_option maxRecDepth 100000 in
theorem ow_X12_work : mj_cw ie_X12_work := rfl
set_option maxRecDepth 100000 in
theorem om_X12_record : mj_chM vwCl RX12 ie_X12_record = true := by decide +kernel
set_option maxRecDepth 100000 in
theorem ow_X12_record : mj_cw ie_X12_record := rfl
set_option maxRecDepth 100000 in
theorem om_X12_keepRow : mj_chM vwCl RX12 ie_X12_keepRow = true := by decide +kernel
set_option maxRecDepth 100000 in
theorem ow_X12_keepRow : mj_cw ie_X12_keepRow := rfl
set_option maxRecDepth 100000 in
theorem om_X12_rowsKept : mj_chM vwCl RX12 ie_X12_rowsKept = true := by decide +kernel
set_option maxRecDepth 100000 in
theorem ow_X12_rowsKept : mj_cw ie_X12_rowsKept := rfl
set_option maxRecDepth 100000 in
theorem om_X12_row : mj_chM vwCl RX12 ie_X12_row = true := by decide +kernel
set_option maxRecDepth 100000 in
theorem ow_X12_row : mj_cw ie_X12_row := rfl
set_option maxRecDepth 100000 in
theorem om_X12_aboutRoad : mj_chM vwCl RX12 ie_X12_aboutRoad = true := by decide +kernel
set_option maxRecDepth 100000 in
theorem ow_X12_aboutRoad : mj_cw ie_X12_aboutRoad := rfl
set_option maxRecDepth 100000 in
theorem om_X12_aboutBench : mj_chM vwCl RX12 ie_X12_aboutBench = true := by decide +kernel
set_option maxRecDepth 100000 in
theorem ow_X12_aboutBench : mj_cw ie_X12_aboutBench := rfl

/-! PROGRAM: its methods are checked -/
set_option maxRecDepth 100000 in
theorem om_X0_init : mj_chM vwCl RX0 ie_X0_init = true := by decide +kernel
set_option maxRecDepth 100000 in
theorem ow_X0_init : mj_cw ie_X0_init := rfl
set_option maxRecDepth 100000 in
theorem om_X0_reset : mj_chM vwCl RX0 ie_X0_reset = true := by decide +kernel
set_option maxRecDepth 100000 in
theorem ow_X0_reset : mj_cw ie_X0_reset := rfl
set_option maxRecDepth 100000 in
theorem om_X0_addUnit : mj_chM vwCl RX0 ie_X0_addUnit = true := by decide +kernel
set_option maxRecDepth 100000 in
theorem ow_X0_addUnit : mj_cw ie_X0_addUnit := rfl
set_option maxRecDepth 100000 in
theorem om_X0_readText : mj_chM vwCl RX0 ie_X0_readText = true := by decide +kernel
set_option maxRecDepth 100000 in
theorem ow_X0_readText : mj_cw ie_X0_readText := rfl
set_option maxRecDepth 100000 in
theorem om_X0_nextSign : mj_chM vwCl RX0 ie_X0_nextSign = true := by decide +kernel
set_option maxRecDepth 100000 in
theorem ow_X0_nextSign : mj_cw ie_X0_nextSign := rfl
set_option maxRecDepth 100000 in
theorem om_X0_readSign : mj_chM vwCl RX0 ie_X0_readSign = true := by decide +kernel
set_option maxRecDepth 100000 in
theorem ow_X0_readSign : mj_cw ie_X0_readSign := rfl
set_option maxRecDepth 100000 in
theorem om_X0_addStep : mj_chM vwCl RX0 ie_X0_addStep = true := by decide +kernel
set_option maxRecDepth 100000 in
theorem ow_X0_addStep : mj_cw ie_X0_addStep := rfl
set_option maxRecDepth 100000 in
theorem om_X0_endSkip : mj_chM vwCl RX0 ie_X0_endSkip = true := by decide +kernel
set_option maxRecDepth 100000 in
theorem ow_X0_endSkip : mj_cw ie_X0_endSkip := rfl
set_option maxRecDepth 100000 in
theorem om_X0_readRule : mj_chM vwCl RX0 ie_X0_readRule = true := by decide +kernel
set_option maxRecDepth 100000 in
theorem ow_X0_readRule : mj_cw ie_X0_readRule := rfl
set_option maxRecDepth 100000 in
theorem om_X0_readChoice : mj_chM vwCl RX0 ie_X0_readChoice = true := by decide +kernel
set_option maxRecDepth 100000 in
theorem ow_X0_readChoice : mj_cw ie_X0_readChoice := rfl
set_option maxRecDepth 100000 in
theorem om_X0_readSum : mj_chM vwCl RX0 ie_X0_readSum = true := by decide +kernel
set_option maxRecDepth 100000 in
theorem ow_X0_readSum : mj_cw ie_X0_readSum := rfl
set_option maxRecDepth 100000 in
theorem om_X0_readProduct : mj_chM vwCl RX0 ie_X0_readProduct = true := by decide +kernel
set_option maxRecDepth 100000 in
theorem ow_X0_readProduct : mj_cw ie_X0_readProduct := rfl
set_option maxRecDepth 100000 in
theorem om_X0_readFactor : mj_chM vwCl RX0 ie_X0_readFactor = true := by decide +kernel
set_option maxRecDepth 100000 in
theorem ow_X0_readFactor : mj_cw ie_X0_readFactor := rfl
set_option maxRecDepth 100000 in
theorem om_X0_readNumber : mj_chM vwCl RX0 ie_X0_readNumber = true := by decide +kernel
set_option maxRecDepth 100000 in
theorem ow_X0_readNumber : mj_cw ie_X0_readNumber := rfl
set_option maxRecDepth 100000 in
theorem om_X0_followProgram : mj_chM vwCl RX0 ie_X0_followProgram = true := by decide +kernel
set_option maxRecDepth 100000 in
theorem ow_X0_followProgram : mj_cw ie_X0_followProgram := rfl
set_option maxRecDepth 100000 in
theorem om_X0_doStep : mj_chM vwCl RX0 ie_X0_doStep = true := by decide +kernel
set_option maxRecDepth 100000 in
theorem ow_X0_doStep : mj_cw ie_X0_doStep := rfl
set_option maxRecDepth 100000 in
theorem om_X0_takeTop : mj_chM vwCl RX0 ie_X0_takeTop = true := by decide +kernel
set_option maxRecDepth 100000 in
theorem ow_X0_takeTop : mj_cw ie_X0_takeTop := rfl
set_option maxRecDepth 100000 in
theorem om_X0_reckon : mj_chM vwCl RX0 ie_X0_reckon = true := by decide +kernel
set_option maxRecDepth 100000 in
theorem ow_X0_reckon : mj_cw ie_X0_reckon := rfl
set_option maxRecDepth 100000 in
theorem om_X0_beginRows : mj_chM vwCl RX0 ie_X0_beginRows = true := by decide +kernel
set_option maxRecDepth 100000 in
theorem ow_X0_beginRows : mj_cw ie_X0_beginRows := rfl
set_option maxRecDepth 100000 in
theorem om_X0_nextSlot : mj_chM vwCl RX0 ie_X0_nextSlot = true := by decide +kernel
set_option maxRecDepth 100000 in
theorem ow_X0_nextSlot : mj_cw ie_X0_nextSlot := rfl
set_option maxRecDepth 100000 in
theorem om_X0_keepRow : mj_chM vwCl RX0 ie_X0_keepRow = true := by decide +kernel
set_option maxRecDepth 100000 in
theorem ow_X0_keepRow : mj_cw ie_X0_keepRow := rfl
set_option maxRecDepth 100000 in
theorem om_X0_watchTrigger : mj_chM vwCl RX0 ie_X0_watchTrigger = true := by decide +kernel
set_option maxRecDepth 100000 in
theorem ow_X0_watchTrigger : mj_cw ie_X0_watchTrigger := rfl
set_option maxRecDepth 100000 in
theorem om_X1_init : mj_chM vwCl RX1 ie_X1_init = true := by decide +kernel
set_option maxRecDepth 100000 in
theorem ow_X1_init : mj_cw ie_X1_init := rfl
set_option maxRecDepth 100000 in
theorem om_X1_reset : mj_chM vwCl RX1 ie_X1_reset = true := by decide +kernel
set_option maxRecDepth 100000 in
theorem ow_X1_reset : mj_cw ie_X1_reset := rfl
set_option maxRecDepth 100000 in
theorem om_X1_bar : mj_chM vwCl RX1 ie_X1_bar = true := by decide +kernel
set_option maxRecDepth 100000 in
theorem ow_X1_bar : mj_cw ie_X1_bar := rfl
set_option maxRecDepth 100000 in
theorem om_X1_disturb : mj_chM vwCl RX1 ie_X1_disturb = true := by decide +kernel
set_option maxRecDepth 100000 in
theorem ow_X1_disturb : mj_cw ie_X1_disturb := rfl
set_option maxRecDepth 100000 in
theorem om_X1_tick : mj_chM vwCl RX1 ie_X1_tick = true := by decide +kernel
set_option maxRecDepth 100000 in
theorem ow_X1_tick : mj_cw ie_X1_tick := rfl
set_option maxRecDepth 100000 in
theorem om_X1_tickSince : mj_chM vwCl RX1 ie_X1_tickSince = true := by decide +kernel
set_option maxRecDepth 100000 in
theorem ow_X1_tickSince : mj_cw ie_X1_tickSince := rfl
set_option maxRecDepth 100000 in
theorem om_X1_send : mj_chM vwCl RX1 ie_X1_send = true := by decide +kernel
set_option maxRecDepth 100000 in
theorem ow_X1_send : mj_cw ie_X1_send := rfl
set_option maxRecDepth 100000 in
theorem om_X1_sentNumber : mj_chM vwCl RX1 ie_X1_sentNumber = true := by decide +kernel
set_option maxRecDepth 100000 in
theorem ow_X1_sentNumber : mj_cw ie_X1_sentNumber := rfl
set_option maxRecDepth 100000 in
theorem om_X1_checkOf : mj_chM vwCl RX1 ie_X1_checkOf = true := by decide +kernel
set_option maxRecDepth 100000 in
theorem ow_X1_checkOf : mj_cw ie_X1_checkOf := rfl
set_option maxRecDepth 100000 in
theorem om_X1_hearAllowed : mj_chM vwCl RX1 ie_X1_hearAllowed = true := by decide +kernel
set_option maxRecDepth 100000 in
theorem ow_X1_hearAllowed : mj_cw ie_X1_hearAllowed := rfl
set_option maxRecDepth 100000 in
theorem om_X1_hearUnlock : mj_chM vwCl RX1 ie_X1_hearUnlock = true := by decide +kernel
set_option maxRecDepth 100000 in
theorem ow_X1_hearUnlock : mj_cw ie_X1_hearUnlock := rfl
set_option maxRecDepth 100000 in
theorem om_X2_init : mj_chM vwCl RX2 ie_X2_init = true := by decide +kernel
set_option maxRecDepth 100000 in
theorem ow_X2_init : mj_cw ie_X2_init := rfl
set_option maxRecDepth 100000 in
theorem om_X2_reset : mj_chM vwCl RX2 ie_X2_reset = true := by decide +kernel
set_option maxRecDepth 100000 in
theorem ow_X2_reset : mj_cw ie_X2_reset := rfl
set_option maxRecDepth 100000 in
theorem om_X2_forgetPlans : mj_chM vwCl RX2 ie_X2_forgetPlans = true := by decide +kernel
set_option maxRecDepth 100000 in
theorem ow_X2_forgetPlans : mj_cw ie_X2_forgetPlans := rfl
set_option maxRecDepth 100000 in
theorem om_X2_lose : mj_chM vwCl RX2 ie_X2_lose = true := by decide +kernel
set_option maxRecDepth 100000 in
theorem ow_X2_lose : mj_cw ie_X2_lose := rfl
set_option maxRecDepth 100000 in
theorem om_X2_measure : mj_chM vwCl RX2 ie_X2_measure = true := by decide +kernel
set_option maxRecDepth 100000 in
theorem ow_X2_measure : mj_cw ie_X2_measure := rfl
set_option maxRecDepth 100000 in
theorem om_X2_hearTooth : mj_chM vwCl RX2 ie_X2_hearTooth = true := by decide +kernel
set_option maxRecDepth 100000 in
theorem ow_X2_hearTooth : mj_cw ie_X2_hearTooth := rfl
set_option maxRecDepth 100000 in
theorem om_X2_seek : mj_chM vwCl RX2 ie_X2_seek = true := by decide +kernel
set_option maxRecDepth 100000 in
theorem ow_X2_seek : mj_cw ie_X2_seek := rfl
set_option maxRecDepth 100000 in
theorem om_X2_isRight : mj_chM vwCl RX2 ie_X2_isRight = true := by decide +kernel
set_option maxRecDepth 100000 in
theorem ow_X2_isRight : mj_cw ie_X2_isRight := rfl
set_option maxRecDepth 100000 in
theorem om_X2_goOn : mj_chM vwCl RX2 ie_X2_goOn = true := by decide +kernel
set_option maxRecDepth 100000 in
theorem ow_X2_goOn : mj_cw ie_X2_goOn := rfl
set_option maxRecDepth 100000 in
theorem om_X2_passGap : mj_chM vwCl RX2 ie_X2_passGap = true := by decide +kernel
set_option maxRecDepth 100000 in
theorem ow_X2_passGap : mj_cw ie_X2_passGap := rfl
set_option maxRecDepth 100000 in
theorem om_X2_hearCam : mj_chM vwCl RX2 ie_X2_hearCam = true := by decide +kernel
set_option maxRecDepth 100000 in
theorem ow_X2_hearCam : mj_cw ie_X2_hearCam := rfl
set_option maxRecDepth 100000 in
theorem om_X2_angleNow : mj_chM vwCl RX2 ie_X2_angleNow = true := by decide +kernel
set_option maxRecDepth 100000 in
theorem ow_X2_angleNow : mj_cw ie_X2_angleNow := rfl
set_option maxRecDepth 100000 in
theorem om_X2_standsFor : mj_chM vwCl RX2 ie_X2_standsFor = true := by decide +kernel
set_option maxRecDepth 100000 in
theorem ow_X2_standsFor : mj_cw ie_X2_standsFor := rfl
set_option maxRecDepth 100000 in
theorem om_X2_comesAt : mj_chM vwCl RX2 ie_X2_comesAt = true := by decide +kernel
set_option maxRecDepth 100000 in
theorem ow_X2_comesAt : mj_cw ie_X2_comesAt := rfl
set_option maxRecDepth 100000 in
theorem om_X2_countMiss : mj_chM vwCl RX2 ie_X2_countMiss = true := by decide +kernel
set_option maxRecDepth 100000 in
theorem ow_X2_countMiss : mj_cw ie_X2_countMiss := rfl
set_option maxRecDepth 100000 in
theorem om_X2_awaitAngles : mj_chM vwCl RX2 ie_X2_awaitAngles = true := by decide +kernel
set_option maxRecDepth 100000 in
theorem ow_X2_awaitAngles : mj_cw ie_X2_awaitAngles := rfl
set_option maxRecDepth 100000 in
theorem om_X2_waitingBits : mj_chM vwCl RX2 ie_X2_waitingBits = true := by decide +kernel
set_option maxRecDepth 100000 in
theorem ow_X2_waitingBits : mj_cw ie_X2_waitingBits := rfl
set_option maxRecDepth 100000 in
theorem om_X3_init : mj_chM vwCl RX3 ie_X3_init = true := by decide +kernel
set_option maxRecDepth 100000 in
theorem ow_X3_init : mj_cw ie_X3_init := rfl
set_option maxRecDepth 100000 in
theorem om_X3_reset : mj_chM vwCl RX3 ie_X3_reset = true := by decide +kernel
set_option maxRecDepth 100000 in
theorem ow_X3_reset : mj_cw ie_X3_reset := rfl
set_option maxRecDepth 100000 in
theorem om_X3_takeOver : mj_chM vwCl RX3 ie_X3_takeOver = true := by decide +kernel
set_option maxRecDepth 100000 in
theorem ow_X3_takeOver : mj_cw ie_X3_takeOver := rfl
set_option maxRecDepth 100000 in
theorem om_X3_fill : mj_chM vwCl RX3 ie_X3_fill = true := by decide +kernel
set_option maxRecDepth 100000 in
theorem ow_X3_fill : mj_cw ie_X3_fill := rfl
set_option maxRecDepth 100000 in
theorem om_X3_arm : mj_chM vwCl RX3 ie_X3_arm = true := by decide +kernel
set_option maxRecDepth 100000 in
theorem ow_X3_arm : mj_cw ie_X3_arm := rfl
set_option maxRecDepth 100000 in
theorem om_X3_lookAgain : mj_chM vwCl RX3 ie_X3_lookAgain = true := by decide +kernel
set_option maxRecDepth 100000 in
theorem ow_X3_lookAgain : mj_cw ie_X3_lookAgain := rfl
set_option maxRecDepth 100000 in
theorem om_X3_tickWatch : mj_chM vwCl RX3 ie_X3_tickWatch = true := by decide +kernel
set_option maxRecDepth 100000 in
theorem ow_X3_tickWatch : mj_cw ie_X3_tickWatch := rfl
set_option maxRecDepth 100000 in
theorem om_X3_feelHeat : mj_chM vwCl RX3 ie_X3_feelHeat = true := by decide +kernel
set_option maxRecDepth 100000 in
theorem ow_X3_feelHeat : mj_cw ie_X3_feelHeat := rfl
set_option maxRecDepth 100000 in
theorem om_X3_isOver : mj_chM vwCl RX3 ie_X3_isOver = true := by decide +kernel
set_option maxRecDepth 100000 in
theorem ow_X3_isOver : mj_cw ie_X3_isOver := rfl
set_option maxRecDepth 100000 in
theorem om_X3_trim : mj_chM vwCl RX3 ie_X3_trim = true := by decide +kernel
set_option maxRecDepth 100000 in
theorem ow_X3_trim : mj_cw ie_X3_trim := rfl
set_option maxRecDepth 100000 in
theorem om_X3_relax : mj_chM vwCl RX3 ie_X3_relax = true := by decide +kernel
set_option maxRecDepth 100000 in
theorem ow_X3_relax : mj_cw ie_X3_relax := rfl
set_option maxRecDepth 100000 in
theorem om_X4_init : mj_chM vwCl RX4 ie_X4_init = true := by decide +kernel
set_option maxRecDepth 100000 in
theorem ow_X4_init : mj_cw ie_X4_init := rfl
set_option maxRecDepth 100000 in
theorem om_X4_isNumber : mj_chM vwCl RX4 ie_X4_isNumber = true := by decide +kernel
set_option maxRecDepth 100000 in
theorem ow_X4_isNumber : mj_cw ie_X4_isNumber := rfl
set_option maxRecDepth 100000 in
theorem om_X4_isCell : mj_chM vwCl RX4 ie_X4_isCell = true := by decide +kernel
set_option maxRecDepth 100000 in
theorem ow_X4_isCell : mj_cw ie_X4_isCell := rfl
set_option maxRecDepth 100000 in
theorem om_X4_numbersSum : mj_chM vwCl RX4 ie_X4_numbersSum = true := by decide +kernel
set_option maxRecDepth 100000 in
theorem ow_X4_numbersSum : mj_cw ie_X4_numbersSum := rfl
set_option maxRecDepth 100000 in
theorem om_X4_mapValue : mj_chM vwCl RX4 ie_X4_mapValue = true := by decide +kernel
set_option maxRecDepth 100000 in
theorem ow_X4_mapValue : mj_cw ie_X4_mapValue := rfl
set_option maxRecDepth 100000 in
theorem om_X4_takeOverMaps : mj_chM vwCl RX4 ie_X4_takeOverMaps = true := by decide +kernel
set_option maxRecDepth 100000 in
theorem ow_X4_takeOverMaps : mj_cw ie_X4_takeOverMaps := rfl
set_option maxRecDepth 100000 in
theorem om_X4_lookOver : mj_chM vwCl RX4 ie_X4_lookOver = true := by decide +kernel
set_option maxRecDepth 100000 in
theorem ow_X4_lookOver : mj_cw ie_X4_lookOver := rfl
set_option maxRecDepth 100000 in
theorem om_X4_isValid : mj_chM vwCl RX4 ie_X4_isValid = true := by decide +kernel
set_option maxRecDepth 100000 in
theorem ow_X4_isValid : mj_cw ie_X4_isValid := rfl
set_option maxRecDepth 100000 in
theorem om_X4_sumOf : mj_chM vwCl RX4 ie_X4_sumOf = true := by decide +kernel
set_option maxRecDepth 100000 in
theorem ow_X4_sumOf : mj_cw ie_X4_sumOf := rfl
set_option maxRecDepth 100000 in
theorem om_X4_writeCopy : mj_chM vwCl RX4 ie_X4_writeCopy = true := by decide +kernel
set_option maxRecDepth 100000 in
theorem ow_X4_writeCopy : mj_cw ie_X4_writeCopy := rfl
set_option maxRecDepth 100000 in
theorem om_X4_writeWord : mj_chM vwCl RX4 ie_X4_writeWord = true := by decide +kernel
set_option maxRecDepth 100000 in
theorem ow_X4_writeWord : mj_cw ie_X4_writeWord := rfl
set_option maxRecDepth 100000 in
theorem om_X5_init : mj_chM vwCl RX5 ie_X5_init = true := by decide +kernel
set_option maxRecDepth 100000 in
theorem ow_X5_init : mj_cw ie_X5_init := rfl
set_option maxRecDepth 100000 in
theorem om_X5_stepTicks : mj_chM vwCl RX5 ie_X5_stepTicks = true := by decide +kernel
set_option maxRecDepth 100000 in
theorem ow_X5_stepTicks : mj_cw ie_X5_stepTicks := rfl
set_option maxRecDepth 100000 in
theorem om_X5_speedUp : mj_chM vwCl RX5 ie_X5_speedUp = true := by decide +kernel
set_option maxRecDepth 100000 in
theorem ow_X5_speedUp : mj_cw ie_X5_speedUp := rfl
set_option maxRecDepth 100000 in
theorem om_X5_slowDown : mj_chM vwCl RX5 ie_X5_slowDown = true := by decide +kernel
set_option maxRecDepth 100000 in
theorem ow_X5_slowDown : mj_cw ie_X5_slowDown := rfl
set_option maxRecDepth 100000 in
theorem om_X5_moveFlap : mj_chM vwCl RX5 ie_X5_moveFlap = true := by decide +kernel
set_option maxRecDepth 100000 in
theorem ow_X5_moveFlap : mj_cw ie_X5_moveFlap := rfl
set_option maxRecDepth 100000 in
theorem om_X5_warm : mj_chM vwCl RX5 ie_X5_warm = true := by decide +kernel
set_option maxRecDepth 100000 in
theorem ow_X5_warm : mj_cw ie_X5_warm := rfl
set_option maxRecDepth 100000 in
theorem om_X5_roll : mj_chM vwCl RX5 ie_X5_roll = true := by decide +kernel
set_option maxRecDepth 100000 in
theorem ow_X5_roll : mj_cw ie_X5_roll := rfl
set_option maxRecDepth 100000 in
theorem om_X6_init : mj_chM vwCl RX6 ie_X6_init = true := by decide +kernel
set_option maxRecDepth 100000 in
theorem ow_X6_init : mj_cw ie_X6_init := rfl
set_option maxRecDepth 100000 in
theorem om_X6_reset : mj_chM vwCl RX6 ie_X6_reset = true := by decide +kernel
set_option maxRecDepth 100000 in
theorem ow_X6_reset : mj_cw ie_X6_reset := rfl
set_option maxRecDepth 100000 in
theorem om_X6_put : mj_chM vwCl RX6 ie_X6_put = true := by decide +kernel
set_option maxRecDepth 100000 in
theorem ow_X6_put : mj_cw ie_X6_put := rfl
set_option maxRecDepth 100000 in
theorem om_X6_nextEvent : mj_chM vwCl RX6 ie_X6_nextEvent = true := by decide +kernel
set_option maxRecDepth 100000 in
theorem ow_X6_nextEvent : mj_cw ie_X6_nextEvent := rfl
set_option maxRecDepth 100000 in
theorem om_X6_happen : mj_chM vwCl RX6 ie_X6_happen = true := by decide +kernel
set_option maxRecDepth 100000 in
theorem ow_X6_happen : mj_cw ie_X6_happen := rfl
set_option maxRecDepth 100000 in
theorem om_X6_beginInjection : mj_chM vwCl RX6 ie_X6_beginInjection = true := by decide +kernel
set_option maxRecDepth 100000 in
theorem ow_X6_beginInjection : mj_cw ie_X6_beginInjection := rfl
set_option maxRecDepth 100000 in
theorem om_X6_takeOut : mj_chM vwCl RX6 ie_X6_takeOut = true := by decide +kernel
set_option maxRecDepth 100000 in
theorem ow_X6_takeOut : mj_cw ie_X6_takeOut := rfl
set_option maxRecDepth 100000 in
theorem om_X6_stopAll : mj_chM vwCl RX6 ie_X6_stopAll = true := by decide +kernel
set_option maxRecDepth 100000 in
theorem ow_X6_stopAll : mj_cw ie_X6_stopAll := rfl
set_option maxRecDepth 100000 in
theorem om_X6_keepEdge : mj_chM vwCl RX6 ie_X6_keepEdge = true := by decide +kernel
set_option maxRecDepth 100000 in
theorem ow_X6_keepEdge : mj_cw ie_X6_keepEdge := rfl
set_option maxRecDepth 100000 in
theorem om_X6_edgeNumber : mj_chM vwCl RX6 ie_X6_edgeNumber = true := by decide +kernel
set_option maxRecDepth 100000 in
theorem ow_X6_edgeNumber : mj_cw ie_X6_edgeNumber := rfl
set_option maxRecDepth 100000 in
theorem om_X6_takeStroke : mj_chM vwCl RX6 ie_X6_takeStroke = true := by decide +kernel
set_option maxRecDepth 100000 in
theorem ow_X6_takeStroke : mj_cw ie_X6_takeStroke := rfl
set_option maxRecDepth 100000 in
theorem om_X7_init : mj_chM vwCl RX7 ie_X7_init = true := by decide +kernel
set_option maxRecDepth 100000 in
theorem ow_X7_init : mj_cw ie_X7_init := rfl
set_option maxRecDepth 100000 in
theorem om_X7_reset : mj_chM vwCl RX7 ie_X7_reset = true := by decide +kernel
set_option maxRecDepth 100000 in
theorem ow_X7_reset : mj_cw ie_X7_reset := rfl
set_option maxRecDepth 100000 in
theorem om_X7_isPoint : mj_chM vwCl RX7 ie_X7_isPoint = true := by decide +kernel
set_option maxRecDepth 100000 in
theorem ow_X7_isPoint : mj_cw ie_X7_isPoint := rfl
set_option maxRecDepth 100000 in
theorem om_X7_lastX : mj_chM vwCl RX7 ie_X7_lastX = true := by decide +kernel
set_option maxRecDepth 100000 in
theorem ow_X7_lastX : mj_cw ie_X7_lastX := rfl
set_option maxRecDepth 100000 in
theorem om_X7_addPoint : mj_chM vwCl RX7 ie_X7_addPoint = true := by decide +kernel
set_option maxRecDepth 100000 in
theorem ow_X7_addPoint : mj_cw ie_X7_addPoint := rfl
set_option maxRecDepth 100000 in
theorem om_X7_lineValue : mj_chM vwCl RX7 ie_X7_lineValue = true := by decide +kernel
set_option maxRecDepth 100000 in
theorem ow_X7_lineValue : mj_cw ie_X7_lineValue := rfl
set_option maxRecDepth 100000 in
theorem om_X7_readAll : mj_chM vwCl RX7 ie_X7_readAll = true := by decide +kernel
set_option maxRecDepth 100000 in
theorem ow_X7_readAll : mj_cw ie_X7_readAll := rfl
set_option maxRecDepth 100000 in
theorem om_X8_init : mj_chM vwCl RX8 ie_X8_init = true := by decide +kernel
set_option maxRecDepth 100000 in
theorem ow_X8_init : mj_cw ie_X8_init := rfl
set_option maxRecDepth 100000 in
theorem om_X8_reset : mj_chM vwCl RX8 ie_X8_reset = true := by decide +kernel
set_option maxRecDepth 100000 in
theorem ow_X8_reset : mj_cw ie_X8_reset := rfl
set_option maxRecDepth 100000 in
theorem om_X8_tick : mj_chM vwCl RX8 ie_X8_tick = true := by decide +kernel
set_option maxRecDepth 100000 in
theorem ow_X8_tick : mj_cw ie_X8_tick := rfl
set_option maxRecDepth 100000 in
theorem om_X8_endSession : mj_chM vwCl RX8 ie_X8_endSession = true := by decide +kernel
set_option maxRecDepth 100000 in
theorem ow_X8_endSession : mj_cw ie_X8_endSession := rfl
set_option maxRecDepth 100000 in
theorem om_X8_close : mj_chM vwCl RX8 ie_X8_close = true := by decide +kernel
set_option maxRecDepth 100000 in
theorem ow_X8_close : mj_cw ie_X8_close := rfl
set_option maxRecDepth 100000 in
theorem om_X8_take : mj_chM vwCl RX8 ie_X8_take = true := by decide +kernel
set_option maxRecDepth 100000 in
theorem ow_X8_take : mj_cw ie_X8_take := rfl

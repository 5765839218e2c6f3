set_option maxRecDepth 100000 in
theorem okX0_init : xokM mX0_init = true := by decide +kernel
set_option maxRecDepth 100000 in
theorem okX0_startVerb : xokM mX0_startVerb = true := by decide +kernel
set_option maxRecDepth 100000 in
theorem okX0_copyFrom : xokM mX0_copyFrom = true := by decide +kernel
set_option maxRecDepth 100000 in
theorem okX0_members : xokM mX0_members = true := by decide +kernel
set_option maxRecDepth 100000 in
theorem okX1_init : xokM mX1_init = true := by decide +kernel
set_option maxRecDepth 100000 in
theorem okX1_size : xokM mX1_size = true := by decide +kernel
set_option maxRecDepth 100000 in
theorem okX1_total : xokM mX1_total = true := by decide +kernel
set_option maxRecDepth 100000 in
theorem okX1_startLine : xokM mX1_startLine = true := by decide +kernel
set_option maxRecDepth 100000 in
theorem okX1_areFull : xokM mX1_areFull = true := by decide +kernel
set_option maxRecDepth 100000 in
theorem okX1_at : xokM mX1_at = true := by decide +kernel
set_option maxRecDepth 100000 in
theorem okX1_latest : xokM mX1_latest = true := by decide +kernel
set_option maxRecDepth 100000 in
theorem okX1_keep : xokM mX1_keep = true := by decide +kernel
set_option maxRecDepth 100000 in
theorem okX2_init : xokM mX2_init = true := by decide +kernel
set_option maxRecDepth 100000 in
theorem okX2_faultNumber : xokM mX2_faultNumber = true := by decide +kernel
set_option maxRecDepth 100000 in
theorem okX2_faultPlace : xokM mX2_faultPlace = true := by decide +kernel
set_option maxRecDepth 100000 in
theorem okX2_begin : xokM mX2_begin = true := by decide +kernel
set_option maxRecDepth 100000 in
theorem okX2_readOrder : xokM mX2_readOrder = true := by decide +kernel
set_option maxRecDepth 100000 in
theorem okX2_skipStops : xokM mX2_skipStops = true := by decide +kernel
set_option maxRecDepth 100000 in
theorem okX2_isStop : xokM mX2_isStop = true := by decide +kernel
set_option maxRecDepth 100000 in
theorem okX2_isOrderEnd : xokM mX2_isOrderEnd = true := by decide +kernel
set_option maxRecDepth 100000 in
theorem okX2_isCommandAnd : xokM mX2_isCommandAnd = true := by decide +kernel
set_option maxRecDepth 100000 in
theorem okX2_readAgain : xokM mX2_readAgain = true := by decide +kernel
set_option maxRecDepth 100000 in
theorem okX2_readActor : xokM mX2_readActor = true := by decide +kernel
set_option maxRecDepth 100000 in
theorem okX2_readCommand : xokM mX2_readCommand = true := by decide +kernel
set_option maxRecDepth 100000 in
theorem okX2_keepDraft : xokM mX2_keepDraft = true := by decide +kernel
set_option maxRecDepth 100000 in
theorem okX2_readList : xokM mX2_readList = true := by decide +kernel
set_option maxRecDepth 100000 in
theorem okX2_skipSeparator : xokM mX2_skipSeparator = true := by decide +kernel
set_option maxRecDepth 100000 in
theorem okX2_readItem : xokM mX2_readItem = true := by decide +kernel
set_option maxRecDepth 100000 in
theorem okX2_isPronoun : xokM mX2_isPronoun = true := by decide +kernel
set_option maxRecDepth 100000 in
theorem okX2_isWhose : xokM mX2_isWhose = true := by decide +kernel
set_option maxRecDepth 100000 in
theorem okX2_isFromTable : xokM mX2_isFromTable = true := by decide +kernel
set_option maxRecDepth 100000 in
theorem okX2_pronounOf : xokM mX2_pronounOf = true := by decide +kernel
set_option maxRecDepth 100000 in
theorem okX2_isTableReady : xokM mX2_isTableReady = true := by decide +kernel
set_option maxRecDepth 100000 in
theorem okX2_ownersFor : xokM mX2_ownersFor = true := by decide +kernel

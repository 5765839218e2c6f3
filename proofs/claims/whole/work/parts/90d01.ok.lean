set_option maxRecDepth 100000 in
theorem okX2_readAll : xokM mX2_readAll = true := by decide +kernel
set_option maxRecDepth 100000 in
theorem okX2_readPronoun : xokM mX2_readPronoun = true := by decide +kernel
set_option maxRecDepth 100000 in
theorem okX2_readNames : xokM mX2_readNames = true := by decide +kernel
set_option maxRecDepth 100000 in
theorem okX2_failMisplaced : xokM mX2_failMisplaced = true := by decide +kernel
set_option maxRecDepth 100000 in
theorem okX2_fail : xokM mX2_fail = true := by decide +kernel
set_option maxRecDepth 100000 in
theorem okX3_init : xokM mX3_init = true := by decide +kernel
set_option maxRecDepth 100000 in
theorem okX3_meantBy : xokM mX3_meantBy = true := by decide +kernel
set_option maxRecDepth 100000 in
theorem okX3_learn : xokM mX3_learn = true := by decide +kernel
set_option maxRecDepth 100000 in
theorem okX4_init : xokM mX4_init = true := by decide +kernel
set_option maxRecDepth 100000 in
theorem okX4_size : xokM mX4_size = true := by decide +kernel
set_option maxRecDepth 100000 in
theorem okX4_clear : xokM mX4_clear = true := by decide +kernel
set_option maxRecDepth 100000 in
theorem okX4_append : xokM mX4_append = true := by decide +kernel
set_option maxRecDepth 100000 in
theorem okX4_at : xokM mX4_at = true := by decide +kernel
set_option maxRecDepth 100000 in
theorem okX4_letterAt : xokM mX4_letterAt = true := by decide +kernel
set_option maxRecDepth 100000 in
theorem okX4_keyAt : xokM mX4_keyAt = true := by decide +kernel
set_option maxRecDepth 100000 in
theorem okX4_isPlainWord : xokM mX4_isPlainWord = true := by decide +kernel
set_option maxRecDepth 100000 in
theorem okX5_init : xokM mX5_init = true := by decide +kernel
set_option maxRecDepth 100000 in
theorem okX5_size : xokM mX5_size = true := by decide +kernel
set_option maxRecDepth 100000 in
theorem okX5_members : xokM mX5_members = true := by decide +kernel
set_option maxRecDepth 100000 in
theorem okX5_at : xokM mX5_at = true := by decide +kernel
set_option maxRecDepth 100000 in
theorem okX5_clear : xokM mX5_clear = true := by decide +kernel
set_option maxRecDepth 100000 in
theorem okX5_add : xokM mX5_add = true := by decide +kernel
set_option maxRecDepth 100000 in
theorem okX5_remove : xokM mX5_remove = true := by decide +kernel
set_option maxRecDepth 100000 in
theorem okX5_copyFrom : xokM mX5_copyFrom = true := by decide +kernel
set_option maxRecDepth 100000 in
theorem okX6_init : xokM mX6_init = true := by decide +kernel
set_option maxRecDepth 100000 in
theorem okX6_size : xokM mX6_size = true := by decide +kernel
set_option maxRecDepth 100000 in
theorem okX6_has : xokM mX6_has = true := by decide +kernel
set_option maxRecDepth 100000 in
theorem okX6_add : xokM mX6_add = true := by decide +kernel
set_option maxRecDepth 100000 in
theorem okX6_isSeen : xokM mX6_isSeen = true := by decide +kernel
set_option maxRecDepth 100000 in
theorem okX6_seenOnes : xokM mX6_seenOnes = true := by decide +kernel
set_option maxRecDepth 100000 in
theorem okX6_setSeen : xokM mX6_setSeen = true := by decide +kernel
set_option maxRecDepth 100000 in
theorem okX6_kindOf : xokM mX6_kindOf = true := by decide +kernel
set_option maxRecDepth 100000 in
theorem okX6_setKind : xokM mX6_setKind = true := by decide +kernel
set_option maxRecDepth 100000 in
theorem okX6_isPerson : xokM mX6_isPerson = true := by decide +kernel
set_option maxRecDepth 100000 in
theorem okX6_setOwner : xokM mX6_setOwner = true := by decide +kernel
set_option maxRecDepth 100000 in
theorem okX6_ownedBy : xokM mX6_ownedBy = true := by decide +kernel
set_option maxRecDepth 100000 in
theorem okX7_init : xokM mX7_init = true := by decide +kernel
set_option maxRecDepth 100000 in
theorem okX7_kindAt : xokM mX7_kindAt = true := by decide +kernel
set_option maxRecDepth 100000 in
theorem okX7_wordAt : xokM mX7_wordAt = true := by decide +kernel
set_option maxRecDepth 100000 in
theorem okX7_placeAt : xokM mX7_placeAt = true := by decide +kernel
set_option maxRecDepth 100000 in
theorem okX7_split : xokM mX7_split = true := by decide +kernel
set_option maxRecDepth 100000 in
theorem okX7_leaveOnlyStrangeByte : xokM mX7_leaveOnlyStrangeByte = true := by decide +kernel
set_option maxRecDepth 100000 in
theorem okX7_addRow : xokM mX7_addRow = true := by decide +kernel
set_option maxRecDepth 100000 in
theorem okX7_kindOfSort : xokM mX7_kindOfSort = true := by decide +kernel
set_option maxRecDepth 100000 in
theorem okX7_add : xokM mX7_add = true := by decide +kernel
set_option maxRecDepth 100000 in
theorem okX8_init : xokM mX8_init = true := by decide +kernel
set_option maxRecDepth 100000 in
theorem okX8_size : xokM mX8_size = true := by decide +kernel
set_option maxRecDepth 100000 in
theorem okX8_has : xokM mX8_has = true := by decide +kernel
set_option maxRecDepth 100000 in
theorem okX8_fixedNumber : xokM mX8_fixedNumber = true := by decide +kernel
set_option maxRecDepth 100000 in
theorem okX8_find : xokM mX8_find = true := by decide +kernel
set_option maxRecDepth 100000 in
theorem okX8_add : xokM mX8_add = true := by decide +kernel
set_option maxRecDepth 100000 in
theorem okX8_sortOf : xokM mX8_sortOf = true := by decide +kernel
set_option maxRecDepth 100000 in
theorem okX8_rootOf : xokM mX8_rootOf = true := by decide +kernel
set_option maxRecDepth 100000 in
theorem okX8_setRoot : xokM mX8_setRoot = true := by decide +kernel
set_option maxRecDepth 100000 in
theorem okX8_isOwn : xokM mX8_isOwn = true := by decide +kernel
set_option maxRecDepth 100000 in
theorem okX8_isRootOfOthers : xokM mX8_isRootOfOthers = true := by decide +kernel
set_option maxRecDepth 100000 in
theorem okX8_isInUse : xokM mX8_isInUse = true := by decide +kernel
set_option maxRecDepth 100000 in
theorem okX8_formOf : xokM mX8_formOf = true := by decide +kernel
set_option maxRecDepth 100000 in
theorem okX8_setForm : xokM mX8_setForm = true := by decide +kernel
set_option maxRecDepth 100000 in
theorem okX8_nounsOf : xokM mX8_nounsOf = true := by decide +kernel
set_option maxRecDepth 100000 in
theorem okX8_adjectivesOf : xokM mX8_adjectivesOf = true := by decide +kernel

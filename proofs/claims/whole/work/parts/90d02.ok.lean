set_option maxRecDepth 100000 in
theorem okX8_addNamed : xokM mX8_addNamed = true := by decide +kernel
set_option maxRecDepth 100000 in
theorem okX9_init : xokM mX9_init = true := by decide +kernel
set_option maxRecDepth 100000 in
theorem okX9_thing : xokM mX9_thing = true := by decide +kernel
set_option maxRecDepth 100000 in
theorem okX9_see : xokM mX9_see = true := by decide +kernel
set_option maxRecDepth 100000 in
theorem okX9_own : xokM mX9_own = true := by decide +kernel
set_option maxRecDepth 100000 in
theorem okX9_turn : xokM mX9_turn = true := by decide +kernel
set_option maxRecDepth 100000 in
theorem okX9_feed : xokM mX9_feed = true := by decide +kernel
set_option maxRecDepth 100000 in
theorem okX9_word : xokM mX9_word = true := by decide +kernel
set_option maxRecDepth 100000 in
theorem okX9_name : xokM mX9_name = true := by decide +kernel
set_option maxRecDepth 100000 in
theorem okX9_form : xokM mX9_form = true := by decide +kernel
set_option maxRecDepth 100000 in
theorem okX9_same : xokM mX9_same = true := by decide +kernel
set_option maxRecDepth 100000 in
theorem okX9_line : xokM mX9_line = true := by decide +kernel
set_option maxRecDepth 100000 in
theorem okX9_fault : xokM mX9_fault = true := by decide +kernel
set_option maxRecDepth 100000 in
theorem okX9_order : xokM mX9_order = true := by decide +kernel
set_option maxRecDepth 100000 in
theorem okX9_given : xokM mX9_given = true := by decide +kernel
set_option maxRecDepth 100000 in
theorem okX9_table : xokM mX9_table = true := by decide +kernel
set_option maxRecDepth 100000 in
theorem okX9_count : xokM mX9_count = true := by decide +kernel
set_option maxRecDepth 100000 in
theorem okX9_isBelow : xokM mX9_isBelow = true := by decide +kernel
set_option maxRecDepth 100000 in
theorem okX9_isIn : xokM mX9_isIn = true := by decide +kernel
set_option maxRecDepth 100000 in
theorem okX9_bitOf : xokM mX9_bitOf = true := by decide +kernel
set_option maxRecDepth 100000 in
theorem okX10_init_0 : xokIs mX10_init.2.2.2.2.1 mX10_init.2.1 mX10_init.1.name pX10_init 0 ((pX10_init.drop 0).take 55) = true := by decide +kernel
set_option maxRecDepth 100000 in
theorem okX10_init_1 : xokIs mX10_init.2.2.2.2.1 mX10_init.2.1 mX10_init.1.name pX10_init 55 ((pX10_init.drop 55).take 55) = true := by decide +kernel
set_option maxRecDepth 100000 in
theorem okX10_init_2 : xokIs mX10_init.2.2.2.2.1 mX10_init.2.1 mX10_init.1.name pX10_init 110 ((pX10_init.drop 110).take 55) = true := by decide +kernel

set_option maxRecDepth 100000 in
theorem okX10_init_3 : xokIs mX10_init.2.2.2.2.1 mX10_init.2.1 mX10_init.1.name pX10_init 165 ((pX10_init.drop 165).take 32) = true := by decide +kernel
set_option maxRecDepth 100000 in
theorem okX10_init_h : xokH mX10_init = true := by decide +kernel
theorem okX10_init : xokM mX10_init = true := xokM_of okX10_init_h (by decide +kernel) (by decide +kernel) (xokIs_cut 0 55 okX10_init_0 (xokIs_cut 55 55 okX10_init_1 (xokIs_cut 110 55 okX10_init_2 (xokIs_cut 165 32 okX10_init_3 (rfl)))))
set_option maxRecDepth 100000 in
theorem okX10_isIn : xokM mX10_isIn = true := by decide +kernel
set_option maxRecDepth 100000 in
theorem okX10_isThing : xokM mX10_isThing = true := by decide +kernel
set_option maxRecDepth 100000 in
theorem okX10_isWord : xokM mX10_isWord = true := by decide +kernel
set_option maxRecDepth 100000 in
theorem okX10_thing : xokM mX10_thing = true := by decide +kernel
set_option maxRecDepth 100000 in
theorem okX10_see : xokM mX10_see = true := by decide +kernel
set_option maxRecDepth 100000 in
theorem okX10_own : xokM mX10_own = true := by decide +kernel
set_option maxRecDepth 100000 in
theorem okX10_turn : xokM mX10_turn = true := by decide +kernel
set_option maxRecDepth 100000 in
theorem okX10_feed : xokM mX10_feed = true := by decide +kernel
set_option maxRecDepth 100000 in
theorem okX10_fixedOf : xokM mX10_fixedOf = true := by decide +kernel
set_option maxRecDepth 100000 in
theorem okX10_wordOf : xokM mX10_wordOf = true := by decide +kernel
set_option maxRecDepth 100000 in
theorem okX10_word : xokM mX10_word = true := by decide +kernel
set_option maxRecDepth 100000 in
theorem okX10_name : xokM mX10_name = true := by decide +kernel
set_option maxRecDepth 100000 in
theorem okX10_form : xokM mX10_form = true := by decide +kernel
set_option maxRecDepth 100000 in
theorem okX10_same : xokM mX10_same = true := by decide +kernel
set_option maxRecDepth 100000 in
theorem okX10_isLetter : xokM mX10_isLetter = true := by decide +kernel
set_option maxRecDepth 100000 in
theorem okX10_cuts_0 : xokIs mX10_cuts.2.2.2.2.1 mX10_cuts.2.1 mX10_cuts.1.name pX10_cuts 0 ((pX10_cuts.drop 0).take 55) = true := by decide +kernel
set_option maxRecDepth 100000 in
theorem okX10_cuts_1 : xokIs mX10_cuts.2.2.2.2.1 mX10_cuts.2.1 mX10_cuts.1.name pX10_cuts 55 ((pX10_cuts.drop 55).take 55) = true := by decide +kernel

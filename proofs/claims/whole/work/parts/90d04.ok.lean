set_option maxRecDepth 100000 in
theorem okX10_cuts_2 : xokIs mX10_cuts.2.2.2.2.1 mX10_cuts.2.1 mX10_cuts.1.name pX10_cuts 110 ((pX10_cuts.drop 110).take 52) = true := by decide +kernel
set_option maxRecDepth 100000 in
theorem okX10_cuts_h : xokH mX10_cuts = true := by decide +kernel
theorem okX10_cuts : xokM mX10_cuts = true := xokM_of okX10_cuts_h (by decide +kernel) (by decide +kernel) (xokIs_cut 0 55 okX10_cuts_0 (xokIs_cut 55 55 okX10_cuts_1 (xokIs_cut 110 52 okX10_cuts_2 (rfl))))
set_option maxRecDepth 100000 in
theorem okX10_comes : xokM mX10_comes = true := by decide +kernel
set_option maxRecDepth 100000 in
theorem okX10_fails : xokM mX10_fails = true := by decide +kernel
set_option maxRecDepth 100000 in
theorem okX10_wrong : xokM mX10_wrong = true := by decide +kernel
set_option maxRecDepth 100000 in
theorem okX10_isSort : xokM mX10_isSort = true := by decide +kernel
set_option maxRecDepth 100000 in
theorem okX10_isVerbBehind : xokM mX10_isVerbBehind = true := by decide +kernel
set_option maxRecDepth 100000 in
theorem okX10_tableMeans : xokM mX10_tableMeans = true := by decide +kernel
set_option maxRecDepth 100000 in
theorem okX10_oneMeans : xokM mX10_oneMeans = true := by decide +kernel
set_option maxRecDepth 100000 in
theorem okX10_item_0 : xokIs mX10_item.2.2.2.2.1 mX10_item.2.1 mX10_item.1.name pX10_item 0 ((pX10_item.drop 0).take 55) = true := by decide +kernel
set_option maxRecDepth 100000 in
theorem okX10_item_1 : xokIs mX10_item.2.2.2.2.1 mX10_item.2.1 mX10_item.1.name pX10_item 55 ((pX10_item.drop 55).take 55) = true := by decide +kernel

set_option maxRecDepth 100000 in
theorem okX10_items_0 : xokIs mX10_items.2.2.2.2.1 mX10_items.2.1 mX10_items.1.name pX10_items 0 ((pX10_items.drop 0).take 55) = true := by decide +kernel
set_option maxRecDepth 100000 in
theorem okX10_items_1 : xokIs mX10_items.2.2.2.2.1 mX10_items.2.1 mX10_items.1.name pX10_items 55 ((pX10_items.drop 55).take 55) = true := by decide +kernel
set_option maxRecDepth 100000 in
theorem okX10_items_2 : xokIs mX10_items.2.2.2.2.1 mX10_items.2.1 mX10_items.1.name pX10_items 110 ((pX10_items.drop 110).take 26) = true := by decide +kernel
set_option maxRecDepth 100000 in
theorem okX10_items_h : xokH mX10_items = true := by decide +kernel
theorem okX10_items : xokM mX10_items = true := xokM_of okX10_items_h (by decide +kernel) (by decide +kernel) (xokIs_cut 0 55 okX10_items_0 (xokIs_cut 55 55 okX10_items_1 (xokIs_cut 110 26 okX10_items_2 (rfl))))
set_option maxRecDepth 100000 in
theorem okX10_list : xokM mX10_list = true := by decide +kernel
set_option maxRecDepth 100000 in
theorem okX10_keeps : xokM mX10_keeps = true := by decide +kernel
set_option maxRecDepth 100000 in
theorem okX10_sets : xokM mX10_sets = true := by decide +kernel
set_option maxRecDepth 100000 in
theorem okX10_understood : xokM mX10_understood = true := by decide +kernel
set_option maxRecDepth 100000 in
theorem okX10_command_0 : xokIs mX10_command.2.2.2.2.1 mX10_command.2.1 mX10_command.1.name pX10_command 0 ((pX10_command.drop 0).take 55) = true := by decide +kernel
set_option maxRecDepth 100000 in
theorem okX10_command_1 : xokIs mX10_command.2.2.2.2.1 mX10_command.2.1 mX10_command.1.name pX10_command 55 ((pX10_command.drop 55).take 55) = true := by decide +kernel

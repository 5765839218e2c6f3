set_option maxRecDepth 100000 in
theorem okX10_command_2 : xokIs mX10_command.2.2.2.2.1 mX10_command.2.1 mX10_command.1.name pX10_command 110 ((pX10_command.drop 110).take 55) = true := by decide +kernel
set_option maxRecDepth 100000 in
theorem okX10_command_3 : xokIs mX10_command.2.2.2.2.1 mX10_command.2.1 mX10_command.1.name pX10_command 165 ((pX10_command.drop 165).take 30) = true := by decide +kernel
set_option maxRecDepth 100000 in
theorem okX10_command_h : xokH mX10_command = true := by decide +kernel
theorem okX10_command : xokM mX10_command = true := xokM_of okX10_command_h (by decide +kernel) (by decide +kernel) (xokIs_cut 0 55 okX10_command_0 (xokIs_cut 55 55 okX10_command_1 (xokIs_cut 110 55 okX10_command_2 (xokIs_cut 165 30 okX10_command_3 (rfl)))))
set_option maxRecDepth 100000 in
theorem okX10_commands : xokM mX10_commands = true := by decide +kernel
set_option maxRecDepth 100000 in
theorem okX10_again_0 : xokIs mX10_again.2.2.2.2.1 mX10_again.2.1 mX10_again.1.name pX10_again 0 ((pX10_again.drop 0).take 55) = true := by decide +kernel
set_option maxRecDepth 100000 in
theorem okX10_again_1 : xokIs mX10_again.2.2.2.2.1 mX10_again.2.1 mX10_again.1.name pX10_again 55 ((pX10_again.drop 55).take 55) = true := by decide +kernel
set_option maxRecDepth 100000 in
theorem okX10_again_2 : xokIs mX10_again.2.2.2.2.1 mX10_again.2.1 mX10_again.1.name pX10_again 110 ((pX10_again.drop 110).take 55) = true := by decide +kernel
set_option maxRecDepth 100000 in
theorem okX10_again_3 : xokIs mX10_again.2.2.2.2.1 mX10_again.2.1 mX10_again.1.name pX10_again 165 ((pX10_again.drop 165).take 13) = true := by decide +kernel
set_option maxRecDepth 100000 in
theorem okX10_again_h : xokH mX10_again = true := by decide +kernel
theorem okX10_again : xokM mX10_again = true := xokM_of okX10_again_h (by decide +kernel) (by decide +kernel) (xokIs_cut 0 55 okX10_again_0 (xokIs_cut 55 55 okX10_again_1 (xokIs_cut 110 55 okX10_again_2 (xokIs_cut 165 13 okX10_again_3 (rfl)))))
set_option maxRecDepth 100000 in
theorem okX10_someone : xokM mX10_someone = true := by decide +kernel
set_option maxRecDepth 100000 in
theorem okX10_order : xokM mX10_order = true := by decide +kernel
set_option maxRecDepth 100000 in
theorem okX10_isBetween : xokM mX10_isBetween = true := by decide +kernel
set_option maxRecDepth 100000 in
theorem okX10_line : xokM mX10_line = true := by decide +kernel

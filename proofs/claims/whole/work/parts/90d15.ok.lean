set_option maxRecDepth 100000 in
theorem okX10_command_1 : xokIs mX10_command.2.2.2.2.1 mX10_command.2.1 mX10_command.1.name pX10_command 55 ((pX10_command.drop 55).take 55) = true := by decide +kernel
set_option maxRecDepth 100000 in
theorem okX10_command_2 : xokIs mX10_command.2.2.2.2.1 mX10_command.2.1 mX10_command.1.name pX10_command 110 ((pX10_command.drop 110).take 55) = true := by decide +kernel
set_option maxRecDepth 100000 in
theorem okX10_command_3 : xokIs mX10_command.2.2.2.2.1 mX10_command.2.1 mX10_command.1.name pX10_command 165 ((pX10_command.drop 165).take 30) = true := by decide +kernel

set_option maxRecDepth 100000 in
theorem okX10_sets : xokM mX10_sets = true := xokM_of (xokH_of (List.mem_of_getElem? (i := 1087) rfl) (by decide +kernel)) (by decide +kernel) (by decide +kernel) (by decide +kernel)
set_option maxRecDepth 100000 in
theorem okX10_understood : xokM mX10_understood = true := xokM_of (xokH_of (List.mem_of_getElem? (i := 1091) rfl) (by decide +kernel)) (by decide +kernel) (by decide +kernel) (by decide +kernel)
set_option maxRecDepth 100000 in
theorem okX10_command_0 : xokIs mX10_command.2.2.2.2.1 mX10_command.2.1 mX10_command.1.name pX10_command 0 ((pX10_command.drop 0).take 55) = true := by decide +kernel

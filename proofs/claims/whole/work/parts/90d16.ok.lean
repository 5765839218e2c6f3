set_option maxRecDepth 100000 in
theorem okX10_command_h : xokH mX10_command = true := xokH_of (List.mem_of_getElem? (i := 1063) rfl) (by decide +kernel)
theorem okX10_command : xokM mX10_command = true := xokM_of okX10_command_h (by decide +kernel) (by decide +kernel) (xokIs_cut 0 55 okX10_command_0 (xokIs_cut 55 55 okX10_command_1 (xokIs_cut 110 55 okX10_command_2 (xokIs_cut 165 30 okX10_command_3 (rfl)))))
set_option maxRecDepth 100000 in
theorem okX10_commands : xokM mX10_commands = true := xokM_of (xokH_of (List.mem_of_getElem? (i := 1059) rfl) (by decide +kernel)) (by decide +kernel) (by decide +kernel) (by decide +kernel)
set_option maxRecDepth 100000 in
theorem okX10_again_0 : xokIs mX10_again.2.2.2.2.1 mX10_again.2.1 mX10_again.1.name pX10_again 0 ((pX10_again.drop 0).take 55) = true := by decide +kernel

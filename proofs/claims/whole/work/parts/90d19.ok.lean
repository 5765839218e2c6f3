set_option maxRecDepth 100000 in
theorem okX10_isBetween : xokM mX10_isBetween = true := xokM_of (xokH_of (List.mem_of_getElem? (i := 1023) rfl) (by decide +kernel)) (by decide +kernel) (by decide +kernel) (by decide +kernel)
set_option maxRecDepth 100000 in
theorem okX10_line : xokM mX10_line = true := xokM_of (xokH_of (List.mem_of_getElem? (i := 1004) rfl) (by decide +kernel)) (by decide +kernel) (by decide +kernel) (by decide +kernel)
set_option maxRecDepth 100000 in
theorem okX10_fault : xokM mX10_fault = true := xokM_of (xokH_of (List.mem_of_getElem? (i := 1095) rfl) (by decide +kernel)) (by decide +kernel) (by decide +kernel) (by decide +kernel)

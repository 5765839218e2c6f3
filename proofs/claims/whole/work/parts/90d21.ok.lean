set_option maxRecDepth 100000 in
theorem okX10_count : xokM mX10_count = true := xokM_of (xokH_of (List.mem_of_getElem? (i := 1111) rfl) (by decide +kernel)) (by decide +kernel) (by decide +kernel) (by decide +kernel)
set_option maxRecDepth 100000 in
theorem okJ7_fill_53178 : xokM mJ7_fill_53178 = true := xokM_of (xokH_of (List.mem_of_getElem? (i := 78) rfl) (by decide +kernel)) (by decide +kernel) (by decide +kernel) (by decide +kernel)

set_option maxRecDepth 100000 in
theorem okX10_order_ : xokM mX10_order_ = true := xokM_of (xokH_of (List.mem_of_getElem? (i := 1099) rfl) (by decide +kernel)) (by decide +kernel) (by decide +kernel) (by decide +kernel)
set_option maxRecDepth 100000 in
theorem okX10_given : xokM mX10_given = true := xokM_of (xokH_of (List.mem_of_getElem? (i := 1103) rfl) (by decide +kernel)) (by decide +kernel) (by decide +kernel) (by decide +kernel)
set_option maxRecDepth 100000 in
theorem okX10_table : xokM mX10_table = true := xokM_of (xokH_of (List.mem_of_getElem? (i := 1107) rfl) (by decide +kernel)) (by decide +kernel) (by decide +kernel) (by decide +kernel)

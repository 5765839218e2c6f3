set_option maxRecDepth 100000 in
theorem okX10_items_h : xokH mX10_items = true := xokH_of (List.mem_of_getElem? (i := 1071) rfl) (by decide +kernel)
theorem okX10_items : xokM mX10_items = true := xokM_of okX10_items_h (by decide +kernel) (by decide +kernel) (xokIs_cut 0 55 okX10_items_0 (xokIs_cut 55 55 okX10_items_1 (xokIs_cut 110 26 okX10_items_2 (rfl))))
set_option maxRecDepth 100000 in
theorem okX10_list : xokM mX10_list = true := xokM_of (xokH_of (List.mem_of_getElem? (i := 1067) rfl) (by decide +kernel)) (by decide +kernel) (by decide +kernel) (by decide +kernel)
set_option maxRecDepth 100000 in
theorem okX10_keeps : xokM mX10_keeps = true := xokM_of (xokH_of (List.mem_of_getElem? (i := 1083) rfl) (by decide +kernel)) (by decide +kernel) (by decide +kernel) (by decide +kernel)

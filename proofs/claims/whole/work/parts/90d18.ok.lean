set_option maxRecDepth 100000 in
theorem okX10_again_h : xokH mX10_again = true := xokH_of (List.mem_of_getElem? (i := 1031) rfl) (by decide +kernel)
theorem okX10_again : xokM mX10_again = true := xokM_of okX10_again_h (by decide +kernel) (by decide +kernel) (xokIs_cut 0 55 okX10_again_0 (xokIs_cut 55 55 okX10_again_1 (xokIs_cut 110 55 okX10_again_2 (xokIs_cut 165 13 okX10_again_3 (rfl)))))
set_option maxRecDepth 100000 in
theorem okX10_someone : xokM mX10_someone = true := xokM_of (xokH_of (List.mem_of_getElem? (i := 1039) rfl) (by decide +kernel)) (by decide +kernel) (by decide +kernel) (by decide +kernel)
set_option maxRecDepth 100000 in
theorem okX10_order : xokM mX10_order = true := xokM_of (xokH_of (List.mem_of_getElem? (i := 1027) rfl) (by decide +kernel)) (by decide +kernel) (by decide +kernel) (by decide +kernel)

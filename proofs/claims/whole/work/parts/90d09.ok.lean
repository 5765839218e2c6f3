set_option maxRecDepth 100000 in
theorem okX10_item_h : xokH mX10_item = true := xokH_of (List.mem_of_getElem? (i := 1043) rfl) (by decide +kernel)
theorem okX10_item : xokM mX10_item = true := xokM_of okX10_item_h (by decide +kernel) (by decide +kernel) (xokIs_cut 0 55 okX10_item_0 (xokIs_cut 55 55 okX10_item_1 (xokIs_cut 110 55 okX10_item_2 (xokIs_cut 165 55 okX10_item_3 (xokIs_cut 220 55 okX10_item_4 (xokIs_cut 275 55 okX10_item_5 (xokIs_cut 330 43 okX10_item_6 (rfl))))))))
set_option maxRecDepth 100000 in
theorem okX10_placeIn : xokM mX10_placeIn = true := xokM_of (xokH_of (List.mem_of_getElem? (i := 1075) rfl) (by decide +kernel)) (by decide +kernel) (by decide +kernel) (by decide +kernel)

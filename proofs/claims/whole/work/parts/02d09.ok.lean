set_option maxRecDepth 100000 in
theorem okX10_fault : xokM mX10_fault = true := by decide +kernel
set_option maxRecDepth 100000 in
theorem okX10_order_ : xokM mX10_order_ = true := by decide +kernel
set_option maxRecDepth 100000 in
theorem okX10_given : xokM mX10_given = true := by decide +kernel
set_option maxRecDepth 100000 in
theorem okX10_table : xokM mX10_table = true := by decide +kernel
set_option maxRecDepth 100000 in
theorem okX10_count : xokM mX10_count = true := by decide +kernel
set_option maxRecDepth 100000 in
theorem okJ7_fill_53178 : xokM mJ7_fill_53178 = true := by decide +kernel

set_option maxRecDepth 100000 in
theorem okX10_items_0 : xokIs mX10_items.2.2.2.2.1 mX10_items.2.1 mX10_items.1.name pX10_items 0 ((pX10_items.drop 0).take 55) = true := by decide +kernel

set_option maxRecDepth 100000 in
theorem okX10_items_2 : xokIs mX10_items.2.2.2.2.1 mX10_items.2.1 mX10_items.1.name pX10_items 110 ((pX10_items.drop 110).take 26) = true := by decide +kernel

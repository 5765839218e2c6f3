set_option maxRecDepth 100000 in
theorem okX10_item_5 : xokIs mX10_item.2.2.2.2.1 mX10_item.2.1 mX10_item.1.name pX10_item 275 ((pX10_item.drop 275).take 55) = true := by decide +kernel

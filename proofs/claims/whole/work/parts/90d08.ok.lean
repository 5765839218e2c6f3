set_option maxRecDepth 100000 in
theorem okX10_item_6 : xokIs mX10_item.2.2.2.2.1 mX10_item.2.1 mX10_item.1.name pX10_item 330 ((pX10_item.drop 330).take 43) = true := by decide +kernel

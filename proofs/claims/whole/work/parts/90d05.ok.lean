set_option maxRecDepth 100000 in
theorem okX10_item_2 : xokIs mX10_item.2.2.2.2.1 mX10_item.2.1 mX10_item.1.name pX10_item 110 ((pX10_item.drop 110).take 55) = true := by decide +kernel
set_option maxRecDepth 100000 in
theorem okX10_item_3 : xokIs mX10_item.2.2.2.2.1 mX10_item.2.1 mX10_item.1.name pX10_item 165 ((pX10_item.drop 165).take 55) = true := by decide +kernel

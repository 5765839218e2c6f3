set_option maxRecDepth 100000 in
theorem okX10_again_1 : xokIs mX10_again.2.2.2.2.1 mX10_again.2.1 mX10_again.1.name pX10_again 55 ((pX10_again.drop 55).take 55) = true := by decide +kernel
set_option maxRecDepth 100000 in
theorem okX10_again_2 : xokIs mX10_again.2.2.2.2.1 mX10_again.2.1 mX10_again.1.name pX10_again 110 ((pX10_again.drop 110).take 55) = true := by decide +kernel
set_option maxRecDepth 100000 in
theorem okX10_again_3 : xokIs mX10_again.2.2.2.2.1 mX10_again.2.1 mX10_again.1.name pX10_again 165 ((pX10_again.drop 165).take 13) = true := by decide +kernel

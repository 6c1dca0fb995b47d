set_option maxRecDepth 100000 in
theorem ok_274_0 : r_274_0.all (aRow 13 false (some .boolean) code) = true := by decide +kernel
set_option maxRecDepth 100000 in
theorem ok_274_1 : r_274_1.all (aRow 13 false (some .boolean) code) = true := by decide +kernel
set_option maxRecDepth 100000 in
theorem ok_274_2 : r_274_2.all (aRow 13 false (some .boolean) code) = true := by decide +kernel

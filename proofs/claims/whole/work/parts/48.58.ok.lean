set_option maxRecDepth 100000 in
theorem ok_274_6 : r_274_6.all (aRow 13 false (some .boolean) code) = true := by decide +kernel
set_option maxRecDepth 100000 in
theorem ok_274_7 : r_274_7.all (aRow 13 false (some .boolean) code) = true := by decide +kernel
set_option maxRecDepth 100000 in
theorem ok_274_8 : r_274_8.all (aRow 13 false (some .boolean) code) = true := by decide +kernel

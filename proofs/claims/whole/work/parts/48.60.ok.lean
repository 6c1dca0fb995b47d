set_option maxRecDepth 100000 in
theorem ok_274_12 : r_274_12.all (aRow 13 false (some .boolean) code) = true := by decide +kernel
set_option maxRecDepth 100000 in
theorem ok_274_13 : r_274_13.all (aRow 13 false (some .boolean) code) = true := by decide +kernel
set_option maxRecDepth 100000 in
theorem ok_274_14 : r_274_14.all (aRow 13 false (some .boolean) code) = true := by decide +kernel

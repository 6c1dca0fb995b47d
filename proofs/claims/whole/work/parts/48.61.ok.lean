set_option maxRecDepth 100000 in
theorem ok_274_15 : r_274_15.all (aRow 13 false (some .boolean) code) = true := by decide +kernel
set_option maxRecDepth 100000 in
theorem ok_274_16 : r_274_16.all (aRow 13 false (some .boolean) code) = true := by decide +kernel
set_option maxRecDepth 100000 in
theorem ok_274_17 : r_274_17.all (aRow 13 false (some .boolean) code) = true := by decide +kernel

set_option maxRecDepth 100000 in
theorem ok_274_9 : r_274_9.all (aRow 13 false (some .boolean) code) = true := by decide +kernel
set_option maxRecDepth 100000 in
theorem ok_274_10 : r_274_10.all (aRow 13 false (some .boolean) code) = true := by decide +kernel
set_option maxRecDepth 100000 in
theorem ok_274_11 : r_274_11.all (aRow 13 false (some .boolean) code) = true := by decide +kernel

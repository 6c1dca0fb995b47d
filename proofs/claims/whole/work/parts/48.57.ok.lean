set_option maxRecDepth 100000 in
theorem ok_274_3 : r_274_3.all (aRow 13 false (some .boolean) code) = true := by decide +kernel
set_option maxRecDepth 100000 in
theorem ok_274_4 : r_274_4.all (aRow 13 false (some .boolean) code) = true := by decide +kernel
set_option maxRecDepth 100000 in
theorem ok_274_5 : r_274_5.all (aRow 13 false (some .boolean) code) = true := by decide +kernel

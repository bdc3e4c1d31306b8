set_option maxRecDepth 100000 in
theorem dz_3_0 : dz lk_3 0 = 5296 := by decide +kernel
set_option maxRecDepth 100000 in
theorem dz_3_1 : dz lk_3 1 = 5296 := by decide +kernel
set_option maxRecDepth 100000 in
theorem dz_3_2 : dz lk_3 2 = 5296 := by decide +kernel
set_option maxRecDepth 100000 in
theorem dz_3_3 : dz lk_3 3 = 5296 := by decide +kernel
set_option maxRecDepth 100000 in
theorem dz_3_4 : dz lk_3 4 = 5296 := by decide +kernel
set_option maxRecDepth 100000 in
theorem dz_3_5 : dz lk_3 5 = 5226 := by decide +kernel
set_option maxRecDepth 100000 in
theorem dz_3_6 : dz lk_3 6 = 4875 := by decide +kernel
set_option maxRecDepth 100000 in
theorem dz_3_7 : dz lk_3 7 = 4875 := by decide +kernel
set_option maxRecDepth 100000 in
theorem dz_3_8 : dz lk_3 8 = 4521 := by decide +kernel
set_option maxRecDepth 100000 in
theorem dz_3_9 : dz lk_3 9 = 4311 := by decide +kernel

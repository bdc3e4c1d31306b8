set_option maxRecDepth 100000 in
theorem dz_1_0 : dz lk_1 0 = 6258 := by decide +kernel
set_option maxRecDepth 100000 in
theorem dz_1_1 : dz lk_1 1 = 6258 := by decide +kernel
set_option maxRecDepth 100000 in
theorem dz_1_2 : dz lk_1 2 = 6258 := by decide +kernel
set_option maxRecDepth 100000 in
theorem dz_1_3 : dz lk_1 3 = 6258 := by decide +kernel
set_option maxRecDepth 100000 in
theorem dz_1_4 : dz lk_1 4 = 6258 := by decide +kernel
set_option maxRecDepth 100000 in
theorem dz_1_5 : dz lk_1 5 = 6258 := by decide +kernel
set_option maxRecDepth 100000 in
theorem dz_1_6 : dz lk_1 6 = 6258 := by decide +kernel
set_option maxRecDepth 100000 in
theorem dz_1_7 : dz lk_1 7 = 6258 := by decide +kernel
set_option maxRecDepth 100000 in
theorem dz_1_8 : dz lk_1 8 = 6258 := by decide +kernel
set_option maxRecDepth 100000 in
theorem dz_1_9 : dz lk_1 9 = 6258 := by decide +kernel

set_option maxRecDepth 100000 in
theorem dz_4_0 : dz lk_4 0 = 4320 := by decide +kernel
set_option maxRecDepth 100000 in
theorem dz_4_1 : dz lk_4 1 = 4320 := by decide +kernel
set_option maxRecDepth 100000 in
theorem dz_4_2 : dz lk_4 2 = 4320 := by decide +kernel
set_option maxRecDepth 100000 in
theorem dz_4_3 : dz lk_4 3 = 4320 := by decide +kernel
set_option maxRecDepth 100000 in
theorem dz_4_4 : dz lk_4 4 = 4320 := by decide +kernel
set_option maxRecDepth 100000 in
theorem dz_4_5 : dz lk_4 5 = 4250 := by decide +kernel
set_option maxRecDepth 100000 in
theorem dz_4_6 : dz lk_4 6 = 3899 := by decide +kernel
set_option maxRecDepth 100000 in
theorem dz_4_7 : dz lk_4 7 = 3899 := by decide +kernel
set_option maxRecDepth 100000 in
theorem dz_4_8 : dz lk_4 8 = 3545 := by decide +kernel
set_option maxRecDepth 100000 in
theorem dz_4_9 : dz lk_4 9 = 3335 := by decide +kernel

set_option maxRecDepth 100000 in
theorem dz_2_0 : dz lk_2 0 = 7125 := by decide +kernel
set_option maxRecDepth 100000 in
theorem dz_2_1 : dz lk_2 1 = 7125 := by decide +kernel
set_option maxRecDepth 100000 in
theorem dz_2_2 : dz lk_2 2 = 7125 := by decide +kernel
set_option maxRecDepth 100000 in
theorem dz_2_3 : dz lk_2 3 = 7125 := by decide +kernel
set_option maxRecDepth 100000 in
theorem dz_2_4 : dz lk_2 4 = 7125 := by decide +kernel
set_option maxRecDepth 100000 in
theorem dz_2_5 : dz lk_2 5 = 7125 := by decide +kernel
set_option maxRecDepth 100000 in
theorem dz_2_6 : dz lk_2 6 = 7125 := by decide +kernel
set_option maxRecDepth 100000 in
theorem dz_2_7 : dz lk_2 7 = 7125 := by decide +kernel
set_option maxRecDepth 100000 in
theorem dz_2_8 : dz lk_2 8 = 7125 := by decide +kernel
set_option maxRecDepth 100000 in
theorem dz_2_9 : dz lk_2 9 = 7125 := by decide +kernel

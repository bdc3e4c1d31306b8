set_option maxRecDepth 100000 in
theorem dz_0_0 : dz lk_0 0 = 6444 := by decide +kernel
set_option maxRecDepth 100000 in
theorem dz_0_1 : dz lk_0 1 = 6444 := by decide +kernel
set_option maxRecDepth 100000 in
theorem dz_0_2 : dz lk_0 2 = 6444 := by decide +kernel
set_option maxRecDepth 100000 in
theorem dz_0_3 : dz lk_0 3 = 6444 := by decide +kernel
set_option maxRecDepth 100000 in
theorem dz_0_4 : dz lk_0 4 = 6444 := by decide +kernel
set_option maxRecDepth 100000 in
theorem dz_0_5 : dz lk_0 5 = 6377 := by decide +kernel
set_option maxRecDepth 100000 in
theorem dz_0_6 : dz lk_0 6 = 6023 := by decide +kernel
set_option maxRecDepth 100000 in
theorem dz_0_7 : dz lk_0 7 = 6023 := by decide +kernel
set_option maxRecDepth 100000 in
theorem dz_0_8 : dz lk_0 8 = 5669 := by decide +kernel
set_option maxRecDepth 100000 in
theorem dz_0_9 : dz lk_0 9 = 5318 := by decide +kernel

theorem dy_0 : dy lk_0 = 123260 := by
  unfold dy
  rw [show lk_0.1.2.2 = 0 from rfl, dz_0_0, dz_0_1, dz_0_2, dz_0_3, dz_0_4, dz_0_5, dz_0_6, dz_0_7, dz_0_8, dz_0_9]
theorem dy_1 : dy lk_1 = 125160 := by
  unfold dy
  rw [show lk_1.1.2.2 = 0 from rfl, dz_1_0, dz_1_1, dz_1_2, dz_1_3, dz_1_4, dz_1_5, dz_1_6, dz_1_7, dz_1_8, dz_1_9]
theorem dy_2 : dy lk_2 = 142500 := by
  unfold dy
  rw [show lk_2.1.2.2 = 0 from rfl, dz_2_0, dz_2_1, dz_2_2, dz_2_3, dz_2_4, dz_2_5, dz_2_6, dz_2_7, dz_2_8, dz_2_9]
theorem dy_3 : dy lk_3 = 100576 := by
  unfold dy
  rw [show lk_3.1.2.2 = 0 from rfl, dz_3_0, dz_3_1, dz_3_2, dz_3_3, dz_3_4, dz_3_5, dz_3_6, dz_3_7, dz_3_8, dz_3_9]
theorem dy_4 : dy lk_4 = 81056 := by
  unfold dy
  rw [show lk_4.1.2.2 = 0 from rfl, dz_4_0, dz_4_1, dz_4_2, dz_4_3, dz_4_4, dz_4_5, dz_4_6, dz_4_7, dz_4_8, dz_4_9]
/-- the looks ahead of the one capsule that the script [-756120069] draws copy more rows of flags than the statement has cells -/
theorem rm_count : 521680 < ((dg 3538847227).map dy).sum := by
  rw [dg_looks]
  simp only [List.map_cons, List.map_nil, dy_0, dy_1, dy_2, dy_3, dy_4]
  decide

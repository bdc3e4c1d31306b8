/-! the start -/
theorem pu_start : ∃ r10 r11, f_X9_begin kW0 3000 100 10 = some r10 ∧ f_X11_empties kM0 1 268 = some r11 ∧ pu_P (kS_u0 r10 r11) := by
  obtain ⟨r11, e1, e2, e3⟩ := pu_emp (q := 1) kM0
  have g0 : kM1 r11 1 0 = kn 3000 := by
    unfold kM1
    rw [k_upi _ _ (by decide), k_upi _ _ (by decide), k_ups]
    rfl
  have g1 : kM1 r11 1 1 = kn 100 := by
    unfold kM1
    rw [k_upi _ _ (by decide), k_ups]
    rfl
  have g3 : kM1 r11 1 3 = kn 10 := by
    unfold kM1
    rw [k_ups]
    rfl
  have gx : ∀ j, j ≠ 0 → j ≠ 1 → j ≠ 3 → kM1 r11 1 j = r11 1 j := fun j a b c => by
    unfold kM1
    rw [k_upi _ _ c, k_upi _ _ b, k_upi _ _ a]
  have gc : ∀ c, c ≠ 1 → kM1 r11 c = kM0 c := fun c hc => by
    unfold kM1
    rw [k_upc _ _ hc, k_upc _ _ hc, k_upc _ _ hc, e2 c hc]
  obtain ⟨r10, w1, w2, -, w4⟩ := pu_begin0 (w := kW0) (h := 3000) (v := 100) (ma := 10) (s := kM1 r11 1) (by omega) (by omega) (by omega) (Or.inl rfl) g0 g1 g3 (by rw [gx 7 (by decide) (by decide) (by decide), e3 7 (by decide), if_pos rfl]) (fun j hj a b c d => by rw [gx j a b c, e3 j hj, if_neg d])
  refine ⟨r10, r11, w1, e1, ?_⟩
  have u5 : kS_u0 r10 r11 5 = kM1 r11 := rfl
  have u10 : kS_u0 r10 r11 10 = r10 := rfl
  show pu_R _ (kS_u0 r10 r11 5)
  rw [u5]
  refine ⟨⟨0, ?_⟩, fun i hi => ?_, ⟨0, 0, by decide, by decide, rfl, rfl, ?_, fun j hj => absurd hj (by omega)⟩, fun j hj => ⟨?_, Or.inl rfl⟩, ⟨0, by decide, rfl, ?_, fun i hi => absurd hi (by omega)⟩, ⟨?_, ?_⟩, ⟨0, by decide, rfl, ?_, fun i hi => absurd hi (by omega)⟩, Or.inl rfl⟩
  · rw [u10]
    exact w2
  · rw [gc 7 (by decide)]
    rfl
  · rw [gc 0 (by decide)]
    rfl
  · rw [gc 6 (by decide)]
    rfl
  · rw [gc 0 (by decide)]
    rfl
  · rw [gc 0 (by decide)]
    rfl
  · rw [gc 0 (by decide)]
    rfl
  · rw [gc 0 (by decide)]
    rfl

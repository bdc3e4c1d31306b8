/-! load -/
theorem pu_R_txt {u u1 : k_U} {m m1 : k_M} (h : pu_R u m) (hW : ∃ L, pu_W L (u1 10) (m1 1)) (hk : ∀ k, k ≠ 1 → k ≠ 2 → k ≠ 4 → k ≠ 10 → k ≠ 14 → u1 k = u k) (h41 : u1 4 0 1 = u 4 0 1) (h4 : (u1 4 = u 4 ∧ m1 0 8 = m 0 8) ∨ (u1 4 0 2 = 0 ∧ m1 0 8 = 0)) (h2 : u1 1 0 2 = 0 ∧ m1 0 10 = 0) (he : u1 1 0 3 = m1 0 15 ∧ u1 1 0 4 = m1 0 16) (h14 : u1 14 2 6 = 0 ∨ u1 14 2 6 = 1) (g21 : m1 0 21 = m 0 21) (g : ∀ c, c = 4 ∨ c = 5 ∨ c = 6 ∨ c = 7 ∨ c = 20 → m1 c = m c) : pu_R u1 m1 := by
  obtain ⟨-, hA, ⟨hn, c, b1, b2, b3, b4, b5, b6⟩, hV, -, -, ⟨n, o1, o2, o3, o4⟩, hD⟩ := h
  refine ⟨hW, fun i hi => ?_, ?_, fun j hj => ?_, ⟨0, Nat.zero_le _, h2.1, h2.2, fun i hi => absurd hi (by omega)⟩, he, ⟨n, o1, by rw [hk 3 (by decide) (by decide) (by decide) (by decide) (by decide)]; exact o2, by rw [g21]; exact o3, by rw [hk 3 (by decide) (by decide) (by decide) (by decide) (by decide), g 20 (by decide)]; exact o4⟩, h14⟩
  · rw [hk 0 (by decide) (by decide) (by decide) (by decide) (by decide), g 7 (by decide)]
    exact hA i hi
  · rcases h4 with ⟨q1, q2⟩ | ⟨q1, q2⟩
    · refine ⟨hn, c, b1, b2, by rw [h41, b3], by rw [q1, b4], by rw [q2, b5], fun j hj => ?_⟩
      rw [hk _ (by omega) (by omega) (by omega) (by omega) (by omega), g 4 (by decide)]
      exact b6 j hj
    · exact ⟨hn, 0, b1, Nat.zero_le _, by rw [h41, b3], q1, q2, fun j hj => absurd hj (by omega)⟩
  · rw [hk 0 (by decide) (by decide) (by decide) (by decide) (by decide), g 6 (by decide), g 5 (by decide), hk (12 + j) (by omega) (by omega) (by omega) (by omega) (by omega)]
    exact hV j hj
theorem pu_Rd_er {r m : k_M} {len nx : Nat} (h : pu_Rd r m len nx) : r 0 3 = m 0 15 ∧ r 0 4 = m 0 16 := by
  obtain ⟨-, -, -, a, b, c, d⟩ := h
  rw [a, b, c, d]
  exact ⟨rfl, rfl⟩
theorem pu_c1 {u : k_U} (h : pu_P u) (x1 x2 x3 x4 x5 : Int32) : ∃ u', kLsel 1 u x1 x2 x3 x4 x5 = some u' ∧ pu_P u' := by
  have h0 : pu_R u (u 5) := h
  obtain ⟨len, x1, x2, x3, x4⟩ := h0.2.2.2.2.1
  have hXl : pu_Xl (u 1) (u 5) len := ⟨x2, x3, x4⟩
  obtain ⟨L0, hW0⟩ := h0.1
  have no : ¬ (1 : Int32) = 0 := by decide
  show ∃ u', (k_bd (f_X10_load u) fun r => k_bd (f_X11_load (r.1 5)) fun q => k_ck (r.2 = q.2) (some (k_uc r.1 5 q.1))) = some u' ∧ pu_P u'
  rcases pu_setup hXl x1 h0.2.2.2.2.2.2.2 with ⟨u', m', L', nx', e1, e2, e3, e4, e5, e6⟩ | ⟨u', m', e1, e2, e3, e4, e5, e6⟩
  · obtain ⟨w1, c1, c2⟩ := pu_copyOk (w := u' 10) e4.1
    obtain ⟨m2, d1, d2, d3⟩ := pu_rows (q0 := 2) (N0 := 268) (q2 := 1) (N2 := 268) (a := 0) (b := 0) (w := k_up m' 0 10 0) (by decide) pu_n268 pu_n268 (by omega) (by omega) (by omega) (by omega)
    have d1 : f_X11_copies (k_up m' 0 10 0) 2 268 0 1 268 0 = some m2 := d1
    have hW1 : pu_W L' w1 (m2 1) := pu_W_same e4.1 c2 (fun j hj => by rw [d3 j, if_pos (by omega), k_upc _ _ (show 2 ≠ 0 by decide), show 0 + (j - 0) = j by omega])
    have hW2 : pu_W L' w1 (k_up m2 0 8 0 1) := by
      rw [k_upc _ _ (show 1 ≠ 0 by decide)]
      exact hW1
    have hl : f_X10_load u = some (k_uc (k_uc (k_uc u' 1 (k_up (u' 1) 0 2 0)) 10 w1) 4 (k_up (u' 4) 0 2 0), kn (pu_n L' w1)) := by
      unfold f_X10_load f_X4_emptyText f_X3_forget
      rw [e1, k_bds]
      dsimp only
      rw [k_lts, k_bds, k_lts, if_neg no, pu_uc _ _ (show 10 ≠ 1 by decide), pu_uc _ _ (show 14 ≠ 1 by decide), c1, k_bds, k_lts, pu_uc _ _ (show 4 ≠ 10 by decide), pu_uc _ _ (show 4 ≠ 1 by decide), k_lts, k_bds, pu_uc _ _ (show 10 ≠ 4 by decide), k_uc_s, pu_count hW1.1.2.1, k_bds]
    refine pu_okr (F := f_X11_load) hl (q := k_up m2 0 8 0) ?_ ?_
    · rw [pu_uc _ _ (show 5 ≠ 4 by decide), pu_uc _ _ (show 5 ≠ 10 by decide), pu_uc _ _ (show 5 ≠ 1 by decide), e5 5 (by decide) (by decide), e2]
      unfold f_X11_load_108
      rw [k_lts, if_neg no, d1, k_bds, k_lts, pu_chutesM hW2, k_bds]
    · have m20 : m2 0 = k_up m' 0 10 0 0 := d2 0 (by decide)
      refine pu_R_txt h0 ⟨L', ?_⟩ (fun k y1 y2 y4 y10 y14 => by rw [pu_uc _ _ y4, pu_uc _ _ y10, pu_uc _ _ y1, e5 k y1 y14]) ?_ (Or.inr ⟨?_, k_ups _ _ _ _⟩) ⟨?_, ?_⟩ ?_ ?_ ?_ (fun c hc => ?_)
      · rw [pu_uc _ _ (show 10 ≠ 4 by decide), k_uc_s]
        exact hW2
      · rw [k_uc_s, k_upi _ _ (by decide), e5 4 (by decide) (by decide)]
      · rw [k_uc_s, k_ups]
      · rw [pu_uc _ _ (show 1 ≠ 4 by decide), pu_uc _ _ (show 1 ≠ 10 by decide), k_uc_s, k_ups]
      · rw [k_upi _ _ (by decide), m20, k_ups]
      · rw [pu_uc _ _ (show 1 ≠ 4 by decide), pu_uc _ _ (show 1 ≠ 10 by decide), k_uc_s, k_upi _ _ (by decide), k_upi _ _ (by decide), k_upi _ _ (by decide), k_upi _ _ (by decide), m20, k_upi _ _ (by decide), k_upi _ _ (by decide)]
        exact pu_Rd_er e3
      · rw [pu_uc _ _ (show 14 ≠ 4 by decide), pu_uc _ _ (show 14 ≠ 10 by decide), pu_uc _ _ (show 14 ≠ 1 by decide)]
        exact e4.1.2.1.2.2
      · rw [k_upi _ _ (by decide), m20, k_upi _ _ (by decide), e6.2 21 (by decide), k_upi _ _ (by decide)]
      · rw [k_upc _ _ (by omega), d2 c (by omega), k_upc _ _ (by omega), e6.1 c (by omega) (by omega), k_upc _ _ (by omega)]
  · have hl : f_X10_load u = some (k_uc u' 1 (k_up (u' 1) 0 2 0), -1) := by
      unfold f_X10_load f_X4_emptyText
      rw [e1, k_bds]
      dsimp only
      rw [k_lts, k_bds, k_lts, if_pos rfl]
    refine pu_okr (F := f_X11_load) hl (q := k_up m' 0 10 0) ?_ ?_
    · rw [pu_uc _ _ (show 5 ≠ 1 by decide), e5 5 (by decide) (by decide), e2]
      unfold f_X11_load_108
      rw [k_lts, if_pos rfl]
    · refine pu_R_txt h0 ⟨L0, ?_⟩ (fun k y1 y2 y4 y10 y14 => by rw [pu_uc _ _ y1, e5 k y1 y14]) ?_ (Or.inl ⟨?_, ?_⟩) ⟨?_, k_ups _ _ _ _⟩ ?_ ?_ ?_ (fun c hc => ?_)
      · rw [pu_uc _ _ (show 10 ≠ 1 by decide), e5 10 (by decide) (by decide), k_upc _ _ (by decide), e6.1 1 (by decide) (by decide), k_upc _ _ (by decide)]
        exact hW0
      · rw [pu_uc _ _ (show 4 ≠ 1 by decide), e5 4 (by decide) (by decide)]
      · rw [pu_uc _ _ (show 4 ≠ 1 by decide), e5 4 (by decide) (by decide)]
      · rw [k_upi _ _ (by decide), e6.2 8 (by decide), k_upi _ _ (by decide)]
      · rw [k_uc_s, k_ups]
      · rw [k_uc_s, k_upi _ _ (by decide), k_upi _ _ (by decide), k_upi _ _ (by decide), k_upi _ _ (by decide)]
        exact ⟨e3.2.2.2.2.1.symm, e3.2.2.2.2.2.symm⟩
      · rw [pu_uc _ _ (show 14 ≠ 1 by decide)]
        exact e4
      · rw [k_upi _ _ (by decide), e6.2 21 (by decide), k_upi _ _ (by decide)]
      · rw [k_upc _ _ (by omega), e6.1 c (by omega) (by omega), k_upc _ _ (by omega)]

/-! a number with its sign -/
/-- takes: stands, then on -/
theorem pu_takeG0 {r m : k_M} {len nx : Nat} (h : pu_Rd r m len nx) (a s0 : Int32) : (∃ r' m' nx2 v, f_X4_takeSigned_29 r a s0 = some (r', if s0 = 0 then kn v else -(kn v)) ∧ (k_bd (f_X11_standsSigned_22 m a s0) fun r2 => (if r2.2 = 0 then some (r2.1, (0 : Int32)) else k_bd (f_X11_goesOn r2.1 1 1) fun r11 => (if r11.2 = 0 then some (r11.1, 0) else some (r11.1, 1)))) = some (m', 1) ∧ v ≤ 9999999 ∧ kn v ≤ a ∧ m' 0 17 = (if s0 = 0 then kn v else -(kn v)) ∧ pu_Rd r' m' len nx2 ∧ nx < nx2 ∧ pu_mf m m' ∧ r' 0 9 = r 0 6) ∨ (∃ r' m', f_X4_takeSigned_29 r a s0 = some (r', if s0 = 0 then 0 else -0) ∧ (k_bd (f_X11_standsSigned_22 m a s0) fun r2 => (if r2.2 = 0 then some (r2.1, (0 : Int32)) else k_bd (f_X11_goesOn r2.1 1 1) fun r11 => (if r11.2 = 0 then some (r11.1, 0) else some (r11.1, 1)))) = some (m', 0) ∧ pu_Bd r' m' len ∧ pu_mf m m') := by
  unfold f_X4_takeSigned_29 f_X4_takeNumber f_X4_takeNumber_36 f_X4_takeNumber_45 f_X11_standsSigned_22 f_X11_standsSigned_50 f_X11_goesOn
  rcases pu_stand h 0 a with ⟨v, v1, v2, v3, v4, v5, v6⟩ | ⟨r', m', c, hc, e1, e2, e3, e4⟩
  · obtain ⟨r', m', nx2, q1, q2, q3, q4, q5, q6, q7, q8⟩ := pu_nextTok (pu_Rd17 (if s0 = 0 then kn v else -(kn v)) (pu_Rd17 (kn v) h))
    have hf : f_X4_hasFailed r = some 0 := if_pos h.2.2.2.1
    refine Or.inl ⟨r', m', nx2, v, ?_, ?_, v1, v5, by rw [q8, k_ups], q3, q5 (by rw [v2]; decide), pu_mf_tr (pu_mf17 m (kn v)) (pu_mf_tr (pu_mf17 _ _) q7), q6⟩
    · rw [if_pos v2, v3, if_neg (by grind), if_pos v5, hf, k_bds, if_pos rfl, k_lts, q1, k_bds, k_bds]
      by_cases hs : s0 = 0
      · rw [if_pos hs, if_pos hs]
      · rw [if_neg hs, if_neg hs]
    · rw [v6, k_bds, if_neg (show ¬ (1 : Int32) = 0 by decide)]
      dsimp only
      rw [k_ups]
      by_cases hs : s0 = 0
      · rw [if_pos hs] at q2
        rw [if_pos hs, k_lts, k_bds, if_neg (show ¬ (1 : Int32) = 0 by decide)]
        dsimp only
        rw [if_neg (by decide), q2, k_bds, k_bds, if_neg (show ¬ (1 : Int32) = 0 by decide)]
      · rw [if_neg hs] at q2
        rw [if_neg hs, k_lts, k_bds, if_neg (show ¬ (1 : Int32) = 0 by decide)]
        dsimp only
        rw [if_neg (by decide), q2, k_bds, k_bds, if_neg (show ¬ (1 : Int32) = 0 by decide)]
  · refine Or.inr ⟨r', m', ?_, ?_, e3, e4⟩
    · have e : (if r 0 5 = 2 then if r 0 8 < 0 then k_bd (f_X4_failAt r (r 0 6) 2) fun r42 => k_bd (f_X4_hasFailed r42) fun r46 => if r46 = 0 then k_lt (r42 0 8) fun x58 => k_bd (f_X4_advance r42) fun r60 => some (r60, x58) else some (r42, 0) else if r 0 8 ≤ a then k_bd (f_X4_hasFailed r) fun r46 => if r46 = 0 then k_lt (r 0 8) fun x58 => k_bd (f_X4_advance r) fun r60 => some (r60, x58) else some (r, 0) else k_bd (f_X4_failAt r (r 0 6) 2) fun r42 => k_bd (f_X4_hasFailed r42) fun r46 => if r46 = 0 then k_lt (r42 0 8) fun x58 => k_bd (f_X4_advance r42) fun r60 => some (r60, x58) else some (r42, 0) else k_bd (f_X4_failAt r (r 0 6) 1) fun r14 => k_bd (f_X4_hasFailed r14) fun r46 => if r46 = 0 then k_lt (r14 0 8) fun x58 => k_bd (f_X4_advance r14) fun r60 => some (r60, x58) else some (r14, 0)) = some (r', (0 : Int32)) := by
        rcases hc with ⟨rfl, hk⟩ | ⟨rfl, hk, hr⟩
        · rw [if_neg hk, e1, k_bds, pu_bH e3, k_bds, if_neg (show ¬ (1 : Int32) = 0 by decide)]
        · rw [if_pos hk, e1, k_bds, pu_bH e3, k_bds, if_neg (show ¬ (1 : Int32) = 0 by decide)]
          by_cases c1 : r 0 8 < 0
          · rw [if_pos c1]
          · rw [if_neg c1, if_neg (fun h9 => hr ⟨by grind, h9⟩)]
      rw [e, k_bds]
      by_cases hs : s0 = 0
      · rw [if_pos hs, if_pos hs]
      · rw [if_neg hs, if_neg hs]
    · rw [e2, k_bds, if_pos rfl, k_bds, if_pos rfl]

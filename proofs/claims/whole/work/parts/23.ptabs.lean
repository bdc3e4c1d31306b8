theorem pu_tgt0 {w m : k_M} {n : Nat} (hn : n ≤ 8) (hw : w 3 2 = kn n) (hm : m 1 10 = kn n) (hk : ∀ k, k < n → m 1 (92 + 2 * k) = w 4 k ∧ m 1 (92 + 2 * k + 1) = w 5 k) (a1 : Int32) : ∀ (k i f f' : Nat) (b : Int32), i + k = n → k < f → k < f' → (b = -1 ∨ ∃ j, j < n ∧ b = kn j) → ∃ r, f_X2_valueAtOrAbove_5 f w 3 a1 (-1) b (kn i) = some r ∧ f_X11_targetFor_4 f' m a1 b (kn i) = some r := by
  intro k
  induction k with
  | zero =>
    intro i f f' b hi hf hf' hb
    obtain ⟨f, rfl⟩ : ∃ n9, f = n9 + 1 := ⟨f - 1, by omega⟩
    obtain ⟨f', rfl⟩ : ∃ n9, f' = n9 + 1 := ⟨f' - 1, by omega⟩
    have hle : n ≤ i := by omega
    show ∃ r, f_X2_valueAtOrAbove_5_b _ w 3 a1 (-1) b (kn i) = some r ∧ f_X11_targetFor_4_b _ m a1 b (kn i) = some r
    rcases hb with rfl | ⟨j, hj, rfl⟩
    · refine ⟨(-1), ?_, ?_⟩
      · simp (disch := omega) [f_X2_valueAtOrAbove_5_b, f_X2_valueAtOrAbove_49, f_X2_valueAtOrAbove_46, f_X11_targetFor_4_b, f_X11_targetFor_57, f_X11_targetFor_55, hw, hm, hle, kn_le, kn_lt, kn_inj, kn_ltl, kn_lel, kn_llt, kn_lle, kn_eql, kn_leq, kn_add, kn_addl, kn_ladd, kn_mul, kn_mull, kn_lmul, kn_nat, kn_neg1, k_ckn, k_cki, k_bds, k_lts]
      · simp (disch := omega) [f_X2_valueAtOrAbove_5_b, f_X2_valueAtOrAbove_49, f_X2_valueAtOrAbove_46, f_X11_targetFor_4_b, f_X11_targetFor_57, f_X11_targetFor_55, hw, hm, hle, kn_le, kn_lt, kn_inj, kn_ltl, kn_lel, kn_llt, kn_lle, kn_eql, kn_leq, kn_add, kn_addl, kn_ladd, kn_mul, kn_mull, kn_lmul, kn_nat, kn_neg1, k_ckn, k_cki, k_bds, k_lts]
    · obtain ⟨e1, e2⟩ := hk j hj
      refine ⟨w 5 j, ?_, ?_⟩
      · simp (disch := omega) [f_X2_valueAtOrAbove_5_b, f_X2_valueAtOrAbove_49, f_X2_valueAtOrAbove_46, f_X11_targetFor_4_b, f_X11_targetFor_57, f_X11_targetFor_55, hw, hm, hle, kn_le, kn_lt, kn_inj, kn_ltl, kn_lel, kn_llt, kn_lle, kn_eql, kn_leq, kn_add, kn_addl, kn_ladd, kn_mul, kn_mull, kn_lmul, kn_nat, kn_neg1, k_ckn, k_cki, k_bds, k_lts]
      · simp (disch := omega) [f_X2_valueAtOrAbove_5_b, f_X2_valueAtOrAbove_49, f_X2_valueAtOrAbove_46, f_X11_targetFor_4_b, f_X11_targetFor_57, f_X11_targetFor_55, hw, hm, hle, kn_le, kn_lt, kn_inj, kn_ltl, kn_lel, kn_llt, kn_lle, kn_eql, kn_leq, kn_add, kn_addl, kn_ladd, kn_mul, kn_mull, kn_lmul, kn_nat, kn_neg1, k_ckn, k_cki, k_bds, k_lts, e2]
  | succ k ih =>
    intro i f f' b hi hf hf' hb
    obtain ⟨f, rfl⟩ : ∃ n9, f = n9 + 1 := ⟨f - 1, by omega⟩
    obtain ⟨f', rfl⟩ : ∃ n9, f' = n9 + 1 := ⟨f' - 1, by omega⟩
    have hle : ¬ n ≤ i := by omega
    obtain ⟨e1, -⟩ := hk i (by omega)
    have ih1 := ih (i + 1) f f' b (by omega) (by omega) (by omega) hb
    have ih2 := ih (i + 1) f f' (kn i) (by omega) (by omega) (by omega) (Or.inr ⟨i, by omega, rfl⟩)
    show ∃ r, f_X2_valueAtOrAbove_5_b _ w 3 a1 (-1) b (kn i) = some r ∧ f_X11_targetFor_4_b _ m a1 b (kn i) = some r
    by_cases c1 : w 4 i < a1
    · simp (disch := omega) [f_X2_valueAtOrAbove_5_b, f_X2_valueAtOrAbove_49, f_X2_valueAtOrAbove_46, f_X11_targetFor_4_b, f_X11_targetFor_57, f_X11_targetFor_55, hw, hm, hle, e1, c1, kn_le, kn_lt, kn_inj, kn_ltl, kn_lel, kn_llt, kn_lle, kn_eql, kn_leq, kn_add, kn_addl, kn_ladd, kn_mul, kn_mull, kn_lmul, kn_nat, kn_neg1, k_ckn, k_cki, k_bds, k_lts]
      exact ih1
    · rcases hb with rfl | ⟨j, hj, rfl⟩
      · simp (disch := omega) [f_X2_valueAtOrAbove_5_b, f_X2_valueAtOrAbove_49, f_X2_valueAtOrAbove_46, f_X11_targetFor_4_b, f_X11_targetFor_57, f_X11_targetFor_55, hw, hm, hle, e1, c1, kn_le, kn_lt, kn_inj, kn_ltl, kn_lel, kn_llt, kn_lle, kn_eql, kn_leq, kn_add, kn_addl, kn_ladd, kn_mul, kn_mull, kn_lmul, kn_nat, kn_neg1, k_ckn, k_cki, k_bds, k_lts]
        exact ih2
      · obtain ⟨g1, -⟩ := hk j hj
        by_cases c2 : w 4 j ≤ w 4 i
        · simp (disch := omega) [f_X2_valueAtOrAbove_5_b, f_X2_valueAtOrAbove_49, f_X2_valueAtOrAbove_46, f_X11_targetFor_4_b, f_X11_targetFor_57, f_X11_targetFor_55, hw, hm, hle, e1, g1, c1, c2, kn_le, kn_lt, kn_inj, kn_ltl, kn_lel, kn_llt, kn_lle, kn_eql, kn_leq, kn_add, kn_addl, kn_ladd, kn_mul, kn_mull, kn_lmul, kn_nat, kn_neg1, k_ckn, k_cki, k_bds, k_lts]
          exact ih1
        · simp (disch := omega) [f_X2_valueAtOrAbove_5_b, f_X2_valueAtOrAbove_49, f_X2_valueAtOrAbove_46, f_X11_targetFor_4_b, f_X11_targetFor_57, f_X11_targetFor_55, hw, hm, hle, e1, g1, c1, c2, kn_le, kn_lt, kn_inj, kn_ltl, kn_lel, kn_llt, kn_lle, kn_eql, kn_leq, kn_add, kn_addl, kn_ladd, kn_mul, kn_mull, kn_lmul, kn_nat, kn_neg1, k_ckn, k_cki, k_bds, k_lts]
          exact ih2
theorem pu_tgt {w m : k_M} (h : pu_T w (m 1) 3 10 92) (a : Int32) : ∃ r, f_X2_valueAtOrAbove w 3 a (-1) = some r ∧ f_X11_targetFor m a = some r := by
  obtain ⟨n, hn, hw, hm, hk⟩ := h
  exact pu_tgt0 hn hw hm hk a n 0 k_N k_N (-1) (by omega) (by unfold k_N; omega) (by unfold k_N; omega) (Or.inl rfl)
theorem pu_wnd0 {w m : k_M} {n : Nat} (hn : n ≤ 8) (hw : w 6 2 = kn n) (hm : m 1 11 = kn n) (hk : ∀ k, k < n → m 1 (108 + 2 * k) = w 7 k ∧ m 1 (108 + 2 * k + 1) = w 8 k) (a1 : Int32) : ∀ (k i f f' : Nat) (b : Int32), i + k = n → k < f → k < f' → (b = -1 ∨ ∃ j, j < n ∧ b = kn j) → ∃ r, f_X2_valueAtOrBelow_5 f w 6 a1 0 b (kn i) = some r ∧ f_X11_windFor_4 f' m a1 b (kn i) = some r := by
  intro k
  induction k with
  | zero =>
    intro i f f' b hi hf hf' hb
    obtain ⟨f, rfl⟩ : ∃ n9, f = n9 + 1 := ⟨f - 1, by omega⟩
    obtain ⟨f', rfl⟩ : ∃ n9, f' = n9 + 1 := ⟨f' - 1, by omega⟩
    have hle : n ≤ i := by omega
    show ∃ r, f_X2_valueAtOrBelow_5_b _ w 6 a1 0 b (kn i) = some r ∧ f_X11_windFor_4_b _ m a1 b (kn i) = some r
    rcases hb with rfl | ⟨j, hj, rfl⟩
    · refine ⟨0, ?_, ?_⟩
      · simp (disch := omega) [f_X2_valueAtOrBelow_5_b, f_X2_valueAtOrBelow_49, f_X2_valueAtOrBelow_46, f_X11_windFor_4_b, f_X11_windFor_57, f_X11_windFor_55, hw, hm, hle, kn_le, kn_lt, kn_inj, kn_ltl, kn_lel, kn_llt, kn_lle, kn_eql, kn_leq, kn_add, kn_addl, kn_ladd, kn_mul, kn_mull, kn_lmul, kn_nat, kn_neg1, k_ckn, k_cki, k_bds, k_lts]
      · simp (disch := omega) [f_X2_valueAtOrBelow_5_b, f_X2_valueAtOrBelow_49, f_X2_valueAtOrBelow_46, f_X11_windFor_4_b, f_X11_windFor_57, f_X11_windFor_55, hw, hm, hle, kn_le, kn_lt, kn_inj, kn_ltl, kn_lel, kn_llt, kn_lle, kn_eql, kn_leq, kn_add, kn_addl, kn_ladd, kn_mul, kn_mull, kn_lmul, kn_nat, kn_neg1, k_ckn, k_cki, k_bds, k_lts]
    · obtain ⟨e1, e2⟩ := hk j hj
      refine ⟨w 8 j, ?_, ?_⟩
      · simp (disch := omega) [f_X2_valueAtOrBelow_5_b, f_X2_valueAtOrBelow_49, f_X2_valueAtOrBelow_46, f_X11_windFor_4_b, f_X11_windFor_57, f_X11_windFor_55, hw, hm, hle, kn_le, kn_lt, kn_inj, kn_ltl, kn_lel, kn_llt, kn_lle, kn_eql, kn_leq, kn_add, kn_addl, kn_ladd, kn_mul, kn_mull, kn_lmul, kn_nat, kn_neg1, k_ckn, k_cki, k_bds, k_lts]
      · simp (disch := omega) [f_X2_valueAtOrBelow_5_b, f_X2_valueAtOrBelow_49, f_X2_valueAtOrBelow_46, f_X11_windFor_4_b, f_X11_windFor_57, f_X11_windFor_55, hw, hm, hle, kn_le, kn_lt, kn_inj, kn_ltl, kn_lel, kn_llt, kn_lle, kn_eql, kn_leq, kn_add, kn_addl, kn_ladd, kn_mul, kn_mull, kn_lmul, kn_nat, kn_neg1, k_ckn, k_cki, k_bds, k_lts, e2]
  | succ k ih =>
    intro i f f' b hi hf hf' hb
    obtain ⟨f, rfl⟩ : ∃ n9, f = n9 + 1 := ⟨f - 1, by omega⟩
    obtain ⟨f', rfl⟩ : ∃ n9, f' = n9 + 1 := ⟨f' - 1, by omega⟩
    have hle : ¬ n ≤ i := by omega
    obtain ⟨e1, -⟩ := hk i (by omega)
    have ih1 := ih (i + 1) f f' b (by omega) (by omega) (by omega) hb
    have ih2 := ih (i + 1) f f' (kn i) (by omega) (by omega) (by omega) (Or.inr ⟨i, by omega, rfl⟩)
    show ∃ r, f_X2_valueAtOrBelow_5_b _ w 6 a1 0 b (kn i) = some r ∧ f_X11_windFor_4_b _ m a1 b (kn i) = some r
    by_cases c1 : a1 < w 7 i
    · simp (disch := omega) [f_X2_valueAtOrBelow_5_b, f_X2_valueAtOrBelow_49, f_X2_valueAtOrBelow_46, f_X11_windFor_4_b, f_X11_windFor_57, f_X11_windFor_55, hw, hm, hle, e1, c1, kn_le, kn_lt, kn_inj, kn_ltl, kn_lel, kn_llt, kn_lle, kn_eql, kn_leq, kn_add, kn_addl, kn_ladd, kn_mul, kn_mull, kn_lmul, kn_nat, kn_neg1, k_ckn, k_cki, k_bds, k_lts]
      exact ih1
    · rcases hb with rfl | ⟨j, hj, rfl⟩
      · simp (disch := omega) [f_X2_valueAtOrBelow_5_b, f_X2_valueAtOrBelow_49, f_X2_valueAtOrBelow_46, f_X11_windFor_4_b, f_X11_windFor_57, f_X11_windFor_55, hw, hm, hle, e1, c1, kn_le, kn_lt, kn_inj, kn_ltl, kn_lel, kn_llt, kn_lle, kn_eql, kn_leq, kn_add, kn_addl, kn_ladd, kn_mul, kn_mull, kn_lmul, kn_nat, kn_neg1, k_ckn, k_cki, k_bds, k_lts]
        exact ih2
      · obtain ⟨g1, -⟩ := hk j hj
        by_cases c2 : w 7 i ≤ w 7 j
        · simp (disch := omega) [f_X2_valueAtOrBelow_5_b, f_X2_valueAtOrBelow_49, f_X2_valueAtOrBelow_46, f_X11_windFor_4_b, f_X11_windFor_57, f_X11_windFor_55, hw, hm, hle, e1, g1, c1, c2, kn_le, kn_lt, kn_inj, kn_ltl, kn_lel, kn_llt, kn_lle, kn_eql, kn_leq, kn_add, kn_addl, kn_ladd, kn_mul, kn_mull, kn_lmul, kn_nat, kn_neg1, k_ckn, k_cki, k_bds, k_lts]
          exact ih1
        · simp (disch := omega) [f_X2_valueAtOrBelow_5_b, f_X2_valueAtOrBelow_49, f_X2_valueAtOrBelow_46, f_X11_windFor_4_b, f_X11_windFor_57, f_X11_windFor_55, hw, hm, hle, e1, g1, c1, c2, kn_le, kn_lt, kn_inj, kn_ltl, kn_lel, kn_llt, kn_lle, kn_eql, kn_leq, kn_add, kn_addl, kn_ladd, kn_mul, kn_mull, kn_lmul, kn_nat, kn_neg1, k_ckn, k_cki, k_bds, k_lts]
          exact ih2
theorem pu_wnd {w m : k_M} (h : pu_T w (m 1) 6 11 108) (a : Int32) : ∃ r, f_X2_valueAtOrBelow w 6 a 0 = some r ∧ f_X11_windFor m a = some r := by
  obtain ⟨n, hn, hw, hm, hk⟩ := h
  exact pu_wnd0 hn hw hm hk a n 0 k_N k_N (-1) (by omega) (by unfold k_N; omega) (by unfold k_N; omega) (Or.inl rfl)
theorem pu_asks {w m : k_M} (hT : pu_T w (m 1) 3 10 92) (h0 : m 1 0 = w 0 0) (h1 : m 1 1 = w 0 1) : ∃ r, f_X9_asksForBrakes w = some r ∧ f_X11_asksNow m = some r ∧ (r = 0 ∨ r = 1) := by
  obtain ⟨t, e1, e2⟩ := pu_tgt hT (w 0 0)
  unfold f_X9_asksForBrakes f_X11_asksNow
  rw [h0, h1, e1, e2, k_bds]
  by_cases c1 : t = -1
  · exact ⟨0, if_pos c1, if_pos c1, Or.inl rfl⟩
  · rw [if_neg c1]
    by_cases c2 : w 0 1 ≤ t
    · exact ⟨0, if_pos c2, if_pos c2, Or.inl rfl⟩
    · exact ⟨1, if_neg c2, if_neg c2, Or.inr rfl⟩
theorem pu_sub0 {a b : Int32} (h : a < b) : ¬ b - a = 0 := by
  intro e
  grind
/-- whether x lies in spot k, by both -/
theorem pu_dist {w m : k_M} {n k : Nat} (hn : n ≤ 8) (hk : k < n) (hs : m 1 (124 + 3 * k) = w 10 k ∧ m 1 (124 + 3 * k + 1) = w 11 k ∧ m 1 (124 + 3 * k + 2) = w 12 k) (x : Int32) : ∃ d, f_X8_distanceTo w (kn k) x = some d ∧ (d = 0 ↔ (¬ x < w 10 k ∧ ¬ w 11 k < x)) ∧ f_X11_within x (w 10 k) (w 11 k) = some (if d = 0 then 1 else 0) := by
  unfold f_X8_distanceTo f_X11_within
  by_cases c1 : w 10 k ≤ x
  · have c1' : ¬ x < w 10 k := by grind
    by_cases c2 : x ≤ w 11 k
    · have c2' : ¬ w 11 k < x := by grind
      refine ⟨0, ?_, ⟨fun _ => ⟨c1', c2'⟩, fun _ => rfl⟩, ?_⟩
      · rw [k_ckn (by omega) (by omega), kn_nat (by omega), if_pos c1, k_ckn (by omega) (by omega), if_pos c2]
      · rw [if_neg c1', if_neg c2', if_pos rfl]
    · have c2' : w 11 k < x := by grind
      have hd := pu_sub0 c2'
      refine ⟨x - w 11 k, ?_, ⟨fun h => absurd h hd, fun h => absurd c2' h.2⟩, ?_⟩
      · rw [k_ckn (by omega) (by omega), kn_nat (by omega), if_pos c1, k_ckn (by omega) (by omega), if_neg c2, k_ckn (by omega) (by omega)]
      · rw [if_neg c1', if_pos c2', if_neg hd]
  · have c1' : x < w 10 k := by grind
    have hd := pu_sub0 c1'
    refine ⟨w 10 k - x, ?_, ⟨fun h => absurd h hd, fun h => absurd c1' h.1⟩, ?_⟩
    · rw [k_ckn (by omega) (by omega), kn_nat (by omega), if_neg c1, k_ckn (by omega) (by omega)]
    · rw [if_pos c1', if_neg hd]
theorem pu_spot0 {w m : k_M} {n : Nat} (hn : n ≤ 8) (hw : w 9 3 = kn n) (hm : m 1 12 = kn n) (hs : ∀ k, k < n → m 1 (124 + 3 * k) = w 10 k ∧ m 1 (124 + 3 * k + 1) = w 11 k ∧ m 1 (124 + 3 * k + 2) = w 12 k) (x : Int32) : ∀ (k i f f' : Nat), i + k = n → k < f → k < f' → ∃ r, f_X8_firstWith_2 f w x (kn i) = some r ∧ f_X11_firstSpot_2 f' m x (kn i) = some r ∧ (r = -1 ∨ ∃ j, j < n ∧ r = kn j) := by
  intro k
  induction k with
  | zero =>
    intro i f f' hi hf hf'
    obtain ⟨f, rfl⟩ : ∃ n9, f = n9 + 1 := ⟨f - 1, by omega⟩
    obtain ⟨f', rfl⟩ : ∃ n9, f' = n9 + 1 := ⟨f' - 1, by omega⟩
    have hle : n ≤ i := by omega
    refine ⟨-1, ?_, ?_, Or.inl rfl⟩
    · simp (disch := omega) [f_X8_firstWith_2, f_X8_firstWith_2_b, hw, hle, kn_le, kn_lt, kn_inj, kn_ltl, kn_lel, kn_llt, kn_lle, kn_eql, kn_leq, kn_add, kn_addl, kn_ladd, kn_mul, kn_mull, kn_lmul, kn_nat, kn_neg1, k_ckn, k_cki, k_bds, k_lts]
    · simp (disch := omega) [f_X11_firstSpot_2, f_X11_firstSpot_2_b, hm, hle, kn_le, kn_lt, kn_inj, kn_ltl, kn_lel, kn_llt, kn_lle, kn_eql, kn_leq, kn_add, kn_addl, kn_ladd, kn_mul, kn_mull, kn_lmul, kn_nat, kn_neg1, k_ckn, k_cki, k_bds, k_lts]
  | succ k ih =>
    intro i f f' hi hf hf'
    obtain ⟨f, rfl⟩ : ∃ n9, f = n9 + 1 := ⟨f - 1, by omega⟩
    obtain ⟨f', rfl⟩ : ∃ n9, f' = n9 + 1 := ⟨f' - 1, by omega⟩
    have hle : ¬ n ≤ i := by omega
    have hsi := hs i (by omega)
    obtain ⟨d, e1, -, e2⟩ := pu_dist hn (show i < n by omega) hsi x
    show ∃ r, f_X8_firstWith_2_b _ w x (kn i) = some r ∧ f_X11_firstSpot_2_b _ m x (kn i) = some r ∧ (r = -1 ∨ ∃ j, j < n ∧ r = kn j)
    by_cases c1 : d = 0
    · refine ⟨kn i, ?_, ?_, Or.inr ⟨i, by omega, rfl⟩⟩
      · simp (disch := omega) [f_X8_firstWith_2_b, hw, hle, e1, c1, kn_le, kn_lt, kn_inj, kn_ltl, kn_lel, kn_llt, kn_lle, kn_eql, kn_leq, kn_add, kn_addl, kn_ladd, kn_mul, kn_mull, kn_lmul, kn_nat, kn_neg1, k_ckn, k_cki, k_bds, k_lts]
      · simp (disch := omega) [f_X11_firstSpot_2_b, hm, hle, hsi.1, hsi.2.1, e2, c1, kn_le, kn_lt, kn_inj, kn_ltl, kn_lel, kn_llt, kn_lle, kn_eql, kn_leq, kn_add, kn_addl, kn_ladd, kn_mul, kn_mull, kn_lmul, kn_nat, kn_neg1, k_ckn, k_cki, k_bds, k_lts]
    · obtain ⟨r, g1, g2, g3⟩ := ih (i + 1) f f' (by omega) (by omega) (by omega)
      refine ⟨r, ?_, ?_, g3⟩
      · simp (disch := omega) [f_X8_firstWith_2_b, hw, hle, e1, c1, kn_le, kn_lt, kn_inj, kn_ltl, kn_lel, kn_llt, kn_lle, kn_eql, kn_leq, kn_add, kn_addl, kn_ladd, kn_mul, kn_mull, kn_lmul, kn_nat, kn_neg1, k_ckn, k_cki, k_bds, k_lts, g1]
      · simp (disch := omega) [f_X11_firstSpot_2_b, hm, hle, hsi.1, hsi.2.1, e2, c1, kn_le, kn_lt, kn_inj, kn_ltl, kn_lel, kn_llt, kn_lle, kn_eql, kn_leq, kn_add, kn_addl, kn_ladd, kn_mul, kn_mull, kn_lmul, kn_nat, kn_neg1, k_ckn, k_cki, k_bds, k_lts, g2]
theorem pu_result {w m : k_M} (hS : pu_S w (m 1)) (h0 : m 1 0 = w 0 0) (h1 : m 1 1 = w 0 1) (h2 : m 1 2 = w 0 2) (hh : 0 ≤ w 0 0) : ∃ r, f_X9_landingResult w = some r ∧ f_X11_result m = some r := by
  obtain ⟨n, hn, hw, hm, hs⟩ := hS
  obtain ⟨r, e1, e2, e3⟩ := pu_spot0 hn hw hm hs (w 0 2) n 0 k_N k_N (by omega) (by unfold k_N; omega) (by unfold k_N; omega)
  have e1' : f_X8_firstWith w (w 0 2) = some r := e1
  have e2' : f_X11_firstSpot m (w 0 2) = some r := e2
  unfold f_X9_landingResult f_X11_result f_X9_hasLanded
  rw [h0, h1, h2, e1', e2']
  by_cases c0 : w 0 0 = 0
  · have c1 : w 0 0 ≤ 0 := by grind
    rcases e3 with rfl | ⟨j, hj, rfl⟩
    · exact ⟨3, by simp [c0, k_bds], by simp [c0, k_bds]⟩
    · obtain ⟨-, -, g3⟩ := hs j hj
      by_cases c2 : w 12 j < w 0 1
      · exact ⟨2, by simp (disch := omega) [c0, c2, kn_le, kn_lt, kn_inj, kn_ltl, kn_lel, kn_llt, kn_lle, kn_eql, kn_leq, kn_add, kn_addl, kn_ladd, kn_mul, kn_mull, kn_lmul, kn_nat, kn_neg1, k_ckn, k_cki, k_bds, k_lts], by simp (disch := omega) [c0, c2, g3, kn_le, kn_lt, kn_inj, kn_ltl, kn_lel, kn_llt, kn_lle, kn_eql, kn_leq, kn_add, kn_addl, kn_ladd, kn_mul, kn_mull, kn_lmul, kn_nat, kn_neg1, k_ckn, k_cki, k_bds, k_lts]⟩
      · exact ⟨1, by simp (disch := omega) [c0, c2, kn_le, kn_lt, kn_inj, kn_ltl, kn_lel, kn_llt, kn_lle, kn_eql, kn_leq, kn_add, kn_addl, kn_ladd, kn_mul, kn_mull, kn_lmul, kn_nat, kn_neg1, k_ckn, k_cki, k_bds, k_lts], by simp (disch := omega) [c0, c2, g3, kn_le, kn_lt, kn_inj, kn_ltl, kn_lel, kn_llt, kn_lle, kn_eql, kn_leq, kn_add, kn_addl, kn_ladd, kn_mul, kn_mull, kn_lmul, kn_nat, kn_neg1, k_ckn, k_cki, k_bds, k_lts]⟩
  · have c1 : ¬ w 0 0 ≤ 0 := by grind
    exact ⟨0, by simp [c0, k_bds], by simp [c1]⟩

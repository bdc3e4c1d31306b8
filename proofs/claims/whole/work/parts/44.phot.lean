/-! reserveIn, hottest -/
theorem pu_res0 {L : Nat} : ∀ (k j f f' : Nat) (u : k_U) (m : k_M), j + k = 3000 → k < f → k < f' → pu_W L (u 11) (m 1) → u 11 0 11 = 1 → ∃ u' m' v, f_X10_reserveIn_33 f u (kn j) = some (u', v) ∧ f_X11_reserveIn_6 f' m (kn j) = k_bd (f_X11_back m' v) (fun r => some (r.1, r.2)) ∧ (∀ k, k ≠ 11 → u' k = u k) ∧ (∀ c, c ≠ 1 → m' c = m c) := by
  intro k
  induction k with
  | zero =>
    intro j f f' u m hj hf hf' hW hR
    obtain ⟨f, rfl⟩ : ∃ n9, f = n9 + 1 := ⟨f - 1, by omega⟩
    obtain ⟨f', rfl⟩ : ∃ n9, f' = n9 + 1 := ⟨f' - 1, by omega⟩
    have hX : f_X10_reserveIn_33 (f + 1) u (kn j) = f_X10_reserveIn_33_b (f_X10_reserveIn_33 f) u (kn j) := rfl
    have hY : f_X11_reserveIn_6 (f' + 1) m (kn j) = f_X11_reserveIn_6_b (f_X11_reserveIn_6 f') m (kn j) := rfl
    unfold f_X10_reserveIn_33_b f_X10_reserveIn_71 at hX
    unfold f_X11_reserveIn_6_b f_X11_reserveIn_54 f_X11_reserveIn_81 f_X11_reserveIn_82 at hY
    rw [pu_landed, k_bds, if_pos (show (3000 : Int32) ≤ kn j by rw [kn_lle (by omega) (by omega)]; omega)] at hX
    rw [if_pos (show (3000 : Int32) ≤ kn j by rw [kn_lle (by omega) (by omega)]; omega), (pu_relR hW hR).1, hW.2.1.2.1, if_pos hR] at hY
    by_cases h : u 11 2 5 = 1
    · rw [if_pos h, if_pos h] at hX
      rw [if_pos h] at hY
      exact ⟨u, m, kn j, hX, hY, fun _ _ => rfl, fun _ _ => rfl⟩
    · rw [if_neg h, if_neg h, ite_self] at hX
      rw [if_neg h] at hY
      exact ⟨u, m, -1, hX, hY, fun _ _ => rfl, fun _ _ => rfl⟩
  | succ k ih =>
    intro j f f' u m hj hf hf' hW hR
    obtain ⟨f, rfl⟩ : ∃ n9, f = n9 + 1 := ⟨f - 1, by omega⟩
    obtain ⟨f', rfl⟩ : ∃ n9, f' = n9 + 1 := ⟨f' - 1, by omega⟩
    have hX : f_X10_reserveIn_33 (f + 1) u (kn j) = f_X10_reserveIn_33_b (f_X10_reserveIn_33 f) u (kn j) := rfl
    have hY : f_X11_reserveIn_6 (f' + 1) m (kn j) = f_X11_reserveIn_6_b (f_X11_reserveIn_6 f') m (kn j) := rfl
    unfold f_X10_reserveIn_33_b f_X10_reserveIn_71 at hX
    unfold f_X11_reserveIn_6_b f_X11_reserveIn_54 f_X11_reserveIn_81 f_X11_reserveIn_82 at hY
    rw [pu_landed, k_bds, if_neg (show ¬ (3000 : Int32) ≤ kn j by rw [kn_lle (by omega) (by omega)]; omega)] at hX
    rw [if_neg (show ¬ (3000 : Int32) ≤ kn j by rw [kn_lle (by omega) (by omega)]; omega), (pu_relR hW hR).1, hW.2.1.2.1, if_pos hR, if_pos hR] at hY
    by_cases h : u 11 2 5 = 1
    · rw [if_pos h, if_pos h] at hX
      rw [if_pos h, if_pos h, ite_self] at hY
      exact ⟨u, m, kn j, hX, hY, fun _ _ => rfl, fun _ _ => rfl⟩
    · rw [if_neg h, if_neg h] at hX
      rw [if_neg h, if_neg h] at hY
      by_cases hl : u 11 0 0 = 0
      · rw [if_pos hl, if_neg (by decide)] at hX
        rw [if_pos ((pu_le0 hW).mpr hl)] at hY
        exact ⟨u, m, -1, hX, hY, fun _ _ => rfl, fun _ _ => rfl⟩
      · rw [if_neg hl, if_pos rfl] at hX
        rw [if_neg (fun e => hl ((pu_le0 hW).mp e))] at hY
        obtain ⟨w', m', s1, s2, s3, s4, s5, -⟩ := pu_second hW hl
        rw [s1, k_bds, k_lts, k_lts, show kn j + 1 = kn (j + 1) from kn_addl j 1] at hX
        rw [s2, k_bds, k_lts, show kn j + 1 = kn (j + 1) from kn_addl j 1] at hY
        obtain ⟨u2, m2, v, r1, r2, r3, r4⟩ := ih (j + 1) f f' (k_uc u 11 w') m' (by omega) (by omega) (by omega) (by rw [k_uc_s]; exact s3) (by rw [k_uc_s, s5]; exact hR)
        exact ⟨u2, m2, v, hX.trans r1, hY.trans r2, fun k hk => by rw [r3 k hk, pu_uc _ _ hk], fun c hc => by rw [r4 c hc, s4 c hc]⟩
theorem pu_c26 {u : k_U} (h : pu_P u) (x1 x2 x3 x4 x5 : Int32) : ∃ u', kLsel 26 u x1 x2 x3 x4 x5 = some u' ∧ pu_P u' := by
  obtain ⟨L, w1, m1, c1, c2, hW1, hW, l3, lc⟩ := pu_look h
  have e1 : m1 1 = u 5 1 := by rw [lc 1 (by decide), k_upc _ _ (by decide)]
  have hW0 : pu_W L (u 10) (m1 1) := by rw [e1]; exact hW
  have h11 : w1 0 11 = u 10 0 11 := by rw [← hW1.2.1.2.1, hW0.2.1.2.1]
  by_cases hR : u 10 0 11 = 0
  · obtain ⟨m', b1, b2, b3⟩ := pu_back m1 (-1)
    refine pu_okr (x := f_X10_reserveIn u) (F := f_X11_reserveIn) (u' := u) (v := -1) (q := m') ?_ ?_ (pu_R_backd h (fun _ _ => rfl) l3 lc (fun _ _ _ => rfl) (fun _ _ => rfl) b2 b3)
    · unfold f_X10_reserveIn
      rw [if_pos hR]
    · unfold f_X11_reserveIn
      rw [c2, k_bds]
      show f_X11_reserveIn_6_b (f_X11_reserveIn_6 3999) m1 0 = _
      unfold f_X11_reserveIn_6_b f_X11_reserveIn_54 f_X11_reserveIn_81 f_X11_reserveIn_82
      rw [if_neg (show ¬ (3000 : Int32) ≤ 0 by decide), hW0.2.1.2.1, hR, if_neg (show ¬ (0 : Int32) = 1 by decide), if_neg (show ¬ (0 : Int32) = 1 by decide), ite_self, b1, k_bds]
  · have hR1 : u 10 0 11 = 1 := hW.2.1.1.resolve_left hR
    obtain ⟨u', m2, v, r1, r2, r3, r4⟩ := pu_res0 (L := L) 3000 0 k_N k_N (k_uc u 11 w1) m1 (by omega) (by unfold k_N; omega) (by unfold k_N; omega) (by rw [k_uc_s]; exact hW1) (by rw [k_uc_s, h11]; exact hR1)
    obtain ⟨m', b1, b2, b3⟩ := pu_back m2 v
    have hu : ∀ k, k ≠ 11 → u' k = u k := fun k hk => by rw [r3 k hk, pu_uc _ _ hk]
    refine pu_okr (x := f_X10_reserveIn u) (F := f_X11_reserveIn) (u' := u') (v := v) (q := m') ?_ ?_ (pu_R_backd h hu l3 lc (fun c _ b => r4 c b) (fun i _ => by rw [r4 0 (by decide)]) b2 b3)
    · unfold f_X10_reserveIn
      rw [if_neg hR, c1, k_bds, k_lts]
      exact r1
    · rw [hu 5 (by decide)]
      unfold f_X11_reserveIn
      rw [c2, k_bds]
      refine r2.trans ?_
      rw [b1, k_bds]
theorem pu_hot0 {L : Nat} : ∀ (k j f f' : Nat) (u : k_U) (m : k_M) (a : Int32), j + k = 3000 → k < f → k < f' → pu_W L (u 11) (m 1) → ∃ u' m' v, f_X10_hottest_21 f u a (kn j) = some (u', v) ∧ f_X11_hottest_13 f' m a (kn j) = k_bd (f_X11_back m' v) (fun r => some (r.1, r.2)) ∧ (∀ k, k ≠ 11 → u' k = u k) ∧ (∀ c, c ≠ 1 → m' c = m c) := by
  intro k
  induction k with
  | zero =>
    intro j f f' u m a hj hf hf' hW
    obtain ⟨f, rfl⟩ : ∃ n9, f = n9 + 1 := ⟨f - 1, by omega⟩
    obtain ⟨f', rfl⟩ : ∃ n9, f' = n9 + 1 := ⟨f' - 1, by omega⟩
    have hX : f_X10_hottest_21 (f + 1) u a (kn j) = f_X10_hottest_21_b (f_X10_hottest_21 f) u a (kn j) := rfl
    have hY : f_X11_hottest_13 (f' + 1) m a (kn j) = f_X11_hottest_13_b (f_X11_hottest_13 f') m a (kn j) := rfl
    unfold f_X10_hottest_21_b at hX
    unfold f_X11_hottest_13_b f_X11_hottest_50 at hY
    rw [if_pos (show (3000 : Int32) ≤ kn j by rw [kn_lle (by omega) (by omega)]; omega)] at hX hY
    exact ⟨u, m, a, hX, hY, fun _ _ => rfl, fun _ _ => rfl⟩
  | succ k ih =>
    intro j f f' u m a hj hf hf' hW
    obtain ⟨f, rfl⟩ : ∃ n9, f = n9 + 1 := ⟨f - 1, by omega⟩
    obtain ⟨f', rfl⟩ : ∃ n9, f' = n9 + 1 := ⟨f' - 1, by omega⟩
    have hX : f_X10_hottest_21 (f + 1) u a (kn j) = f_X10_hottest_21_b (f_X10_hottest_21 f) u a (kn j) := rfl
    have hY : f_X11_hottest_13 (f' + 1) m a (kn j) = f_X11_hottest_13_b (f_X11_hottest_13 f') m a (kn j) := rfl
    unfold f_X10_hottest_21_b at hX
    unfold f_X11_hottest_13_b f_X11_hottest_50 at hY
    rw [if_neg (show ¬ (3000 : Int32) ≤ kn j by rw [kn_lle (by omega) (by omega)]; omega)] at hX hY
    rw [pu_landed, k_bds] at hX
    by_cases hl : u 11 0 0 = 0
    · rw [if_pos hl, if_neg (by decide)] at hX
      rw [if_pos ((pu_le0 hW).mpr hl)] at hY
      exact ⟨u, m, a, hX, hY, fun _ _ => rfl, fun _ _ => rfl⟩
    · rw [if_neg hl, if_pos rfl] at hX
      rw [if_neg (fun e => hl ((pu_le0 hW).mp e))] at hY
      obtain ⟨w', m', s1, s2, s3, s4, s5, -⟩ := pu_second hW hl
      rw [s1, k_bds, k_lts, k_lts, k_lts, k_uc_s, show kn j + 1 = kn (j + 1) from kn_addl j 1] at hX
      rw [s2, k_bds, k_lts, k_lts, show kn j + 1 = kn (j + 1) from kn_addl j 1, (pu_F0 s3).2.1.1] at hY
      obtain ⟨u2, m2, v, r1, r2, r3, r4⟩ := ih (j + 1) f f' (k_uc u 11 w') m' (k_maxi a (w' 0 4)) (by omega) (by omega) (by omega) (by rw [k_uc_s]; exact s3)
      exact ⟨u2, m2, v, hX.trans r1, hY.trans r2, fun k hk => by rw [r3 k hk, pu_uc _ _ hk], fun c hc => by rw [r4 c hc, s4 c hc]⟩
theorem pu_c27 {u : k_U} (h : pu_P u) (x1 x2 x3 x4 x5 : Int32) : ∃ u', kLsel 27 u x1 x2 x3 x4 x5 = some u' ∧ pu_P u' := by
  obtain ⟨L, w1, m1, c1, c2, hW1, hW, l3, lc⟩ := pu_look h
  obtain ⟨u', m2, v, r1, r2, r3, r4⟩ := pu_hot0 (L := L) 3000 0 k_N k_N (k_uc u 11 w1) m1 (w1 0 4) (by omega) (by unfold k_N; omega) (by unfold k_N; omega) (by rw [k_uc_s]; exact hW1)
  obtain ⟨m', b1, b2, b3⟩ := pu_back m2 v
  have hu : ∀ k, k ≠ 11 → u' k = u k := fun k hk => by rw [r3 k hk, pu_uc _ _ hk]
  refine pu_okr (x := f_X10_hottest u) (F := f_X11_hottest) (u' := u') (v := v) (q := m') ?_ ?_ (pu_R_backd h hu l3 lc (fun c _ b => r4 c b) (fun i _ => by rw [r4 0 (by decide)]) b2 b3)
  · unfold f_X10_hottest
    rw [c1, k_bds, k_lts, k_uc_s, k_lts]
    exact r1
  · rw [hu 5 (by decide)]
    unfold f_X11_hottest
    rw [c2, k_bds, k_lts, (pu_F0 hW1).2.1.1]
    refine r2.trans ?_
    rw [b1, k_bds]

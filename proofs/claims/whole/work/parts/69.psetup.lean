/-! a setup's reading, whole -/
theorem pu_beginR {r m : k_M} {len : Nat} (hX : pu_Xl r m len) (hl : len ≤ 600) : ∃ r' m', f_X4_begin r = some r' ∧ f_X11_begins m = some m' ∧ pu_Rd r' m' len 0 ∧ pu_mf m m' := by
  have hX0 : pu_Xl (k_up (k_up (k_up r 0 3 0) 0 4 (-1)) 0 7 0) (k_up (k_up (k_up m 0 12 0) 0 15 0) 0 16 (-1)) len := by
    refine pu_Xl_c hX ?_ ?_ ?_ ?_ ?_
    · rw [k_upi _ _ (by decide), k_upi _ _ (by decide), k_upi _ _ (by decide)]
    · rw [k_upc _ _ (by decide), k_upc _ _ (by decide), k_upc _ _ (by decide)]
    · rw [k_upc _ _ (by decide), k_upc _ _ (by decide), k_upc _ _ (by decide)]
    · rw [k_upi _ _ (by decide), k_upi _ _ (by decide), k_upi _ _ (by decide)]
    · rw [k_upc _ _ (by decide), k_upc _ _ (by decide), k_upc _ _ (by decide)]
  obtain ⟨r', m', e1, e2, e3, e4, e5, e6, e7, e8⟩ := pu_advance (nx := 0) hl hX0 (k_ups _ _ _ _) (by rw [k_upi _ _ (by decide), k_upi _ _ (by decide), k_ups]; rfl) (Nat.zero_le _)
  refine ⟨r', m', ?_, ?_, ⟨pu_Xl_c hX0 (e5 2 (by decide) (by decide) (by decide) (by decide) (by decide)) (e4 1 (by decide)) (e4 2 (by decide)) (e8 10 (by decide) (by decide) (by decide) (by decide)) (e7 9 (by decide)), hl, e3, ?_, ?_, ?_, ?_⟩, ⟨fun c hc => ?_, fun i hi => ?_⟩⟩
  · unfold f_X4_begin
    rw [k_lts, k_lts, k_lts, e1, k_bds]
  · unfold f_X11_begins
    rw [k_lts, k_lts, k_lts, e2, k_bds]
  · rw [e5 3 (by decide) (by decide) (by decide) (by decide) (by decide), k_upi _ _ (by decide), k_upi _ _ (by decide), k_ups]
  · rw [e8 15 (by decide) (by decide) (by decide) (by decide), k_upi _ _ (by decide), k_ups]
  · rw [e5 4 (by decide) (by decide) (by decide) (by decide) (by decide), k_upi _ _ (by decide), k_ups]
  · rw [e8 16 (by decide) (by decide) (by decide) (by decide), k_ups]
  · rw [e7 c hc, k_upc _ _ hc, k_upc _ _ hc, k_upc _ _ hc]
  · rw [e8 i (by omega) (by omega) (by omega) (by omega), k_upi _ _ (by omega), k_upi _ _ (by omega), k_upi _ _ (by omega)]
theorem pu_setup {u : k_U} {m : k_M} {len : Nat} (hX0 : pu_Xl (u 1) m len) (hl : len ≤ 600) (hJ : u 14 2 6 = 0 ∨ u 14 2 6 = 1) :
    (∃ u' m' L' nx', f_X6_readSetup u = some (u', 1) ∧ f_X11_load m = f_X11_load_108 m' 1 ∧ pu_Rd (u' 1) m' len nx' ∧ pu_Dr L' (u' 14) (m' 2) ∧ (∀ k, k ≠ 1 → k ≠ 14 → u' k = u k) ∧ pu_mg (k_up m 0 0 0) m') ∨
    (∃ u' m', f_X6_readSetup u = some (u', 0) ∧ f_X11_load m = f_X11_load_108 m' 0 ∧ pu_Bd (u' 1) m' len ∧ (u' 14 2 6 = 0 ∨ u' 14 2 6 = 1) ∧ (∀ k, k ≠ 1 → k ≠ 14 → u' k = u k) ∧ pu_mg (k_up m 0 0 0) m') := by
  have no : ¬ (1 : Int32) = 0 := by decide
  generalize hX : f_X6_readSetup u = X
  unfold f_X6_readSetup at hX
  generalize hY : f_X11_load m = Y
  unfold f_X11_load f_X11_load_72 f_X11_load_73 at hY
  have z0 : ∀ m', f_X11_load_74 k_N m' 0 = f_X11_load_108 m' 0 := fun m' => by
    obtain ⟨n9, hn9⟩ : ∃ n, k_N = n + 1 := ⟨3999, rfl⟩
    rw [hn9]
    show f_X11_load_74_b _ m' 0 = _
    unfold f_X11_load_74_b
    rw [if_pos rfl]
  obtain ⟨r0, m0, b1, b2, hR0, mf0⟩ := pu_beginR (m := k_up m 0 0 0) (pu_Xl_c hX0 rfl rfl rfl (k_upi _ _ (by decide)) (k_upc _ _ (by decide))) hl
  obtain ⟨m1, f1, f2, f3⟩ := pu_emp (q := 2) m0
  have hR1 : pu_Rd r0 m1 len 0 := pu_Rd2 hR0 (f2 0 (by decide)) (f2 9 (by decide))
  have mg1 : pu_mg (k_up m 0 0 0) m1 := pu_mg_tr (pu_mg_mf mf0) ⟨fun c hc h2 => f2 c h2, fun i hi => by rw [f2 0 (by decide)]⟩
  have bF : ∀ (r' M : k_M), pu_Bd r' M len → pu_mg m1 M → X = some (k_uc u 1 r', 0) → Y = f_X11_load_108 M 0 → (∃ u' m' L' nx', X = some (u', 1) ∧ Y = f_X11_load_108 m' 1 ∧ pu_Rd (u' 1) m' len nx' ∧ pu_Dr L' (u' 14) (m' 2) ∧ (∀ k, k ≠ 1 → k ≠ 14 → u' k = u k) ∧ pu_mg (k_up m 0 0 0) m') ∨ (∃ u' m', X = some (u', 0) ∧ Y = f_X11_load_108 m' 0 ∧ pu_Bd (u' 1) m' len ∧ (u' 14 2 6 = 0 ∨ u' 14 2 6 = 1) ∧ (∀ k, k ≠ 1 → k ≠ 14 → u' k = u k) ∧ pu_mg (k_up m 0 0 0) m') := by
    intro r' M z1 z2 z3 z4
    refine Or.inr ⟨_, M, z3, z4, by rw [k_uc_s]; exact z1, ?_, fun k x y => pu_uc _ _ x, pu_mg_tr mg1 z2⟩
    rw [pu_uc _ _ (show 14 ≠ 1 by decide)]
    exact hJ
  rw [b1, k_bds, k_lts, k_uc_s] at hX
  rw [k_lts, b2, k_bds, f1, k_bds] at hY
  rcases pu_takeW (t := 0) (t' := 27) hR1 rfl (by decide) with ⟨r2, m2, x2, a2, c2, hR2, g2, k2⟩ | ⟨r', M, a, b, c, d⟩
  rotate_left
  · rw [a, k_bds, k_lts, pu_ucc, k_uc_s, pu_bN c, k_bds] at hX
    dsimp only at hX
    rw [k_lts, pu_ucc, k_uc_s, pu_bN c, k_bds] at hX
    dsimp only at hX
    rw [k_lts, pu_ucc, k_uc_s, pu_bN c, k_bds] at hX
    dsimp only at hX
    rw [k_lts, pu_ucc, k_uc_s, pu_bS c, k_bds, k_lts, pu_ucc, k_uc_s, pu_bH c, k_bds, if_neg no] at hX
    rw [b, k_bds, if_pos rfl] at hY
    dsimp only at hY
    rw [z0] at hY
    exact bF r' M c (pu_mg_mf d) hX.symm hY.symm
  rw [a2, k_bds, k_lts, pu_ucc, k_uc_s] at hX
  rw [c2, k_bds, if_neg no] at hY
  dsimp only at hY
  rcases pu_into hR2 (i := 0) (by omega) 1 30000 with ⟨r3, m3, x3, v3, a3, c3, d3, lo3, hi3, hR3, g3, k3, l3⟩ | ⟨r', M, a, b, c, d⟩
  rotate_left
  · have b' : f_X11_takesInto m2 0 1 30000 = some (M, 0) := b
    rw [a, k_bds] at hX
    dsimp only at hX
    rw [k_lts, pu_ucc, k_uc_s, pu_bN c, k_bds] at hX
    dsimp only at hX
    rw [k_lts, pu_ucc, k_uc_s, pu_bN c, k_bds] at hX
    dsimp only at hX
    rw [k_lts, pu_ucc, k_uc_s, pu_bS c, k_bds, k_lts, pu_ucc, k_uc_s, pu_bH c, k_bds, if_neg no] at hX
    rw [b', k_bds, if_pos rfl] at hY
    dsimp only at hY
    rw [z0] at hY
    exact bF r' M c (pu_mg_mf (pu_mf_tr k2 d)) hX.symm hY.symm
  have c3' : f_X11_takesInto m2 0 1 30000 = some (k_up m3 2 0 (kn v3), 1) := c3
  rw [a3, k_bds] at hX
  dsimp only at hX
  rw [k_lts, pu_ucc, k_uc_s] at hX
  rw [c3', k_bds, if_neg no] at hY
  dsimp only at hY
  have mg3 : pu_mg m1 (k_up m3 2 0 (kn v3)) := pu_mg_tr (pu_mg_mf (pu_mf_tr k2 k3)) (pu_mg_up _ _ _)
  rcases pu_into hR3 (i := 1) (by omega) 0 400 with ⟨r4, m4, x4, v4, a4, c4, d4, lo4, hi4, hR4, g4, k4, l4⟩ | ⟨r', M, a, b, c, d⟩
  rotate_left
  · have b' : f_X11_takesInto (k_up m3 2 0 (kn v3)) 1 0 400 = some (M, 0) := b
    rw [a, k_bds] at hX
    dsimp only at hX
    rw [k_lts, pu_ucc, k_uc_s, pu_bN c, k_bds] at hX
    dsimp only at hX
    rw [k_lts, pu_ucc, k_uc_s, pu_bS c, k_bds, k_lts, pu_ucc, k_uc_s, pu_bH c, k_bds, if_neg no] at hX
    rw [b', k_bds, if_pos rfl] at hY
    dsimp only at hY
    rw [z0] at hY
    exact bF r' M c (pu_mg_tr mg3 (pu_mg_mf d)) hX.symm hY.symm
  have c4' : f_X11_takesInto (k_up m3 2 0 (kn v3)) 1 0 400 = some (k_up m4 2 1 (kn v4), 1) := c4
  rw [a4, k_bds] at hX
  dsimp only at hX
  rw [k_lts, pu_ucc, k_uc_s] at hX
  rw [c4', k_bds, if_neg no] at hY
  dsimp only at hY
  have mg4 : pu_mg m1 (k_up m4 2 1 (kn v4)) := pu_mg_tr mg3 (pu_mg_tr (pu_mg_mf k4) (pu_mg_up _ _ _))
  rcases pu_into hR4 (i := 3) (by omega) 1 99 with ⟨r5, m5, x5, v5, a5, c5, d5, lo5, hi5, hR5, g5, k5, l5⟩ | ⟨r', M, a, b, c, d⟩
  rotate_left
  · have b' : f_X11_takesInto (k_up m4 2 1 (kn v4)) 3 1 99 = some (M, 0) := b
    rw [a, k_bds] at hX
    dsimp only at hX
    rw [k_lts, pu_ucc, k_uc_s, pu_bS c, k_bds, k_lts, pu_ucc, k_uc_s, pu_bH c, k_bds, if_neg no] at hX
    rw [b', k_bds, if_pos rfl] at hY
    dsimp only at hY
    rw [z0] at hY
    exact bF r' M c (pu_mg_tr mg4 (pu_mg_mf d)) hX.symm hY.symm
  have c5' : f_X11_takesInto (k_up m4 2 1 (kn v4)) 3 1 99 = some (k_up m5 2 3 (kn v5), 1) := c5
  rw [a5, k_bds] at hX
  dsimp only at hX
  rw [k_lts, pu_ucc, k_uc_s] at hX
  rw [c5', k_bds, if_neg no] at hY
  dsimp only at hY
  have mg5 : pu_mg m1 (k_up m5 2 3 (kn v5)) := pu_mg_tr mg4 (pu_mg_tr (pu_mg_mf k5) (pu_mg_up _ _ _))
  rcases pu_takeS hR5 with ⟨r6, m6, x6, a6, c6, hR6, g6, k6⟩ | ⟨r', M, a, b, c, d⟩
  rotate_left
  · rw [a, k_bds, k_lts, pu_ucc, k_uc_s, pu_bH c, k_bds, if_neg no] at hX
    rw [b, k_bds, if_pos rfl] at hY
    dsimp only at hY
    rw [z0] at hY
    exact bF r' M c (pu_mg_tr mg5 (pu_mg_mf d)) hX.symm hY.symm
  have hf6 : f_X4_hasFailed r6 = some 0 := if_pos hR6.2.2.2.1
  rw [a6, k_bds, k_lts, pu_ucc, k_uc_s, hf6, k_bds, if_pos rfl, pu_uc _ _ (show 14 ≠ 1 by decide)] at hX
  rw [c6, k_bds, if_neg no] at hY
  dsimp only at hY
  have mg6 : pu_mg m1 m6 := pu_mg_tr mg5 (pu_mg_mf k6)
  have row : ∀ j, j ≠ 3 → m6 2 j = k_up m4 2 1 (kn v4) 2 j := fun j hj => by rw [k6.1 2 (by decide), k_upi _ _ hj, k5.1 2 (by decide)]
  have row2 : ∀ j, j ≠ 3 → j ≠ 1 → m6 2 j = k_up m3 2 0 (kn v3) 2 j := fun j hj h1 => by rw [row j hj, k_upi _ _ h1, k4.1 2 (by decide)]
  have row3 : ∀ j, j < 268 → j ≠ 3 → j ≠ 1 → j ≠ 0 → m6 2 j = if j = 7 then 20 else 0 := fun j hj h3 h1 h0 => by rw [row2 j h3 h1, k_upi _ _ h0, k3.1 2 (by decide), k2.1 2 (by decide), f3 j hj]
  have hv3 : v3 ≤ 30000 := by
    rw [kn_lel (by omega) (by omega)] at hi3
    exact hi3
  have hv4 : v4 ≤ 400 := by
    rw [kn_lel (by omega) (by omega)] at hi4
    exact hi4
  have hv5 : 1 ≤ v5 ∧ v5 ≤ 99 := by
    rw [kn_lel (by omega) (by omega)] at hi5
    rw [kn_lle (by omega) (by omega)] at lo5
    exact ⟨lo5, hi5⟩
  obtain ⟨w1, w2, w3, w4, w5⟩ := pu_begin0 (w := u 14) (h := v3) (v := v4) (ma := v5) (s := m6 2) hv3 hv4 hv5 hJ (by rw [row2 0 (by decide) (by decide), k_ups]) (by rw [row 1 (by decide), k_ups]) (by rw [k6.1 2 (by decide), k_ups]) (by rw [row3 7 (by decide) (by decide) (by decide) (by decide), if_pos rfl]) (fun j hj h0 h1 h3 h7 => by rw [row3 j hj h3 h1 h0, if_neg h7])
  rw [w2, k_bds, k_lts] at hX
  have n0 : pu_n 0 w1 = 0 := if_pos w4
  have hDr : pu_Dr 0 w1 (m6 2) := ⟨w3, fun i hi => absurd hi (by omega), fun p hp => by rw [row3 _ (by omega) (by omega) (by omega) (by omega), if_neg (by omega)], by rw [row3 _ (by omega) (by omega) (by omega) (by omega), if_neg (by omega)]⟩
  rcases pu_loop (len := len) 600 (k_uc (k_uc u 1 r6) 14 w1) m6 x6 0 0 k_N k_N (by omega) (by omega) (by unfold k_N; omega) (by unfold k_N; omega) (by rw [pu_uc _ _ (show 1 ≠ 14 by decide), k_uc_s]; exact hR6) (by rw [k_uc_s]; exact hDr) with ⟨u', m', L', nx', e1, e2, e3, e4, e5, e6⟩ | ⟨u', m', e1, e2, e3, e4, e5, e6⟩
  · exact Or.inl ⟨u', m', L', nx', hX.symm.trans e1, hY.symm.trans e2, e3, e4, fun k x y => by rw [e5 k x y, pu_uc _ _ y, pu_uc _ _ x], pu_mg_tr mg1 (pu_mg_tr mg6 e6)⟩
  · exact Or.inr ⟨u', m', hX.symm.trans e1, hY.symm.trans e2, e3, e4, fun k x y => by rw [e5 k x y, pu_uc _ _ y, pu_uc _ _ x], pu_mg_tr mg1 (pu_mg_tr mg6 e6)⟩

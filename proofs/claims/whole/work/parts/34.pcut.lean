/-! the acts: cut, steer -/
theorem pu_hasCI {L : Nat} {w : k_M} (hL : L ≤ 8) (h : w 0 10 = kn L) (x : Int32) : f_X9_hasChute w x = some (if 0 ≤ x ∧ x < kn (pu_n L w) then 1 else 0) := by
  unfold f_X9_hasChute
  rw [pu_count h]
  by_cases h1 : x < 0
  · rw [if_pos h1, if_neg (by grind)]
  · rw [if_neg h1, k_bds]
    by_cases h2 : kn (pu_n L w) ≤ x
    · rw [if_pos h2, if_neg (by grind)]
    · rw [if_neg h2, if_pos (by grind)]
theorem pu_chutesM {L : Nat} {w m : k_M} (hW : pu_W L w (m 1)) : f_X11_chutes m = some (kn (pu_n L w)) := by
  unfold f_X11_chutes pu_n
  rw [hW.1.2.2, hW.2.1.2.1]
  rcases hW.2.1.1 with h | h
  · rw [if_pos h, h]
    exact congrArg some (Int32.add_zero _)
  · rw [if_neg (by rw [h]; decide), h]
    exact congrArg some (kn_addl L 1)
theorem pu_placeM {L i : Nat} {m : k_M} (hL : L ≤ 8) (h8 : m 1 8 = kn L) (hi : i < 4000) : f_X11_placeOf m (kn i) = some (kn (pu_p L i)) := by
  unfold f_X11_placeOf pu_p
  rw [h8]
  by_cases h : i < L
  · rw [if_neg (by rw [kn_le (by omega) (by omega)]; omega), if_pos h]
  · rw [if_pos (by rw [kn_le (by omega) (by omega)]; omega), if_neg h]
    rfl
theorem pu_state {L i : Nat} {w m : k_M} (hW : pu_W L w (m 1)) (hi : i < pu_n L w) : m 1 (65 + pu_p L i) = w (pu_q L i) 5 := (pu_C_rows (hW.2.2.1 i hi)).2.2
theorem pu_openN {L : Nat} {w m : k_M} (hW : pu_W L w (m 1)) : f_X9_openChutes w = some (pu_sf (pu_fs L w 1) 0 (pu_n L w)) ∧ f_X11_inState m 1 = some (pu_sf (pu_fs L w 1) 0 (pu_n L w)) :=
  ⟨pu_open_c hW.1.1 hW.1.2.1, pu_in_m hW.1.1 hW.1.2.2 hW.2.1.2.1 hW.2.1.1 (fun i hi => pu_state hW hi) 1⟩
theorem pu_cutW {L i : Nat} {w m : k_M} (hW : pu_W L w (m 1)) (hi : i < pu_n L w) (h1 : w (pu_q L i) 5 = 1) : ∃ w' m', f_X9_cutAway w (kn i) = some w' ∧ f_X11_tells (k_up (k_up m 1 (65 + pu_p L i) 4) 1 15 (m 1 15 + (w (pu_q L i) 1 - w (pu_q L i) 7))) 5 (kn i) (w (pu_q L i) 1 - w (pu_q L i) 7) = some m' ∧ pu_W L w' (m' 1) ∧ (∀ c, c ≠ 1 → m' c = m c) := by
  have hW0 := hW
  obtain ⟨⟨hL, a10, b8⟩, ⟨hR, b9, hJ⟩, hCh, hlo, hF, hT, hWi, hS, hE⟩ := hW
  have hq := pu_q_r (i := i) hL
  have hp := pu_p_r (i := i) hL
  have hnr := pu_n_r (L := L) (w := w)
  obtain ⟨-, -, -, -, -, -, -, -, -, -, c6, -⟩ := id hF
  generalize hd : w (pu_q L i) 1 - w (pu_q L i) 7 = d
  have e0 : (k_up w (pu_q L i) 5 4) 0 = w 0 := k_upc _ _ (by omega)
  have ms : ∀ j, j ≠ 15 → j ≠ 65 + pu_p L i → (k_up (k_up m 1 (65 + pu_p L i) 4) 1 15 (m 1 15 + d)) 1 j = m 1 j := fun j h1 h2 => by rw [k_upi _ _ h1, k_upi _ _ h2]
  have hE1 : pu_E (k_up w (pu_q L i) 5 4) ((k_up (k_up m 1 (65 + pu_p L i) 4) 1 15 (m 1 15 + d)) 1) := pu_E_congr hE (by rw [k_upc _ _ (by omega)]) (by rw [k_upc _ _ (by omega)]) (fun i _ => by rw [k_upc _ _ (by omega)]) (ms _ (by omega) (by omega)) (fun j h1 h2 => ms _ (by omega) (by omega))
  obtain ⟨w', m', r1, r2, r3, r4, r5, r6⟩ := pu_tells hE1 (by rw [ms _ (by omega) (by omega), e0]; exact c6) 5 (kn i) d
  have hwq : w' (pu_q L i) = (k_up w (pu_q L i) 5 4) (pu_q L i) := r3 _ (by omega) (by omega)
  have hw0 : w' 0 = w 0 := by rw [r3 0 (by omega) (by omega), e0]
  have hkeep : ∀ c, c ≠ pu_q L i → c ≠ 13 → c ≠ 14 → w' c = w c := fun c h1 h2 h3 => by rw [r3 c h2 h3, k_upc _ _ h1]
  have h5 : w' (pu_q L i) 5 = 4 := by rw [hwq, k_ups]
  have hx : ∀ j, j ≠ 5 → w' (pu_q L i) j = w (pu_q L i) j := fun j hj => by rw [hwq, k_upi _ _ hj]
  refine ⟨w', m', ?_, r2, ?_, fun c hc => by rw [r4 c hc, k_upc _ _ hc, k_upc _ _ hc]⟩
  · unfold f_X9_cutAway f_X0_linesThere
    rw [pu_at hL a10 (by omega), k_bds, k_ckp hq, k_lts, k_bds, k_upi _ _ (by decide), k_upi _ _ (by decide), hd, r1, k_bds]
  refine pu_W_chg hW0 hi hkeep (fun j h1 h2 h3 h4 h5 h6 => by rw [r5 j h1 h3, ms j h2 h4]) ?_ r6 ?_
  · obtain ⟨ar, li, st, t, g1, g2, g3, g4, ⟨k0, k1, k2, k7⟩, g6, g7, g8, ⟨q0, q1, q2, q3, q4, q5, q6, q7⟩⟩ := hCh i hi
    have hy : ∀ d, (d = 20 ∨ d = 29 ∨ d = 38 ∨ d = 47 ∨ d = 56 ∨ d = 74 ∨ d = 83) → m' 1 (d + pu_p L i) = m 1 (d + pu_p L i) := fun d hd => by rw [r5 _ (by omega) (by omega), ms _ (by omega) (by omega)]
    refine ⟨ar, li, st, t, ⟨g1.1, g1.2.1, by rw [h5]; exact Or.inr (Or.inr (Or.inr (Or.inr rfl)))⟩, g2, g3, g4, ⟨by rw [hx 0 (by omega)]; exact k0, by rw [hx 1 (by omega)]; exact k1, by rw [hx 2 (by omega)]; exact k2, by rw [hx 7 (by omega)]; exact k7⟩, fun h => ?_, fun h => ?_, by rw [hx 6 (by omega)]; exact g8, ⟨by rw [hy 20 (by omega)]; exact q0, by rw [hy 29 (by omega)]; exact q1, by rw [hy 38 (by omega)]; exact q2, by rw [hy 47 (by omega), hx 3 (by omega)]; exact q3, by rw [hy 56 (by omega), hx 4 (by omega)]; exact q4, ?_, by rw [hy 74 (by omega)]; exact q6, by rw [hy 83 (by omega), hx 6 (by omega)]; exact q7⟩⟩
    · rw [h5] at h
      exact absurd h (by decide)
    · rw [h5] at h
      exact absurd h (by decide)
    · rw [r5 _ (by omega) (by omega), k_upi _ _ (by omega), k_ups, h5]
  · rw [pu_lost_chg hL hi (by rw [hw0]) (fun c h1 h2 => hkeep c h1 (by omega) (by omega)), if_pos h5, if_neg (by rw [h1]; decide), hx 1 (by decide), hx 7 (by decide), hd, r5 15 (by omega) (by omega), k_ups, hlo]
    grind
theorem pu_c34 {u : k_U} (h : pu_P u) (x1 x2 x3 x4 x5 : Int32) : ∃ u', kLsel 34 u x1 x2 x3 x4 x5 = some u' ∧ pu_P u' := by
  show ∃ u', (k_bd (k_wrap [2] (f_X10_cut u x1)) fun r => k_bd (f_X11_cut (r.1 5) x1) fun q => kLck r q) = some u' ∧ _
  obtain ⟨⟨L, hW⟩, -⟩ := id h
  have hw0 : pu_R u (k_up (u 5) 0 0 0) := pu_R_th 0 h
  have hL : L ≤ 8 := hW.1.1
  have hnr := pu_n_r (L := L) (w := u 10)
  obtain ⟨h10, h11⟩ := pu_rel01 hW
  have e1 : k_up (u 5) 0 0 0 1 = u 5 1 := k_upc _ _ (by decide)
  have hW0 : pu_W L (u 10) (k_up (u 5) 0 0 0 1) := by rw [e1]; exact hW
  have em : f_X11_noChute (k_up (u 5) 0 0 0) x1 = _ := pu_noChute (n := pu_n L (u 10)) (by omega) (pu_up00 0) (pu_chutesM hW0) x1
  by_cases hb : 0 ≤ x1 ∧ x1 < kn (pu_n L (u 10))
  · obtain ⟨i, hi, rfl⟩ := kn_ofm hb.1 hb.2 (by omega)
    rw [if_pos hb] at em
    have hp := pu_p_r (i := i) hL
    have hq := pu_q_r (i := i) hL
    have em2 : f_X11_cut (u 5) (kn i) = f_X11_cuts (k_up (u 5) 0 0 0) (kn i) := by
      unfold f_X11_cut
      rw [k_lts, em, k_bds, if_pos rfl, pu_etaM]
    unfold f_X11_cuts at em2
    rw [pu_placeM hL hW0.1.2.2 (by omega), k_bds, e1, h10, kn_ladd, kn_ladd, k_ckn (by omega) (by decide), kn_nat (by omega), kn_nat (by omega)] at em2
    rw [show (OfNat.ofNat 65 : Nat) + pu_p L i = 65 + pu_p L i from rfl, show (OfNat.ofNat 74 : Nat) + pu_p L i = 74 + pu_p L i from rfl, pu_state hW hi] at em2
    generalize hX : f_X10_cut u (kn i) = X
    unfold f_X10_cut at hX
    rw [pu_hasCI hL hW.1.2.1, if_pos hb, k_bds, if_neg (by decide), pu_landed, k_bds, pu_at hL hW.1.2.1 (by omega), k_bds, k_ckp hq] at hX
    have ref : ∀ (a : Int32), 0 < a → a < 10 → X = (k_bd (f_X10_refuse u a) fun r34 => some (r34.1, (Sum.inl r34.2 : Int32 ⊕ Nat))) → f_X11_cut (u 5) (kn i) = (k_bd (f_X11_refused (k_up (u 5) 0 0 0) a) fun r17 => some (r17.1, r17.2)) → ∃ u', (k_bd (k_wrap [2] X) fun r => k_bd (f_X11_cut (r.1 5) (kn i)) fun q => kLck r q) = some u' ∧ pu_P u' := by
      intro a ha hb hX hm
      obtain ⟨u1, m1, r1, r2, r3, r4, r5⟩ := pu_refuseI hw0 (a := a) (by grind) hb
      refine pu_okw (F := fun m => f_X11_cut m (kn i)) (u' := u1) (v := -a) (q := m1) ?_ ?_ (by rw [r4, k_ups]) r3
      · rw [hX, r1, k_bds]
      · show f_X11_cut (u1 5) (kn i) = _
        rw [r5, hm, r2, k_bds]
    by_cases c1 : u 10 0 0 = 0
    · rw [if_pos c1] at em2
      rw [if_pos c1, if_neg (by decide)] at hX
      exact ref 1 (by decide) (by decide) hX.symm em2
    rw [if_neg c1] at em2
    rw [if_neg c1, if_pos rfl] at hX
    by_cases c2 : u 10 (pu_q L i) 5 = 1
    · rw [if_pos c2] at em2 hX
      obtain ⟨u1, m1, r1, r2, r3, r4, r5, r6, r7⟩ := pu_begin hw0
      have hW1 : pu_W L (u1 10) (m1 1) := by
        rw [r4, r5, e1]
        exact hW
      have hi1 : i < pu_n L (u1 10) := by rw [r4]; exact hi
      obtain ⟨w', m', s1, s2, s3, s4⟩ := pu_cutW hW1 hi1 (by rw [r4]; exact c2)
      refine pu_okw (F := fun m => f_X11_cut m (kn i)) (u' := k_uc u1 10 w') (v := pu_sf (pu_fs L w' 1) 0 (pu_n L w')) (q := m') ?_ ?_ (by rw [s4 0 (by decide), r6, k_ups]) (pu_R_w r3 s3 s4)
      · rw [← hX, r1, k_bds, s1, k_bds, k_lts, k_uc_s, (pu_openN s3).1, k_bds]
      · show f_X11_cut (k_uc u1 10 w' 5) (kn i) = _
        rw [pu_uc _ _ (by decide), r7, em2, r2, k_bds, k_ckn (by omega) (by decide)]
        rw [show (OfNat.ofNat 74 : Nat) + pu_p L i = 74 + pu_p L i from rfl, pu_bits (hW1.2.2.1 i hi1), k_bds, k_ckn (by omega) (by decide), k_lts, k_lts, k_upi _ _ (show 15 ≠ 65 + pu_p L i by omega)]
        rw [show (OfNat.ofNat 65 : Nat) + pu_p L i = 65 + pu_p L i from rfl, s2, k_bds, (pu_openN s3).2, k_bds]
    · rw [if_neg c2] at em2 hX
      exact ref 8 (by decide) (by decide) hX.symm em2
  · rw [if_neg hb] at em
    refine pu_erw (F := fun m => f_X11_cut m x1) (u' := u) (j := 2) (v := 0) (q := k_up (k_up (u 5) 0 0 0) 0 0 1) ?_ (by decide) ?_ (by rw [k_ups]; rfl) (by decide) (pu_R_th 1 hw0)
    · unfold f_X10_cut
      rw [pu_hasCI hL hW.1.2.1, if_neg hb, k_bds, if_pos rfl]
    · show f_X11_cut (u 5) x1 = _
      unfold f_X11_cut
      rw [k_lts, em, k_bds, if_neg (show ¬ (1 : Int32) = 0 by decide)]
/-- SLIP alone -/
theorem pu_slipW {L : Nat} {w : k_M} {s s1 : Nat → Int32} (hW : pu_W L w s) {a : Int32} (h5 : s1 5 = a) (hs : ∀ j, j ≠ 5 → s1 j = s j) : pu_W L (k_up w 0 5 a) s1 := by
  refine pu_W_scal hW (fun c hc => k_upc _ _ hc) (k_upi _ _ (by decide)) (k_upi _ _ (by decide)) (fun j h1 h2 h3 => hs j (by omega)) ?_
  obtain ⟨hh, v, he, ma, h1, h2, ⟨a0, a1, a4, a3⟩, ⟨b0, b1, b4, b3⟩, c2, c5, c6, c7, c13, c14⟩ := hW.2.2.2.2.1
  have e : ∀ i, i ≠ 5 → k_up w 0 5 a 0 i = w 0 i := fun i hi => k_upi _ _ hi
  exact ⟨hh, v, he, ma, h1, h2, ⟨by rw [e 0 (by decide)]; exact a0, by rw [e 1 (by decide)]; exact a1, by rw [e 4 (by decide)]; exact a4, by rw [e 3 (by decide)]; exact a3⟩, ⟨by rw [hs 0 (by decide)]; exact b0, by rw [hs 1 (by decide)]; exact b1, by rw [hs 4 (by decide)]; exact b4, by rw [hs 3 (by decide)]; exact b3⟩, by rw [hs 2 (by decide), e 2 (by decide)]; exact c2, by rw [h5, k_ups], by rw [hs 6 (by decide), e 6 (by decide)]; exact c6, by rw [hs 7 (by decide), e 7 (by decide)]; exact c7, by rw [hs 13 (by decide), e 8 (by decide)]; exact c13, by rw [hs 14 (by decide), e 9 (by decide)]; exact c14⟩
theorem pu_slip {L : Nat} {w m : k_M} (hW : pu_W L w (m 1)) : m 1 5 = w 0 5 := by
  obtain ⟨_, _, _, _, -, -, -, -, -, c5, -⟩ := hW.2.2.2.2.1
  exact c5
theorem pu_c35 {u : k_U} (h : pu_P u) (x1 x2 x3 x4 x5 : Int32) : ∃ u', kLsel 35 u x1 x2 x3 x4 x5 = some u' ∧ pu_P u' := by
  show ∃ u', (k_bd (k_wrap [1] (f_X10_steer u x1)) fun r => k_bd (f_X11_steer (r.1 5) x1) fun q => kLck r q) = some u' ∧ _
  obtain ⟨⟨L, hW⟩, -⟩ := id h
  have hw0 : pu_R u (k_up (u 5) 0 0 0) := pu_R_th 0 h
  obtain ⟨h10, h11⟩ := pu_rel01 hW
  have e1 : k_up (u 5) 0 0 0 1 = u 5 1 := k_upc _ _ (by decide)
  have hW0 : pu_W L (u 10) (k_up (u 5) 0 0 0 1) := by rw [e1]; exact hW
  by_cases hb : -9 ≤ x1 ∧ x1 ≤ 9
  · have em : f_X11_steer (u 5) x1 = f_X11_steers (k_up (u 5) 0 0 0) x1 := by
      unfold f_X11_steer f_X11_steer_22
      rw [k_lts, pu_in, k_bds, if_pos hb, if_neg (by decide), pu_thr0 (pu_up00 0), k_bds, if_pos rfl, pu_etaM]
    unfold f_X11_steers at em
    rw [e1, h10, (pu_openN hW0).2] at em
    generalize hX : f_X10_steer u x1 = X
    unfold f_X10_steer at hX
    rw [if_neg (by grind), if_pos hb.2, pu_landed, k_bds, (pu_openN hW).1] at hX
    have ref : ∀ (a : Int32), 0 < a → a < 10 → X = (k_bd (f_X10_refuse u a) fun r34 => some (r34.1, (Sum.inl r34.2 : Int32 ⊕ Nat))) → f_X11_steer (u 5) x1 = (k_bd (f_X11_refused (k_up (u 5) 0 0 0) a) fun r17 => some (r17.1, r17.2)) → ∃ u', (k_bd (k_wrap [1] X) fun r => k_bd (f_X11_steer (r.1 5) x1) fun q => kLck r q) = some u' ∧ pu_P u' := by
      intro a ha hb hX hm
      obtain ⟨u1, m1, r1, r2, r3, r4, r5⟩ := pu_refuseI hw0 (a := a) (by grind) hb
      refine pu_okw (F := fun m => f_X11_steer m x1) (u' := u1) (v := -a) (q := m1) ?_ ?_ (by rw [r4, k_ups]) r3
      · rw [hX, r1, k_bds]
      · show f_X11_steer (u1 5) x1 = _
        rw [r5, hm, r2, k_bds]
    by_cases c1 : u 10 0 0 = 0
    · rw [if_pos c1] at em
      rw [if_pos c1, if_neg (by decide)] at hX
      exact ref 1 (by decide) (by decide) hX.symm em
    rw [if_neg c1, k_bds] at em
    rw [if_neg c1, if_pos rfl, k_bds] at hX
    by_cases c2 : pu_sf (pu_fs L (u 10) 1) 0 (pu_n L (u 10)) = 0
    · rw [if_pos c2] at em hX
      exact ref 8 (by decide) (by decide) hX.symm em
    · rw [if_neg c2] at em hX
      obtain ⟨u1, m1, r1, r2, r3, r4, r5, r6, r7⟩ := pu_begin hw0
      have hW1 : pu_W L (u1 10) (m1 1) := by
        rw [r4, r5, e1]
        exact hW
      refine pu_okw (F := fun m => f_X11_steer m x1) (u' := k_uc u1 10 (k_up (u1 10) 0 5 x1)) (v := u1 10 0 5 + 9) (q := k_up m1 1 5 x1) ?_ ?_ (by rw [k_upc _ _ (by decide), r6, k_ups]) (pu_R_w (L := L) r3 (pu_slipW hW1 (k_ups _ _ _ _) (fun j hj => k_upi _ _ hj)) (fun c hc => k_upc _ _ hc))
      · rw [← hX, r1, k_bds, k_lts, k_lts]
      · show f_X11_steer (k_uc u1 10 (k_up (u1 10) 0 5 x1) 5) x1 = _
        rw [pu_uc _ _ (by decide), r7, em, r2, k_bds, k_lts, k_lts, pu_slip hW1]
  · refine pu_erw (F := fun m => f_X11_steer m x1) (u' := u) (j := 1) (v := 0) (q := k_up (k_up (u 5) 0 0 0) 0 0 1) ?_ (by decide) ?_ (by rw [k_ups]; rfl) (by decide) (pu_R_th 1 hw0)
    · unfold f_X10_steer f_X10_steer_12
      by_cases h1 : x1 < -9
      · rw [if_pos h1]
      · rw [if_neg h1, if_neg (by grind)]
    · show f_X11_steer (u 5) x1 = _
      unfold f_X11_steer f_X11_steer_22
      rw [k_lts, pu_in, k_bds, if_neg hb, if_pos rfl, pu_thr1 (pu_up00 0) (Or.inl rfl), k_bds, if_neg (show ¬ (1 : Int32) = 0 by decide)]

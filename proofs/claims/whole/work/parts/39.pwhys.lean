/-! the queries that look at the rules: asks, why, whyReserve, loadOn, wouldTear, share, meanSpeed -/
theorem pu_asksW {L : Nat} {w m : k_M} (hW : pu_W L w (m 1)) : ∃ r, f_X9_asksForBrakes w = some r ∧ f_X11_asksNow m = some r ∧ (r = 0 ∨ r = 1) := pu_asks hW.2.2.2.2.2.1 (pu_rel01 hW).1 (pu_rel01 hW).2
theorem pu_c14 {u : k_U} (h : pu_P u) (x1 x2 x3 x4 x5 : Int32) : ∃ u', kLsel 14 u x1 x2 x3 x4 x5 = some u' ∧ pu_P u' := by
  obtain ⟨⟨L, hW⟩, -⟩ := id h
  have hw0 : pu_R u (k_up (u 5) 0 0 0) := pu_R_th 0 h
  have e1 : k_up (u 5) 0 0 0 1 = u 5 1 := k_upc _ _ (by decide)
  have hW0 : pu_W L (u 10) (k_up (u 5) 0 0 0 1) := by rw [e1]; exact hW
  obtain ⟨r, r1, r2, r3⟩ := pu_asksW hW0
  refine pu_okv (x := f_X10_asks u) (F := f_X11_asks) (v := r) (q := k_up (u 5) 0 0 0) ?_ ?_ hw0
  · unfold f_X10_asks
    rw [r1, k_bds, k_ckp r3]
  · unfold f_X11_asks
    rw [k_lts, r2, k_bds, k_ckp r3]
theorem pu_find_ne {P : Nat → Prop} {j : Nat} (hP : P j) : ∀ (k i : Nat), i ≤ j → j < i + k → i + k < 4000 → ¬ pu_find P i k = -1 := by
  intro k
  induction k with
  | zero => intro i h1 h2; omega
  | succ k ih =>
    intro i h1 h2 h3
    unfold pu_find
    by_cases h : P i
    · rw [if_pos h, kn_neg1 (by omega)]
      exact fun h => h
    · rw [if_neg h]
      have : i ≠ j := fun e => h (e ▸ hP)
      exact ih (i + 1) (by omega) (by omega) (by omega)
theorem pu_c15 {u : k_U} (h : pu_P u) (x1 x2 x3 x4 x5 : Int32) : ∃ u', kLsel 15 u x1 x2 x3 x4 x5 = some u' ∧ pu_P u' := by
  show ∃ u', (k_bd (k_wrap0 [2] u (f_X10_why u x1)) fun r => k_bd (f_X11_why (r.1 5) x1) fun q => kLck r q) = some u' ∧ _
  obtain ⟨⟨L, hW⟩, -⟩ := id h
  have hw0 : pu_R u (k_up (u 5) 0 0 0) := pu_R_th 0 h
  have hL : L ≤ 8 := hW.1.1
  have e1 : k_up (u 5) 0 0 0 1 = u 5 1 := k_upc _ _ (by decide)
  have hW0 : pu_W L (u 10) (k_up (u 5) 0 0 0 1) := by rw [e1]; exact hW
  obtain ⟨h10, h11⟩ := pu_rel01 hW
  have em : f_X11_noLayer (k_up (u 5) 0 0 0) x1 = _ := pu_noLayer (L := L) (by omega) (pu_up00 0) (by rw [e1]; exact hW.1.2.2) x1
  by_cases hb : 0 ≤ x1 ∧ x1 < kn L
  · obtain ⟨i, hi, rfl⟩ := kn_ofm hb.1 hb.2 (by omega)
    rw [if_pos hb] at em
    have hrel := pu_rel65 hW i hi
    obtain ⟨a, a1, a2, a3⟩ := pu_asksW hW0
    have hst : pu_st5 (u 10 (15 + i) 5) := by
      obtain ⟨_, _, _, _, g1, -⟩ := hW.2.2.1 i (pu_n_L hi)
      rw [pu_q_l hi] at g1
      exact g1.2.2
    have em2 : f_X11_why (u 5) (kn i) = k_bd (f_X11_whyOf (k_up (u 5) 0 0 0) (kn i)) fun r19 => some (k_up (u 5) 0 0 0, r19) := by
      unfold f_X11_why
      rw [k_lts, em, k_bds, if_pos rfl]
    have ec2 : f_X10_why u (kn i) = k_bd (f_X9_whyLayer (u 10) (kn i)) fun r27 => some (Sum.inl r27) := by
      unfold f_X10_why
      rw [pu_hasI hL hW.1.2.1, if_pos hb, k_bds, if_neg (by decide)]
    have key : ∃ v, f_X9_whyLayer (u 10) (kn i) = some v ∧ f_X11_whyOf (k_up (u 5) 0 0 0) (kn i) = some v := by
      generalize hX : f_X9_whyLayer (u 10) (kn i) = X
      generalize hY : f_X11_whyOf (k_up (u 5) 0 0 0) (kn i) = Y
      unfold f_X9_whyLayer at hX
      unfold f_X11_whyOf at hY
      rw [k_ckn (by omega) (by decide), kn_nat (by omega), a1, k_bds, (pu_first hW).1, k_bds] at hX
      rw [(pu_first hW0).2, k_bds, kn_ladd, k_ckn (by omega) (by decide), kn_nat (by omega), kn_ladd, k_ckn (by omega) (by decide), kn_nat (by omega), kn_ladd, k_ckn (by omega) (by decide), kn_nat (by omega), a2, k_bds, e1, h10, h11] at hY
      rw [show (OfNat.ofNat 65 : Nat) + i = 65 + i from rfl, show (OfNat.ofNat 47 : Nat) + i = 47 + i from rfl, show (OfNat.ofNat 56 : Nat) + i = 56 + i from rfl, hrel.1, hrel.2.1, hrel.2.2.1] at hY
      by_cases s1 : u 10 (15 + i) 5 = 1
      · rw [if_pos s1] at hX hY
        exact ⟨0, hX.symm, hY.symm⟩
      rw [if_neg s1] at hX hY
      by_cases s2 : u 10 (15 + i) 5 = 2
      · rw [if_pos s2] at hX hY
        exact ⟨1, hX.symm, hY.symm⟩
      rw [if_neg s2] at hX hY
      by_cases s3 : u 10 (15 + i) 5 = 3
      · rw [if_pos s3] at hX hY
        exact ⟨2, hX.symm, hY.symm⟩
      rw [if_neg s3] at hX hY
      by_cases s4 : u 10 (15 + i) 5 = 4
      · rw [if_pos s4] at hX hY
        exact ⟨3, hX.symm, hY.symm⟩
      rw [if_neg s4] at hX hY
      by_cases c1 : u 10 0 0 ≤ u 10 (15 + i) 3
      · rw [if_pos c1] at hX hY
        by_cases c2 : u 10 0 1 ≤ u 10 (15 + i) 4
        · rw [if_pos c2] at hX hY
          by_cases c3 : a = 0
          · rw [if_pos c3] at hX hY
            exact ⟨6, hX.symm, hY.symm⟩
          · have hm : pu_may (u 10) i := ⟨by
              rcases hst with h | h | h | h | h
              · exact h
              · exact absurd h s1
              · exact absurd h s2
              · exact absurd h s3
              · exact absurd h s4, by grind, by grind⟩
            have hne := pu_find_ne hm L 0 (by omega) (by omega) (by omega)
            rw [if_neg c3] at hX hY
            rw [if_neg hne] at hY
            by_cases c4 : kn i ≤ pu_find (pu_may (u 10)) 0 L
            · rw [if_pos c4] at hX hY
              exact ⟨8, hX.symm, hY.symm⟩
            · rw [if_neg c4] at hX hY
              exact ⟨7, hX.symm, hY.symm⟩
        · rw [if_neg c2] at hX hY
          exact ⟨5, hX.symm, hY.symm⟩
      · rw [if_neg c1] at hX hY
        exact ⟨4, hX.symm, hY.symm⟩
    obtain ⟨v, k1, k2⟩ := key
    refine pu_okw0 (F := fun m => f_X11_why m (kn i)) (v := v) (q := k_up (u 5) 0 0 0) ?_ ?_ (k_ups _ _ _ _) hw0
    · rw [ec2, k1, k_bds]
    · show f_X11_why (u 5) (kn i) = _
      rw [em2, k2, k_bds]
  · rw [if_neg hb] at em
    refine pu_erw0 (F := fun m => f_X11_why m x1) (j := 2) (v := 0) (q := k_up (k_up (u 5) 0 0 0) 0 0 1) ?_ (by decide) ?_ (by rw [k_ups]; rfl) (by decide) (pu_R_th 1 hw0)
    · unfold f_X10_why
      rw [pu_hasI hL hW.1.2.1, if_neg hb, k_bds, if_pos rfl]
    · show f_X11_why (u 5) x1 = _
      unfold f_X11_why
      rw [k_lts, em, k_bds, if_neg (show ¬ (1 : Int32) = 0 by decide)]
theorem pu_c16 {u : k_U} (h : pu_P u) (x1 x2 x3 x4 x5 : Int32) : ∃ u', kLsel 16 u x1 x2 x3 x4 x5 = some u' ∧ pu_P u' := by
  obtain ⟨⟨L, hW⟩, -⟩ := id h
  have hw0 : pu_R u (k_up (u 5) 0 0 0) := pu_R_th 0 h
  have e1 : k_up (u 5) 0 0 0 1 = u 5 1 := k_upc _ _ (by decide)
  have hW0 : pu_W L (u 10) (k_up (u 5) 0 0 0 1) := by rw [e1]; exact hW
  obtain ⟨h10, h11⟩ := pu_rel01 hW
  obtain ⟨a, a1, a2, a3⟩ := pu_asksW hW0
  have key : ∃ v, f_X10_whyReserve u = some v ∧ f_X11_whyReserve (u 5) = some (k_up (u 5) 0 0 0, v) := by
    generalize hX : f_X10_whyReserve u = X
    generalize hY : f_X11_whyReserve (u 5) = Y
    unfold f_X10_whyReserve f_X9_whyOfReserve at hX
    unfold f_X11_whyReserve at hY
    rw [k_lts, (pu_first hW0).2, k_bds, (pu_failed hW0).2, k_bds, a2, k_bds, e1, h10, hW.2.1.2.1, k_lts] at hY
    rw [(pu_first hW).1, k_bds, (pu_failed hW).1, k_bds, a1, k_bds] at hX
    by_cases c1 : u 10 0 11 = 0
    · rw [if_pos c1] at hX hY
      rw [k_bds] at hX
      exact ⟨1, hX.symm, hY.symm⟩
    rw [if_neg c1] at hX hY
    have hR : u 10 0 11 = 1 := hW.2.1.1.resolve_left c1
    obtain ⟨k73, k55, k64, -⟩ := pu_relR hW hR
    rw [k73, k55, k64] at hY
    by_cases c2 : u 10 2 5 = 1
    · rw [if_pos c2, k_bds] at hX
      rw [if_neg (by rw [c2]; decide), if_pos c2] at hY
      exact ⟨0, hX.symm, hY.symm⟩
    rw [if_neg c2] at hX
    by_cases c3 : u 10 2 5 = 0
    · rw [if_pos c3] at hX hY
      by_cases c4 : u 10 0 0 ≤ u 10 2 3
      · rw [if_pos c4] at hX hY
        by_cases c5 : u 10 2 4 ≤ pu_sf (pu_ff (u 10)) 0 L
        · rw [if_pos c5] at hX hY
          by_cases c6 : pu_find (pu_may (u 10)) 0 L = -1
          · rw [if_pos c6] at hX hY
            by_cases c7 : a = 0
            · rw [if_pos c7] at hX hY
              rw [k_bds] at hX
              exact ⟨6, hX.symm, hY.symm⟩
            · rw [if_neg c7] at hX hY
              rw [k_bds] at hX
              exact ⟨7, hX.symm, hY.symm⟩
          · rw [if_neg c6] at hX hY
            rw [k_bds] at hX
            exact ⟨5, hX.symm, hY.symm⟩
        · rw [if_neg c5] at hX hY
          rw [k_bds] at hX
          exact ⟨4, hX.symm, hY.symm⟩
      · rw [if_neg c4] at hX hY
        rw [k_bds] at hX
        exact ⟨3, hX.symm, hY.symm⟩
    · rw [if_neg c3] at hX hY
      rw [if_neg c2] at hY
      rw [k_bds] at hX
      exact ⟨2, hX.symm, hY.symm⟩
  obtain ⟨v, k1, k2⟩ := key
  exact pu_okv (x := f_X10_whyReserve u) (F := f_X11_whyReserve) k1 k2 hw0

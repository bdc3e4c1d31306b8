/-! loadOn, wouldTear, share, meanSpeed -/
theorem pu_airM {L : Nat} {w : k_M} {s : Nat → Int32} (hW : pu_W L w s) : ∃ h v he : Nat, h ≤ 30000 ∧ v ≤ 900 ∧ he ≤ 999 ∧ w 0 0 = kn h ∧ w 0 1 = kn v ∧ w 0 4 = kn he ∧ s 4 = kn he ∧ f_X9_air w = some (kn (100 - h / 400)) := by
  obtain ⟨h, v, he, ma, ⟨hh, hv, hhe, -, -⟩, -, ⟨w0, w1, w4, -⟩, ⟨-, -, s4, -⟩, -⟩ := hW.2.2.2.2.1
  refine ⟨h, v, he, hh, hv, hhe, w0, w1, w4, s4, ?_⟩
  unfold f_X9_air
  rw [w0, pu_air0 hh]
theorem pu_c17 {u : k_U} (h : pu_P u) (x1 x2 x3 x4 x5 : Int32) : ∃ u', kLsel 17 u x1 x2 x3 x4 x5 = some u' ∧ pu_P u' := by
  show ∃ u', (k_bd (k_wrap0 [2] u (f_X10_loadOn u x1)) fun r => k_bd (f_X11_loadOn (r.1 5) x1) fun q => kLck r q) = some u' ∧ _
  obtain ⟨⟨L, hW⟩, -⟩ := id h
  have hw0 : pu_R u (k_up (u 5) 0 0 0) := pu_R_th 0 h
  have hL : L ≤ 8 := hW.1.1
  have hnr := pu_n_r (L := L) (w := u 10)
  have e1 : k_up (u 5) 0 0 0 1 = u 5 1 := k_upc _ _ (by decide)
  have hW0 : pu_W L (u 10) (k_up (u 5) 0 0 0 1) := by rw [e1]; exact hW
  have em : f_X11_noChute (k_up (u 5) 0 0 0) x1 = _ := pu_noChute (n := pu_n L (u 10)) (by omega) (pu_up00 0) (pu_chutesM hW0) x1
  by_cases hb : 0 ≤ x1 ∧ x1 < kn (pu_n L (u 10))
  · obtain ⟨i, hi, rfl⟩ := kn_ofm hb.1 hb.2 (by omega)
    rw [if_pos hb] at em
    have hp := pu_p_r (i := i) hL
    have hq := pu_q_r (i := i) hL
    have hC := hW0.2.2.1 i hi
    have hbit := pu_bits hC
    obtain ⟨ar, li, st, t, -, hli, -, ht, ⟨k0, k1, k2, k7⟩, -, hop, g8, ⟨q0, q1, q2, q3, q4, q5, q6, q7⟩⟩ := hC
    have hY : f_X11_loadOn (u 5) (kn i) = (if u 10 (pu_q L i) 5 = 1 then k_bd (f_X11_loadFor (k_up (u 5) 0 0 0) (kn (pu_p L i)) (u 10 (pu_q L i) 1 - u 10 (pu_q L i) 7)) fun r48 => some (k_up (u 5) 0 0 0, r48.toInt32) else some (k_up (u 5) 0 0 0, 0)) := by
      unfold f_X11_loadOn
      rw [k_lts, em, k_bds, if_pos rfl, pu_placeM hL (by exact hW0.1.2.2) (by omega), k_bds, kn_ladd, k_ckn (by omega) (by decide), kn_nat (by omega), kn_ladd, k_ckn (by omega) (by decide), kn_nat (by omega)]
      rw [show ((k_up (u 5) 0 0 0, (0 : Int32)).1) = k_up (u 5) 0 0 0 from rfl, show (OfNat.ofNat 65 : Nat) + pu_p L i = 65 + pu_p L i from rfl, show (OfNat.ofNat 74 : Nat) + pu_p L i = 74 + pu_p L i from rfl, q5, hbit, k_bds]
    generalize hX : f_X10_loadOn u (kn i) = X
    unfold f_X10_loadOn at hX
    rw [pu_hasCI hL hW.1.2.1, if_pos hb, k_bds, if_neg (by decide), pu_at hL hW.1.2.1 (by omega), k_bds, k_ckp hq] at hX
    by_cases c1 : u 10 (pu_q L i) 5 = 1
    · rw [if_pos c1] at hX hY
      obtain ⟨hh, v, he, b1, b2, b3, w0, w1, w4, s4, hair⟩ := pu_airM hW0
      obtain ⟨B, -, p1, p2⟩ := pu_pull_m hW0 hi b1 b2 w0 w1
      have htl := hop c1
      rw [hair, k_bds, p2, k_bds, k7, pu_load_c k1 hli.2 htl, k_bds] at hX
      rw [k1, k7, kn_sub (by omega), pu_load_m p1 (pu_slip hW0) (by omega) (by omega), k_bds] at hY
      exact pu_okw0 (F := fun m => f_X11_loadOn m (kn i)) hX.symm hY (k_ups _ _ _ _) hw0
    · rw [if_neg c1] at hX hY
      exact pu_okw0 (F := fun m => f_X11_loadOn m (kn i)) hX.symm hY (k_ups _ _ _ _) hw0
  · rw [if_neg hb] at em
    refine pu_erw0 (F := fun m => f_X11_loadOn m x1) (j := 2) (v := 0) (q := k_up (k_up (u 5) 0 0 0) 0 0 1) ?_ (by decide) ?_ (by rw [k_ups]; rfl) (by decide) (pu_R_th 1 hw0)
    · unfold f_X10_loadOn
      rw [pu_hasCI hL hW.1.2.1, if_neg hb, k_bds, if_pos rfl]
    · show f_X11_loadOn (u 5) x1 = _
      unfold f_X11_loadOn
      rw [k_lts, em, k_bds, if_neg (show ¬ (1 : Int32) = 0 by decide)]
theorem pu_c18 {u : k_U} (h : pu_P u) (x1 x2 x3 x4 x5 : Int32) : ∃ u', kLsel 18 u x1 x2 x3 x4 x5 = some u' ∧ pu_P u' := by
  show ∃ u', (k_bd (k_wrap0 [2] u (f_X10_wouldTear u x1)) fun r => k_bd (f_X11_wouldTear (r.1 5) x1) fun q => kLck r q) = some u' ∧ _
  obtain ⟨⟨L, hW⟩, -⟩ := id h
  have hw0 : pu_R u (k_up (u 5) 0 0 0) := pu_R_th 0 h
  have hL : L ≤ 8 := hW.1.1
  have hnr := pu_n_r (L := L) (w := u 10)
  have e1 : k_up (u 5) 0 0 0 1 = u 5 1 := k_upc _ _ (by decide)
  have hW0 : pu_W L (u 10) (k_up (u 5) 0 0 0 1) := by rw [e1]; exact hW
  have em : f_X11_noChute (k_up (u 5) 0 0 0) x1 = _ := pu_noChute (n := pu_n L (u 10)) (by omega) (pu_up00 0) (pu_chutesM hW0) x1
  by_cases hb : 0 ≤ x1 ∧ x1 < kn (pu_n L (u 10))
  · obtain ⟨i, hi, rfl⟩ := kn_ofm hb.1 hb.2 (by omega)
    rw [if_pos hb] at em
    have hp := pu_p_r (i := i) hL
    have hq := pu_q_r (i := i) hL
    have hC := hW0.2.2.1 i hi
    have hbit := pu_bits hC
    have q5 := pu_state hW0 hi
    have hY : f_X11_wouldTear (u 5) (kn i) = (if u 10 (pu_q L i) 5 = 1 then k_bd (f_X11_linesLeft (k_up (u 5) 0 0 0) (kn (pu_p L i))) fun r48 => k_bd (f_X11_bits r48) fun r51 => some (k_up (u 5) 0 0 0, (u 10 (pu_q L i) 1 - u 10 (pu_q L i) 7) - r51) else some (k_up (u 5) 0 0 0, 0)) := by
      unfold f_X11_wouldTear
      rw [k_lts, em, k_bds, if_pos rfl, pu_placeM hL (by exact hW0.1.2.2) (by omega), k_bds, kn_ladd, k_ckn (by omega) (by decide), kn_nat (by omega), kn_ladd, k_ckn (by omega) (by decide), kn_nat (by omega)]
      rw [show ((k_up (u 5) 0 0 0, (0 : Int32)).1) = k_up (u 5) 0 0 0 from rfl, show (OfNat.ofNat 65 : Nat) + pu_p L i = 65 + pu_p L i from rfl, show (OfNat.ofNat 74 : Nat) + pu_p L i = 74 + pu_p L i from rfl, q5, hbit, k_bds]
    generalize hX : f_X10_wouldTear u (kn i) = X
    unfold f_X10_wouldTear at hX
    rw [pu_hasCI hL hW.1.2.1, if_pos hb, k_bds, if_neg (by decide), pu_at hL hW.1.2.1 (by omega), k_bds, k_ckp hq] at hX
    by_cases c1 : u 10 (pu_q L i) 5 = 1
    · rw [if_pos c1] at hX hY
      obtain ⟨hh, v, he, b1, b2, b3, w0, w1, w4, s4, hair⟩ := pu_airM hW0
      obtain ⟨B, -, p1, p2⟩ := pu_pull_m hW0 hi b1 b2 w0 w1
      obtain ⟨li, t, G, k1, k7, ht, hli, hG, hGl, -, l1, l2⟩ := pu_left hp hC b3 s4 (pu_slip hW0) p1 c1
      rw [hair, k_bds, p2, k_bds, w4, l1, k_bds] at hX
      rw [l2, k_bds, kmask_bits li (by omega) G (by omega), k_bds, k1, k7, kn_sub (by omega), kn_sub (by omega), show li - t - (li - G) = G - t by omega] at hY
      exact pu_okw0 (F := fun m => f_X11_wouldTear m (kn i)) hX.symm hY (k_ups _ _ _ _) hw0
    · rw [if_neg c1] at hX hY
      exact pu_okw0 (F := fun m => f_X11_wouldTear m (kn i)) hX.symm hY (k_ups _ _ _ _) hw0
  · rw [if_neg hb] at em
    refine pu_erw0 (F := fun m => f_X11_wouldTear m x1) (j := 2) (v := 0) (q := k_up (k_up (u 5) 0 0 0) 0 0 1) ?_ (by decide) ?_ (by rw [k_ups]; rfl) (by decide) (pu_R_th 1 hw0)
    · unfold f_X10_wouldTear
      rw [pu_hasCI hL hW.1.2.1, if_neg hb, k_bds, if_pos rfl]
    · show f_X11_wouldTear (u 5) x1 = _
      unfold f_X11_wouldTear
      rw [k_lts, em, k_bds, if_neg (show ¬ (1 : Int32) = 0 by decide)]
theorem pu_sumN {L : Nat} {w : k_M} {s : Nat → Int32} (hW : pu_W L w s) : ∀ (k i : Nat), i + k ≤ pu_n L w → ∃ N : Nat, pu_sf (pu_g1 L w) i k = kn N ∧ k ≤ N ∧ N ≤ 12 * k := by
  intro k
  induction k with
  | zero => intro i _; exact ⟨0, rfl, Nat.le_refl 0, Nat.le_refl 0⟩
  | succ k ih =>
    intro i hi
    obtain ⟨N, a, b, c⟩ := ih (i + 1) (by omega)
    obtain ⟨ar, li, st, t, -, hli, -, ht, ⟨k0, k1, k2, k7⟩, -⟩ := hW.2.2.1 i (by omega)
    have es : pu_sf (pu_g1 L w) i (k + 1) = w (pu_q L i) 1 + pu_sf (pu_g1 L w) (i + 1) k := rfl
    rw [es, a, k1, kn_add]
    exact ⟨li + N, rfl, by omega, by omega⟩
theorem pu_c19 {u : k_U} (h : pu_P u) (x1 x2 x3 x4 x5 : Int32) : ∃ u', kLsel 19 u x1 x2 x3 x4 x5 = some u' ∧ pu_P u' := by
  obtain ⟨⟨L, hW⟩, -⟩ := id h
  have hw0 : pu_R u (k_up (u 5) 0 0 0) := pu_R_th 0 h
  have hL : L ≤ 8 := hW.1.1
  have hnr := pu_n_r (L := L) (w := u 10)
  have e1 : k_up (u 5) 0 0 0 1 = u 5 1 := k_upc _ _ (by decide)
  have hW0 : pu_W L (u 10) (k_up (u 5) 0 0 0 1) := by rw [e1]; exact hW
  have all : f_X11_allLines (k_up (u 5) 0 0 0) = some (pu_sf (pu_g1 L (u 10)) 0 (pu_n L (u 10))) := pu_all_m hL hW0.1.2.2 hW0.2.1.2.1 hW0.2.1.1 (fun i hi => (pu_C_rows (hW0.2.2.1 i hi)).2.1)
  have thr : f_X11_linesThere (k_up (u 5) 0 0 0) = some (pu_sf (pu_gt L (u 10)) 0 (pu_n L (u 10))) := pu_thl_m hL hW0.1.2.2 hW0.2.1.2.1 hW0.2.1.1 (fun i hi => hW0.2.2.1 i hi)
  have spl := pu_sf_split L (u 10) (pu_n L (u 10)) 0
  obtain ⟨N, n1, n2, n3⟩ := pu_sumN hW (pu_n L (u 10)) 0 (by omega)
  have hY : f_X11_share (u 5) = (if kn (pu_n L (u 10)) = 0 then some (k_up (u 5) 0 0 0, (0, 0)) else k_ck (¬ kn N = 0) (some (k_up (u 5) 0 0 0, (pu_sf (pu_gt L (u 10)) 0 (pu_n L (u 10)), kn N)))) := by
    unfold f_X11_share
    rw [k_lts, pu_chutesM hW0, k_bds, thr, k_bds, all, k_bds, n1]
  have hX : f_X10_share u = (if kn N = 0 then some (0, 0) else some (pu_sf (pu_gt L (u 10)) 0 (pu_n L (u 10)), kn N)) := by
    unfold f_X10_share
    rw [pu_lines_c hL hW.1.2.1, k_bds, pu_lines_c hL hW.1.2.1, k_bds, show (10 : Int32) = kn 10 from rfl, show (11 : Int32) = kn 11 from rfl, pu_cl10, pu_cl11, ← spl, n1]
  by_cases c1 : pu_n L (u 10) = 0
  · have hN : N = 0 := by omega
    rw [hN, if_pos (show (kn 0 : Int32) = 0 from rfl)] at hX
    rw [c1, if_pos (show (kn 0 : Int32) = 0 from rfl)] at hY
    exact pu_okp (x := f_X10_share u) (F := f_X11_share) hX hY hw0
  · have hN0 : ¬ kn N = 0 := by
      rw [kn_eql (by omega) (by decide)]
      exact fun h => c1 (by have : N = 0 := h; omega)
    rw [if_neg hN0] at hX
    rw [if_neg (by rw [kn_eql (by omega) (by decide)]; exact c1), k_ckp hN0] at hY
    exact pu_okp (x := f_X10_share u) (F := f_X11_share) hX hY hw0
theorem pu_c20 {u : k_U} (h : pu_P u) (x1 x2 x3 x4 x5 : Int32) : ∃ u', kLsel 20 u x1 x2 x3 x4 x5 = some u' ∧ pu_P u' := by
  obtain ⟨⟨L, hW⟩, -⟩ := id h
  have hw0 : pu_R u (k_up (u 5) 0 0 0) := pu_R_th 0 h
  have e1 : k_up (u 5) 0 0 0 1 = u 5 1 := k_upc _ _ (by decide)
  obtain ⟨⟨f0, f1, f2, f3⟩, ⟨f4, f5, f6, f7⟩, f13, f14⟩ := pu_F0 hW
  have hY : f_X11_meanSpeed (u 5) = (if u 10 0 6 = 0 then some (k_up (u 5) 0 0 0, (0, 0)) else some (k_up (u 5) 0 0 0, (u 10 0 8, u 10 0 6))) := by
    unfold f_X11_meanSpeed
    rw [k_lts, e1, f6, f13]
  have hX : f_X10_meanSpeed u = (if u 10 0 6 = 0 then some (0, 0) else some (u 10 0 8, u 10 0 6)) := rfl
  by_cases c1 : u 10 0 6 = 0
  · rw [if_pos c1] at hX hY
    exact pu_okp (x := f_X10_meanSpeed u) (F := f_X11_meanSpeed) hX hY hw0
  · rw [if_neg c1] at hX hY
    exact pu_okp (x := f_X10_meanSpeed u) (F := f_X11_meanSpeed) hX hY hw0

/-! undo, save, restore -/
theorem pu_time1 {L : Nat} {w : k_M} {s : Nat → Int32} (hW : pu_W L w s) : s 6 = w 0 6 := by
  obtain ⟨_, _, _, _, -, -, -, -, -, -, c6, -⟩ := hW.2.2.2.2.1
  exact c6
theorem pu_c40 {u : k_U} (h : pu_P u) (x1 x2 x3 x4 x5 : Int32) : ∃ u', kLsel 40 u x1 x2 x3 x4 x5 = some u' ∧ pu_P u' := by
  show ∃ u', (k_bd (k_wrap [0] (f_X10_undo u)) fun r => k_bd (f_X11_undo (r.1 5)) fun q => kLck r q) = some u' ∧ _
  have hw0 : pu_R u (k_up (u 5) 0 0 0) := pu_R_th 0 h
  obtain ⟨hWL, hA, ⟨hn, c, b1, b2, b3, b4, b5, b6⟩, hV, ⟨len, x1, x2, x3, x4⟩, ⟨ec, ep⟩, ⟨n, o1, o2, o3, o4⟩, hD⟩ := id hw0
  by_cases hc : c = 0
  · subst hc
    refine pu_erw (F := f_X11_undo) (u' := u) (j := 0) (v := 0) (q := k_up (k_up (u 5) 0 0 0) 0 0 1) ?_ (by decide) ?_ (by rw [k_ups]; rfl) (by decide) (pu_R_th 1 hw0)
    · unfold f_X10_undo
      rw [b4, if_pos (show (kn 0 : Int32) = 0 from rfl)]
    · unfold f_X11_undo f_X11_undo_18
      rw [k_lts, b5, if_pos (show (kn 0 : Int32) = 0 from rfl), pu_thr1 (pu_up00 0) (Or.inl rfl), k_bds, if_neg (show ¬ (1 : Int32) = 0 by decide)]
  · generalize hk : (hn + 7) % 8 = k
    have hk8 : k < 8 := by omega
    obtain ⟨L, hL⟩ := b6 (c - 1) (by omega)
    rw [show (hn + 8 - c + (c - 1)) % 8 = k by omega] at hL
    obtain ⟨w', cp, sm⟩ := pu_copyOk (w := u 10) hL
    obtain ⟨m', e1, e2, e3⟩ := pu_rows (q0 := 4) (N0 := 2144) (q2 := 1) (N2 := 268) (a := 268 * (c - 1)) (b := 0) (w := k_up (k_up (u 5) 0 0 0) 0 8 (kn (c - 1))) (by decide) pu_n2144 pu_n268 (by omega) (by omega) (by decide) (by decide)
    have hhx : (kn hn + 8 - 1) - (kn hn + 8 - 1) / 8 * 8 = kn k := by
      rw [kn_addl, kn_subl (by omega), kn_divl (by omega) (by decide), kn_mull, kn_sub (by omega)]
      exact congrArg kn (by omega)
    have hcx : kn c - 1 = kn (c - 1) := kn_sub (b := 1) (show 1 ≤ c by omega)
    generalize hu4 : k_up (k_up (u 4) 0 1 (kn k)) 0 2 (kn (c - 1)) = h4
    have g41 : h4 0 1 = kn k := by rw [← hu4, k_upi _ _ (by decide), k_ups]
    have g42 : h4 0 2 = kn (c - 1) := by rw [← hu4, k_ups]
    generalize hu1 : k_uc (k_uc (k_uc u 4 (k_up (u 4) 0 1 (kn k))) 4 h4) 10 w' = u1
    have g : ∀ j, j ≠ 4 → j ≠ 10 → u1 j = u j := fun j a b => by rw [← hu1, pu_uc _ _ b, pu_uc _ _ a, pu_uc _ _ a]
    have g4 : u1 4 = h4 := by rw [← hu1, pu_uc _ _ (by decide), k_uc_s]
    have g10 : u1 10 = w' := by rw [← hu1, k_uc_s]
    have hx : f_X10_undo u = some (u1, Sum.inl (kn (c - 1))) := by
      unfold f_X10_undo f_X3_bringBack
      rw [b4, if_neg (by rw [kn_eql (by omega) (by decide)]; exact hc), if_neg (by rw [kn_lel (by omega) (by decide)]; exact fun h => hc (Nat.le_zero.mp h)), k_lts, k_uc_s, b3, hhx, k_upi _ _ (show 2 ≠ 1 by decide), b4, hcx, k_lts, hu4, k_uc_s, g41, k_ckn hk8 (by decide), kn_nat (by omega), pu_uc _ _ (show 10 ≠ 4 by decide), pu_uc _ _ (show 10 ≠ 4 by decide), pu_uc _ _ (show 15 + k ≠ 4 by omega), pu_uc _ _ (show 15 + k ≠ 4 by omega), cp, k_bds, k_lts, k_bds, hu1, g4, g42]
    have hm0 : ∀ i, i ≠ 8 → m' 0 i = k_up (u 5) 0 0 0 0 i := fun i hi => by rw [e2 0 (by decide), k_upi _ _ hi]
    have hmc : ∀ j, j ≠ 0 → j ≠ 1 → m' j = k_up (u 5) 0 0 0 j := fun j a b => by rw [e2 j b, k_upc _ _ a]
    refine pu_okw (F := f_X11_undo) (u' := u1) (v := kn (c - 1)) (q := m') hx ?_ (by rw [hm0 0 (by decide), k_ups]) ?_
    · rw [g 5 (by decide) (by decide)]
      unfold f_X11_undo f_X11_undo_18
      rw [k_lts, b5, if_neg (by rw [kn_eql (by omega) (by decide)]; exact hc), pu_thr0 (pu_up00 0), k_bds, if_pos rfl, k_lts]
      show k_bd (f_X11_copies (k_up (k_up (u 5) 0 0 0) 0 8 (k_up (u 5) 0 0 0 0 8 - 1)) 4 2144 (268 * k_up (k_up (u 5) 0 0 0) 0 8 (k_up (u 5) 0 0 0 0 8 - 1) 0 8) 1 268 (kn 0)) (fun r => some (r, r 0 8)) = _
      rw [b5, hcx, k_ups, kn_lmul]
      rw [show (OfNat.ofNat 268 : Nat) * (c - 1) = 268 * (c - 1) from rfl, e1, k_bds, e2 0 (by decide), k_ups]
    · refine ⟨⟨L, ?_⟩, fun i hi => ?_, ⟨k, c - 1, hk8, by omega, by rw [g4, g41], by rw [g4, g42], by rw [e2 0 (by decide), k_ups], fun j hj => ?_⟩, fun j hj => ?_, ⟨len, x1, ?_, ?_, ?_⟩, ⟨?_, ?_⟩, ⟨n, o1, ?_, ?_, ?_⟩, ?_⟩
      · rw [g10]
        refine pu_W_same hL sm (fun j hj => ?_)
        rw [e3, if_pos (by omega), k_upc _ _ (by decide)]
        rfl
      · rw [g 0 (by decide) (by decide), hmc 7 (by decide) (by decide)]
        exact hA i hi
      · obtain ⟨L', hL'⟩ := b6 j (by omega)
        rw [g _ (by omega) (by omega), hmc 4 (by decide) (by decide), show (k + 8 - (c - 1) + j) % 8 = (hn + 8 - c + j) % 8 by omega]
        exact ⟨L', hL'⟩
      · rw [g 0 (by decide) (by decide), g _ (by omega) (by omega), hmc 6 (by decide) (by decide), hmc 5 (by decide) (by decide)]
        exact hV j hj
      · rw [g 1 (by decide) (by decide), x2]
      · rw [hm0 10 (by decide), x3]
      · rw [g 1 (by decide) (by decide), hmc 9 (by decide) (by decide)]
        exact x4
      · rw [g 1 (by decide) (by decide), hm0 15 (by decide), ec]
      · rw [g 1 (by decide) (by decide), hm0 16 (by decide), ep]
      · rw [g 3 (by decide) (by decide), o2]
      · rw [hm0 21 (by decide), o3]
      · rw [g 3 (by decide) (by decide), hmc 20 (by decide) (by decide)]
        exact o4
      · rw [g 14 (by decide) (by decide)]
        exact hD
theorem pu_c41 {u : k_U} (h : pu_P u) (y1 x2 x3 x4 x5 : Int32) : ∃ u', kLsel 41 u y1 x2 x3 x4 x5 = some u' ∧ pu_P u' := by
  show ∃ u', (k_bd (k_wrap [2] (f_X10_save u y1)) fun r => k_bd (f_X11_save (r.1 5) y1) fun q => kLck r q) = some u' ∧ _
  have hw0 : pu_R u (k_up (u 5) 0 0 0) := pu_R_th 0 h
  obtain ⟨⟨L, hW⟩, hA, hH, hV, ⟨len, x1, x2, x3, x4⟩, ⟨ec, ep⟩, ⟨n, o1, o2, o3, o4⟩, hD⟩ := id hw0
  by_cases hb : 0 ≤ y1 ∧ y1 ≤ 1
  · obtain ⟨a, ha, rfl⟩ := kn_ofm (m := 2) (x := y1) hb.1 (by rw [show kn 2 = (2 : Int32) from rfl]; grind) (by decide)
    obtain ⟨w', cp, sm⟩ := pu_copyOk (w := u (12 + a)) hW
    obtain ⟨m1, e1, e2, e3⟩ := pu_rows (q0 := 1) (N0 := 268) (q2 := 5) (N2 := 536) (a := 0) (b := 268 * a) (w := k_up (u 5) 0 0 0) (by decide) pu_n268 pu_n536 (by omega) (by omega) (by decide) (by decide)
    generalize hu1 : k_uc (k_uc u (12 + a) w') 0 (k_up (u 0) 2 a 1) = u1
    have g : ∀ j, j ≠ 0 → j ≠ 12 + a → u1 j = u j := fun j a b => by rw [← hu1, pu_uc _ _ a, pu_uc _ _ b]
    have g0 : u1 0 = k_up (u 0) 2 a 1 := by rw [← hu1, k_uc_s]
    have g12 : u1 (12 + a) = w' := by rw [← hu1, pu_uc _ _ (by omega), k_uc_s]
    generalize hm1 : k_up m1 6 a 1 = m'
    have hm : ∀ j, j ≠ 5 → j ≠ 6 → m' j = k_up (u 5) 0 0 0 j := fun j a b => by rw [← hm1, k_upc _ _ b, e2 j a]
    have hm5 : m' 5 = m1 5 := by rw [← hm1, k_upc _ _ (by decide)]
    refine pu_okw (F := fun m => f_X11_save m (kn a)) (u' := u1) (v := u 10 0 6) (q := m') ?_ ?_ (by rw [hm 0 (by decide) (by decide), k_ups]) ?_
    · unfold f_X10_save
      rw [if_neg (by grind), if_pos (by grind), k_ckn ha (by decide), kn_nat (by omega), cp, k_bds, k_lts, k_ckn ha (by decide), pu_uc _ _ (show 0 ≠ 12 + a by omega), k_lts, show (1 &&& 1 : Int32) = 1 from rfl, hu1, g 10 (by decide) (by omega)]
    · show f_X11_save (u1 5) (kn a) = _
      rw [g 5 (by decide) (by omega)]
      unfold f_X11_save
      rw [pu_noSlot, k_bds, if_pos hb, if_pos rfl, kn_lmul]
      rw [show (OfNat.ofNat 268 : Nat) * a = 268 * a from rfl, show (0 : Int32) = kn 0 from rfl]
      rw [show ((k_up (u 5) 0 0 (kn 0), kn 0).1) = k_up (u 5) 0 0 0 from rfl, e1, k_bds, k_ckp ⟨hb.1, by grind⟩, kn_nat (by omega), k_lts, show (1 &&& 1 : Int32) = 1 from rfl, hm1, hm 1 (by decide) (by decide), pu_time1 hW]
    · refine ⟨⟨L, ?_⟩, fun i hi => ?_, ?_, fun j hj => ?_, ⟨len, x1, ?_, ?_, ?_⟩, ⟨?_, ?_⟩, ⟨n, o1, ?_, ?_, ?_⟩, ?_⟩
      · rw [g 10 (by decide) (by omega), hm 1 (by decide) (by decide)]
        exact hW
      · rw [g0, k_upc _ _ (by decide), hm 7 (by decide) (by decide)]
        exact hA i hi
      · obtain ⟨hn, c, b1, b2, b3, b4, b5, b6⟩ := hH
        refine ⟨hn, c, b1, b2, ?_, ?_, ?_, fun j hj => ?_⟩
        · rw [g 4 (by decide) (by omega), b3]
        · rw [g 4 (by decide) (by omega), b4]
        · rw [hm 0 (by decide) (by decide), b5]
        · rw [g _ (by omega) (by omega), hm 4 (by decide) (by decide)]
          exact b6 j hj
      · rw [g0, hm5]
        by_cases hja : j = a
        · subst hja
          refine ⟨by rw [k_ups, ← hm1, k_ups], Or.inr ⟨k_ups _ _ _ _, L, ?_⟩⟩
          rw [g12]
          refine pu_W_same hW sm (fun i hi => ?_)
          show m1 5 (268 * j + i) = _
          rw [e3, if_pos (by omega), Nat.zero_add, show 268 * j + i - 268 * j = i by omega]
        · obtain ⟨v1, v2⟩ := hV j hj
          refine ⟨by rw [k_upi _ _ hja, ← hm1, k_upi _ _ hja, e2 6 (by decide)]; exact v1, ?_⟩
          rw [k_upi _ _ hja, g _ (by omega) (by omega)]
          rcases v2 with v2 | ⟨v2, L', hL'⟩
          · exact Or.inl v2
          · refine Or.inr ⟨v2, L', pu_W_s hL' (fun i hi => ?_)⟩
            show m1 5 (268 * j + i) = _
            rw [e3, if_neg (by omega)]
      · rw [g 1 (by decide) (by omega), x2]
      · rw [hm 0 (by decide) (by decide), x3]
      · rw [g 1 (by decide) (by omega), hm 9 (by decide) (by decide)]
        exact x4
      · rw [g 1 (by decide) (by omega), hm 0 (by decide) (by decide), ec]
      · rw [g 1 (by decide) (by omega), hm 0 (by decide) (by decide), ep]
      · rw [g 3 (by decide) (by omega), o2]
      · rw [hm 0 (by decide) (by decide), o3]
      · rw [g 3 (by decide) (by omega), hm 20 (by decide) (by decide)]
        exact o4
      · rw [g 14 (by decide) (by omega)]
        exact hD
  · refine pu_erw (F := fun m => f_X11_save m y1) (u' := u) (j := 2) (v := 0) (q := k_up (k_up (u 5) 0 0 0) 0 0 1) ?_ (by decide) ?_ (by rw [k_ups]; rfl) (by decide) (pu_R_th 1 hw0)
    · unfold f_X10_save f_X10_save_9
      by_cases h1 : y1 < 0
      · rw [if_pos h1]
      · rw [if_neg h1, if_neg (by grind)]
    · show f_X11_save (u 5) y1 = _
      unfold f_X11_save
      rw [pu_noSlot, k_bds, if_neg hb, if_neg (show ¬ (1 : Int32) = 0 by decide)]
theorem pu_c42 {u : k_U} (h : pu_P u) (y1 x2 x3 x4 x5 : Int32) : ∃ u', kLsel 42 u y1 x2 x3 x4 x5 = some u' ∧ pu_P u' := by
  show ∃ u', (k_bd (k_wrap [2, 0] (f_X10_restore u y1)) fun r => k_bd (f_X11_restore (r.1 5) y1) fun q => kLck r q) = some u' ∧ _
  have hw0 : pu_R u (k_up (u 5) 0 0 0) := pu_R_th 0 h
  obtain ⟨hWL, hA, hH, hV, ⟨len, x1, x2, x3, x4⟩, ⟨ec, ep⟩, ⟨n, o1, o2, o3, o4⟩, hD⟩ := id hw0
  by_cases hb : 0 ≤ y1 ∧ y1 ≤ 1
  · obtain ⟨a, ha, rfl⟩ := kn_ofm (m := 2) (x := y1) hb.1 (by rw [show kn 2 = (2 : Int32) from rfl]; grind) (by decide)
    obtain ⟨v1, v2⟩ := hV a ha
    rcases v2 with v2 | ⟨v2, L, hL⟩
    · refine pu_erw (F := fun m => f_X11_restore m (kn a)) (u' := u) (j := 0) (v := 0) (q := k_up (k_up (u 5) 0 0 0) 0 0 2) ?_ (by decide) ?_ (by rw [k_ups]; rfl) (by decide) (pu_R_th 2 hw0)
      · unfold f_X10_restore
        rw [if_neg (by grind), if_pos (by grind), k_ckn ha (by decide), kn_nat (by omega), if_pos v2]
      · show f_X11_restore (u 5) (kn a) = _
        unfold f_X11_restore f_X11_restore_23
        rw [pu_noSlot, k_bds, if_pos hb, if_pos rfl, k_ckp ⟨hb.1, by grind⟩, kn_nat (by omega)]
        rw [show ((k_up (u 5) 0 0 0, (0 : Int32)).1) = k_up (u 5) 0 0 0 from rfl, ← v1, if_pos v2, pu_thr1 (pu_up00 0) (Or.inr (Or.inl rfl)), k_bds, if_neg (show ¬ (1 : Int32) = 0 by decide)]
    · obtain ⟨w', cp, sm⟩ := pu_copyOk (w := u 10) hL
      obtain ⟨m1, e1, e2, e3⟩ := pu_rows (q0 := 5) (N0 := 536) (q2 := 1) (N2 := 268) (a := 268 * a) (b := 0) (w := k_up (u 5) 0 0 0) (by decide) pu_n536 pu_n268 (by omega) (by omega) (by decide) (by decide)
      generalize hu1 : k_uc (k_uc u 10 w') 4 (k_up (u 4) 0 2 0) = u1
      have g : ∀ j, j ≠ 4 → j ≠ 10 → u1 j = u j := fun j a b => by rw [← hu1, pu_uc _ _ a, pu_uc _ _ b]
      have g4 : u1 4 = k_up (u 4) 0 2 0 := by rw [← hu1, k_uc_s]
      have g10 : u1 10 = w' := by rw [← hu1, pu_uc _ _ (by omega), k_uc_s]
      generalize hm1 : k_up m1 0 8 0 = m'
      have hm0 : ∀ i, i ≠ 8 → m' 0 i = k_up (u 5) 0 0 0 0 i := fun i hi => by rw [← hm1, k_upi _ _ hi, e2 0 (by decide)]
      have hmc : ∀ j, j ≠ 0 → j ≠ 1 → m' j = k_up (u 5) 0 0 0 j := fun j a b => by rw [← hm1, k_upc _ _ a, e2 j b]
      have hm11 : m' 1 = m1 1 := by rw [← hm1, k_upc _ _ (by decide)]
      have hW1 : pu_W L (u1 10) (m' 1) := by
        rw [g10, hm11]
        refine pu_W_same hL sm (fun j hj => ?_)
        rw [e3, if_pos (by omega), Nat.sub_zero]
      refine pu_okw (F := fun m => f_X11_restore m (kn a)) (u' := u1) (v := w' 0 6) (q := m') ?_ ?_ (by rw [hm0 0 (by decide), k_ups]) ?_
      · unfold f_X10_restore f_X3_forget
        rw [if_neg (by grind), if_pos (by grind), k_ckn ha (by decide), kn_nat (by omega), v2, if_neg (by decide), k_ckn ha (by decide), cp, k_bds, k_lts, k_lts, k_bds, pu_uc _ _ (show 4 ≠ 10 by decide), hu1, g10]
      · show f_X11_restore (u1 5) (kn a) = _
        rw [g 5 (by decide) (by decide)]
        unfold f_X11_restore f_X11_restore_23
        rw [pu_noSlot, k_bds, if_pos hb, if_pos rfl, k_ckp ⟨hb.1, by grind⟩, kn_nat (by omega)]
        rw [show ((k_up (u 5) 0 0 0, (0 : Int32)).1) = k_up (u 5) 0 0 0 from rfl, ← v1, v2, if_neg (by decide), pu_thr0 (pu_up00 0), k_bds, if_pos rfl, kn_lmul]
        rw [show (OfNat.ofNat 268 : Nat) * a = 268 * a from rfl]
        have e1' : f_X11_copies (k_up (u 5) 0 0 0) 5 536 (kn (268 * a)) 1 268 0 = some m1 := e1
        rw [show ((k_up (u 5) 0 0 0, (0 : Int32)).1) = k_up (u 5) 0 0 0 from rfl, e1', k_bds, k_lts, hm1, pu_time1 hW1, g10]
      · refine ⟨⟨L, hW1⟩, fun i hi => ?_, ?_, fun j hj => ?_, ⟨len, x1, ?_, ?_, ?_⟩, ⟨?_, ?_⟩, ⟨n, o1, ?_, ?_, ?_⟩, ?_⟩
        · rw [g 0 (by decide) (by decide), hmc 7 (by decide) (by decide)]
          exact hA i hi
        · obtain ⟨hn, c, b1, b2, b3, b4, b5, b6⟩ := hH
          exact ⟨hn, 0, b1, by omega, by rw [g4, k_upi _ _ (by decide), b3], by rw [g4, k_ups]; rfl, by rw [← hm1, k_ups]; rfl, fun j hj => absurd hj (by omega)⟩
        · rw [g 0 (by decide) (by decide), g _ (by omega) (by omega), hmc 6 (by decide) (by decide), hmc 5 (by decide) (by decide)]
          exact hV j hj
        · rw [g 1 (by decide) (by decide), x2]
        · rw [hm0 10 (by decide), x3]
        · rw [g 1 (by decide) (by decide), hmc 9 (by decide) (by decide)]
          exact x4
        · rw [g 1 (by decide) (by decide), hm0 15 (by decide), ec]
        · rw [g 1 (by decide) (by decide), hm0 16 (by decide), ep]
        · rw [g 3 (by decide) (by decide), o2]
        · rw [hm0 21 (by decide), o3]
        · rw [g 3 (by decide) (by decide), hmc 20 (by decide) (by decide)]
          exact o4
        · rw [g 14 (by decide) (by decide)]
          exact hD
  · refine pu_erw (F := fun m => f_X11_restore m y1) (u' := u) (j := 2) (v := 0) (q := k_up (k_up (u 5) 0 0 0) 0 0 1) ?_ (by decide) ?_ (by rw [k_ups]; rfl) (by decide) (pu_R_th 1 hw0)
    · unfold f_X10_restore f_X10_restore_9
      by_cases h1 : y1 < 0
      · rw [if_pos h1]
      · rw [if_neg h1, if_neg (by grind)]
    · show f_X11_restore (u 5) y1 = _
      unfold f_X11_restore
      rw [pu_noSlot, k_bds, if_neg hb, if_neg (show ¬ (1 : Int32) = 0 by decide)]

/-! the queries that are read straight: a chute, a line, a target, a wind, a spot, an event, an account, the errors, the output -/
theorem pu_okp {β : Type} [DecidableEq β] {u : k_U} {v : β} {x : Option β} {F : k_M → Option (k_M × β)} {q : k_M} (hx : x = some v) (hq : F (u 5) = some (q, v)) (hR : pu_R u q) : ∃ u'', (k_bd x fun v => k_bd (F (u 5)) fun q => k_ck (v = q.2) (some (k_uc u 5 q.1))) = some u'' ∧ pu_P u'' := by
  refine ⟨k_uc u 5 q, ?_, ?_⟩
  · rw [hx]
    show k_bd (F (u 5)) _ = _
    rw [hq]
    exact k_ckp rfl
  · show pu_R _ (k_uc _ 5 q 5)
    rw [k_uc_s]
    exact pu_R_box (Or.inl rfl) hR
theorem pu_c7 {u : k_U} (h : pu_P u) (x1 x2 x3 x4 x5 : Int32) : ∃ u', kLsel 7 u x1 x2 x3 x4 x5 = some u' ∧ pu_P u' := by
  show ∃ u', (k_bd (k_wrap0 [2, 1] u (f_X10_chute u x1 x2)) fun r => k_bd (f_X11_chute (r.1 5) x1 x2) fun q => kLck r q) = some u' ∧ _
  obtain ⟨⟨L, hW⟩, -⟩ := id h
  have hw0 : pu_R u (k_up (u 5) 0 0 0) := pu_R_th 0 h
  have hL : L ≤ 8 := hW.1.1
  have hnr := pu_n_r (L := L) (w := u 10)
  have e1 : k_up (u 5) 0 0 0 1 = u 5 1 := k_upc _ _ (by decide)
  have hW0 : pu_W L (u 10) (k_up (u 5) 0 0 0 1) := by rw [e1]; exact hW
  have em : f_X11_noChute (k_up (u 5) 0 0 0) x1 = _ := pu_noChute (n := pu_n L (u 10)) (by omega) (pu_up00 0) (pu_chutesM hW0) x1
  by_cases hb : 0 ≤ x1 ∧ x1 < kn (pu_n L (u 10))
  · obtain ⟨i, hi, rfl⟩ := kn_ofm hb.1 hb.2 (by omega)
    rw [if_pos hb] at em
    have hp := pu_p_r (i := i) hL
    have hq := pu_q_r (i := i) hL
    have hC := hW.2.2.1 i hi
    have hbit := pu_bits hC
    obtain ⟨ar, li, st, t, -, -, -, -, ⟨k0, k1, k2, k7⟩, -, -, g8, ⟨q0, q1, q2, q3, q4, q5, q6, q7⟩⟩ := hC
    have em2 : f_X11_chute (u 5) (kn i) x2 = (if (if 0 ≤ x2 ∧ x2 ≤ 7 then (1 : Int32) else 0) = 0 then f_X11_chute_29 (k_up (u 5) 0 0 0) (kn i) x2 1 else f_X11_chute_29 (k_up (u 5) 0 0 0) (kn i) x2 0) := by
      unfold f_X11_chute
      rw [k_lts, em, k_bds, if_pos rfl, pu_in, k_bds]
    unfold f_X11_chute_29 at em2
    by_cases hx : 0 ≤ x2 ∧ x2 ≤ 7
    · rw [if_pos hx, if_neg (by decide), pu_thr0 (pu_up00 0), k_bds, if_pos rfl] at em2
      rw [show ((k_up (u 5) 0 0 0, (0 : Int32)).1) = k_up (u 5) 0 0 0 from rfl, pu_placeM hL hW0.1.2.2 (by omega), k_bds, e1] at em2
      obtain ⟨n, hn, rfl⟩ := kn_ofm (m := 8) (x := x2) hx.1 (by rw [show kn 8 = (8 : Int32) from rfl]; grind) (by decide)
      have key : ∃ v, f_X10_chute u (kn i) (kn n) = some (.inl v) ∧ f_X11_chute (u 5) (kn i) (kn n) = some (k_up (u 5) 0 0 0, v) := by
        rw [em2]
        clear em2
        generalize hX : f_X10_chute u (kn i) (kn n) = X
        unfold f_X10_chute at hX
        rw [pu_hasCI hL hW.1.2.1, if_pos hb, k_bds, if_neg (by decide), pu_at hL hW.1.2.1 (by omega), k_bds, k_ckp hq] at hX
        rcases (show n = 0 ∨ n = 1 ∨ n = 2 ∨ n = 3 ∨ n = 4 ∨ n = 5 ∨ n = 6 ∨ n = 7 by omega) with rfl | rfl | rfl | rfl | rfl | rfl | rfl | rfl
        · refine ⟨u 10 (pu_q L i) 0, ?_, ?_⟩
          · rw [← hX, if_pos (by decide)]
          · rw [if_neg (by decide), kn_lmul, kn_ladd, kn_add, k_ckn (by omega) (by decide), kn_nat (by omega)]
            rw [show (OfNat.ofNat 20 : Nat) + (OfNat.ofNat 9 : Nat) * 0 + pu_p L i = 20 + pu_p L i from rfl, q0, k0]
        · refine ⟨u 10 (pu_q L i) 1, ?_, ?_⟩
          · rw [← hX, if_neg (by decide), if_pos (by decide)]
          · rw [if_neg (by decide), kn_lmul, kn_ladd, kn_add, k_ckn (by omega) (by decide), kn_nat (by omega)]
            rw [show (OfNat.ofNat 20 : Nat) + (OfNat.ofNat 9 : Nat) * 1 + pu_p L i = 29 + pu_p L i from rfl, q1, k1]
        · refine ⟨u 10 (pu_q L i) 2, ?_, ?_⟩
          · rw [← hX, if_neg (by decide), if_neg (by decide), if_pos (by decide)]
          · rw [if_neg (by decide), kn_lmul, kn_ladd, kn_add, k_ckn (by omega) (by decide), kn_nat (by omega)]
            rw [show (OfNat.ofNat 20 : Nat) + (OfNat.ofNat 9 : Nat) * 2 + pu_p L i = 38 + pu_p L i from rfl, q2, k2]
        · refine ⟨u 10 (pu_q L i) 3, ?_, ?_⟩
          · rw [← hX, if_neg (by decide), if_neg (by decide), if_neg (by decide), if_pos (by decide)]
          · rw [if_neg (by decide), kn_lmul, kn_ladd, kn_add, k_ckn (by omega) (by decide), kn_nat (by omega)]
            rw [show (OfNat.ofNat 20 : Nat) + (OfNat.ofNat 9 : Nat) * 3 + pu_p L i = 47 + pu_p L i from rfl, q3]
        · refine ⟨u 10 (pu_q L i) 4, ?_, ?_⟩
          · rw [← hX, if_neg (by decide), if_neg (by decide), if_neg (by decide), if_neg (by decide), if_pos (by decide)]
          · rw [if_neg (by decide), kn_lmul, kn_ladd, kn_add, k_ckn (by omega) (by decide), kn_nat (by omega)]
            rw [show (OfNat.ofNat 20 : Nat) + (OfNat.ofNat 9 : Nat) * 4 + pu_p L i = 56 + pu_p L i from rfl, q4]
        · refine ⟨u 10 (pu_q L i) 5, ?_, ?_⟩
          · rw [← hX, if_neg (by decide), if_neg (by decide), if_neg (by decide), if_neg (by decide), if_neg (by decide), if_pos (by decide)]
          · rw [if_neg (by decide), kn_lmul, kn_ladd, kn_add, k_ckn (by omega) (by decide), kn_nat (by omega)]
            rw [show (OfNat.ofNat 20 : Nat) + (OfNat.ofNat 9 : Nat) * 5 + pu_p L i = 65 + pu_p L i from rfl, q5]
        · by_cases h4 : u 10 (pu_q L i) 5 = 4
          · refine ⟨0, ?_, ?_⟩
            · rw [← hX, if_neg (by decide), if_neg (by decide), if_neg (by decide), if_neg (by decide), if_neg (by decide), if_neg (by decide), if_pos (by decide), if_pos h4]
            · rw [if_pos (by decide), kn_ladd, k_ckn (by omega) (by decide), kn_nat (by omega)]
              rw [show (OfNat.ofNat 65 : Nat) + pu_p L i = 65 + pu_p L i from rfl, q5, if_pos h4]
          · refine ⟨u 10 (pu_q L i) 1 - u 10 (pu_q L i) 7, ?_, ?_⟩
            · rw [← hX, if_neg (by decide), if_neg (by decide), if_neg (by decide), if_neg (by decide), if_neg (by decide), if_neg (by decide), if_pos (by decide), if_neg h4]
              rfl
            · rw [if_pos (by decide), kn_ladd, k_ckn (by omega) (by decide), kn_nat (by omega), kn_ladd, k_ckn (by omega) (by decide), kn_nat (by omega)]
              rw [show (OfNat.ofNat 65 : Nat) + pu_p L i = 65 + pu_p L i from rfl, show (OfNat.ofNat 74 : Nat) + pu_p L i = 74 + pu_p L i from rfl, q5, if_neg h4, hbit, k_bds]
        · refine ⟨u 10 (pu_q L i) 6, ?_, ?_⟩
          · rw [← hX, if_neg (by decide), if_neg (by decide), if_neg (by decide), if_neg (by decide), if_neg (by decide), if_neg (by decide), if_neg (by decide), if_pos (by decide)]
            rcases g8 with g8 | g8
            · rw [g8, if_pos rfl]
            · rw [g8, if_neg (by decide)]
          · rw [if_neg (by decide), kn_lmul, kn_ladd, kn_add, k_ckn (by omega) (by decide), kn_nat (by omega)]
            rw [show (OfNat.ofNat 20 : Nat) + (OfNat.ofNat 9 : Nat) * 7 + pu_p L i = 83 + pu_p L i from rfl, q7]
      obtain ⟨v, k1, k2⟩ := key
      exact pu_okw0 (F := fun m => f_X11_chute m (kn i) (kn n)) k1 k2 (k_ups _ _ _ _) hw0
    · refine pu_erw0 (F := fun m => f_X11_chute m (kn i) x2) (j := 1) (v := 0) (q := k_up (k_up (u 5) 0 0 0) 0 0 2) ?_ (by decide) ?_ (by rw [k_ups]; rfl) (by decide) (pu_R_th 2 hw0)
      · unfold f_X10_chute
        rw [pu_hasCI hL hW.1.2.1, if_pos hb, k_bds, if_neg (by decide), pu_at hL hW.1.2.1 (by omega), k_bds, k_ckp hq, if_neg (fun h9 => hx (by rw [h9]; decide)), if_neg (fun h9 => hx (by rw [h9]; decide)), if_neg (fun h9 => hx (by rw [h9]; decide)), if_neg (fun h9 => hx (by rw [h9]; decide)), if_neg (fun h9 => hx (by rw [h9]; decide)), if_neg (fun h9 => hx (by rw [h9]; decide)), if_neg (fun h9 => hx (by rw [h9]; decide)), if_neg (fun h9 => hx (by rw [h9]; decide))]
      · show f_X11_chute (u 5) (kn i) x2 = _
        rw [em2, if_neg hx, if_pos rfl, pu_thr1 (pu_up00 0) (Or.inr (Or.inl rfl)), k_bds, if_neg (show ¬ (1 : Int32) = 0 by decide)]
  · rw [if_neg hb] at em
    refine pu_erw0 (F := fun m => f_X11_chute m x1 x2) (j := 2) (v := 0) (q := k_up (k_up (u 5) 0 0 0) 0 0 1) ?_ (by decide) ?_ (by rw [k_ups]; rfl) (by decide) (pu_R_th 1 hw0)
    · unfold f_X10_chute
      rw [pu_hasCI hL hW.1.2.1, if_neg hb, k_bds, if_pos rfl]
    · show f_X11_chute (u 5) x1 x2 = _
      unfold f_X11_chute
      rw [k_lts, em, k_bds, if_neg (show ¬ (1 : Int32) = 0 by decide)]
theorem pu_c8 {u : k_U} (h : pu_P u) (x1 x2 x3 x4 x5 : Int32) : ∃ u', kLsel 8 u x1 x2 x3 x4 x5 = some u' ∧ pu_P u' := by
  show ∃ u', (k_bd (k_wrap0 [2] u (f_X10_line u x1 x2)) fun r => k_bd (f_X11_line (r.1 5) x1 x2) fun q => kLck r q) = some u' ∧ _
  obtain ⟨⟨L, hW⟩, -⟩ := id h
  have hw0 : pu_R u (k_up (u 5) 0 0 0) := pu_R_th 0 h
  have hL : L ≤ 8 := hW.1.1
  have hnr := pu_n_r (L := L) (w := u 10)
  have e1 : k_up (u 5) 0 0 0 1 = u 5 1 := k_upc _ _ (by decide)
  have hW0 : pu_W L (u 10) (k_up (u 5) 0 0 0 1) := by rw [e1]; exact hW
  have em : f_X11_noChute (k_up (u 5) 0 0 0) x1 = _ := pu_noChute (n := pu_n L (u 10)) (by omega) (pu_up00 0) (pu_chutesM hW0) x1
  by_cases hb : 0 ≤ x1 ∧ x1 < kn (pu_n L (u 10))
  · obtain ⟨i, hi, rfl⟩ := kn_ofm hb.1 hb.2 (by omega)
    rw [if_pos hb] at em
    have hp := pu_p_r (i := i) hL
    have hq := pu_q_r (i := i) hL
    obtain ⟨ar, li, st, t, -, hli, -, ht, ⟨k0, k1, k2, k7⟩, -, -, g8, ⟨q0, q1, q2, q3, q4, q5, q6, q7⟩⟩ := hW.2.2.1 i hi
    have em2 : f_X11_line (u 5) (kn i) x2 = (if (if 0 ≤ x2 ∧ x2 ≤ kn li - 1 then (1 : Int32) else 0) = 0 then f_X11_line_42 (k_up (u 5) 0 0 0) (kn i) x2 1 else f_X11_line_42 (k_up (u 5) 0 0 0) (kn i) x2 0) := by
      unfold f_X11_line
      rw [k_lts, em, k_bds, if_pos rfl, pu_placeM hL (by exact hW0.1.2.2) (by omega), k_bds, kn_ladd, k_ckn (by omega) (by decide), kn_nat (by omega)]
      rw [show ((k_up (u 5) 0 0 0, (0 : Int32)).1) = k_up (u 5) 0 0 0 from rfl, e1, show (OfNat.ofNat 29 : Nat) + pu_p L i = 29 + pu_p L i from rfl, q1, pu_in, k_bds]
    have ei : (0 ≤ x2 ∧ x2 ≤ kn li - 1) ↔ (0 ≤ x2 ∧ x2 < kn li) := by
      have h1 : (0 : Int32) ≤ kn li := by
        rw [show (0 : Int32) = kn 0 from rfl, kn_le (by decide) (by omega)]
        omega
      grind
    by_cases hx : 0 ≤ x2 ∧ x2 < kn li
    · rw [if_pos (ei.mpr hx), if_neg (by decide)] at em2
      obtain ⟨j, hj, rfl⟩ := kn_ofm hx.1 hx.2 (by omega)
      have hxn : ¬ kn j < 0 := by
        have := hx.1
        grind
      unfold f_X11_line_42 f_X11_strength at em2
      rw [pu_thr0 (pu_up00 0), k_bds, if_pos rfl, pu_placeM hL (by exact hW0.1.2.2) (by omega), k_bds, kn_ladd, k_ckn (by omega) (by decide), kn_nat (by omega), kn_ladd, k_ckn (by omega) (by decide), kn_nat (by omega)] at em2
      rw [show ((k_up (u 5) 0 0 0, (0 : Int32)).1) = k_up (u 5) 0 0 0 from rfl, e1, show (OfNat.ofNat 74 : Nat) + pu_p L i = 74 + pu_p L i from rfl, show (OfNat.ofNat 38 : Nat) + pu_p L i = 38 + pu_p L i from rfl, q6, q2, kmask_has li (by omega) t (by omega) j (by omega), k_bds, k_bds, Int32.toInt32_toInt64] at em2
      have ec : f_X10_line u (kn i) (kn j) = (if t ≤ j then some (Sum.inl (kn st + 3 * kn j)) else some (Sum.inl (-1))) := by
        unfold f_X10_line f_X0_strengthOf
        rw [pu_hasCI hL hW.1.2.1, if_pos hb, k_bds, if_neg (by decide), pu_at hL hW.1.2.1 (by omega), k_bds, k_ckp hq, if_neg hxn, k1, if_pos hx.2, k7, k2, k_bds]
        by_cases htj : t ≤ j
        · rw [if_pos (by rw [kn_le (by omega) (by omega)]; exact htj), if_pos htj]
        · rw [if_neg (by rw [kn_le (by omega) (by omega)]; exact htj), if_neg htj]
      by_cases htj : t ≤ j
      · rw [if_pos htj] at ec em2
        rw [if_neg (by decide)] at em2
        exact pu_okw0 (F := fun m => f_X11_line m (kn i) (kn j)) ec em2 (k_ups _ _ _ _) hw0
      · rw [if_neg htj] at ec em2
        rw [if_pos rfl] at em2
        exact pu_okw0 (F := fun m => f_X11_line m (kn i) (kn j)) ec em2 (k_ups _ _ _ _) hw0
    · rw [if_neg (fun h9 => hx (ei.mp h9)), if_pos rfl] at em2
      refine pu_erw0 (F := fun m => f_X11_line m (kn i) x2) (j := 2) (v := 0) (q := k_up (k_up (u 5) 0 0 0) 0 0 1) ?_ (by decide) ?_ (by rw [k_ups]; rfl) (by decide) (pu_R_th 1 hw0)
      · unfold f_X10_line f_X10_line_42
        rw [pu_hasCI hL hW.1.2.1, if_pos hb, k_bds, if_neg (by decide), pu_at hL hW.1.2.1 (by omega), k_bds, k_ckp hq, k1]
        by_cases h1 : x2 < 0
        · rw [if_pos h1]
        · rw [if_neg h1, if_neg (by grind)]
      · show f_X11_line (u 5) (kn i) x2 = _
        rw [em2]
        unfold f_X11_line_42
        rw [pu_thr1 (by exact pu_up00 0) (Or.inl rfl), k_bds, if_neg (show ¬ (1 : Int32) = 0 by decide)]
  · rw [if_neg hb] at em
    refine pu_erw0 (F := fun m => f_X11_line m x1 x2) (j := 2) (v := 0) (q := k_up (k_up (u 5) 0 0 0) 0 0 1) ?_ (by decide) ?_ (by rw [k_ups]; rfl) (by decide) (pu_R_th 1 hw0)
    · unfold f_X10_line
      rw [pu_hasCI hL hW.1.2.1, if_neg hb, k_bds, if_pos rfl]
    · show f_X11_line (u 5) x1 x2 = _
      unfold f_X11_line
      rw [k_lts, em, k_bds, if_neg (show ¬ (1 : Int32) = 0 by decide)]
theorem pu_c9 {u : k_U} (h : pu_P u) (x1 x2 x3 x4 x5 : Int32) : ∃ u', kLsel 9 u x1 x2 x3 x4 x5 = some u' ∧ pu_P u' := by
  show ∃ u', (k_bd (k_wrap0 [1] u (f_X10_targetAt u x1)) fun r => k_bd (f_X11_targetAt (r.1 5) x1) fun q => kLck r q) = some u' ∧ _
  obtain ⟨⟨L, hW⟩, -⟩ := id h
  have hw0 : pu_R u (k_up (u 5) 0 0 0) := pu_R_th 0 h
  have e1 : k_up (u 5) 0 0 0 1 = u 5 1 := k_upc _ _ (by decide)
  have hW0 : pu_W L (u 10) (k_up (u 5) 0 0 0 1) := by rw [e1]; exact hW
  by_cases hb : 0 ≤ x1 ∧ x1 ≤ 30000
  · obtain ⟨r, r1, r2⟩ := pu_tgt hW0.2.2.2.2.2.1 x1
    refine pu_okw0 (F := fun m => f_X11_targetAt m x1) (v := r) (q := k_up (u 5) 0 0 0) ?_ ?_ (k_ups _ _ _ _) hw0
    · unfold f_X10_targetAt
      rw [if_neg (by grind), if_pos hb.2, r1, k_bds]
    · show f_X11_targetAt (u 5) x1 = _
      unfold f_X11_targetAt
      rw [pu_noPart, k_bds, if_pos hb, if_pos rfl]
      show k_bd (f_X11_targetFor (k_up (u 5) 0 0 0) x1) _ = _
      rw [r2, k_bds]
  · refine pu_erw0 (F := fun m => f_X11_targetAt m x1) (j := 1) (v := 0) (q := k_up (k_up (u 5) 0 0 0) 0 0 1) ?_ (by decide) ?_ (by rw [k_ups]; rfl) (by decide) (pu_R_th 1 hw0)
    · unfold f_X10_targetAt f_X10_targetAt_11
      by_cases h1 : x1 < 0
      · rw [if_pos h1]
      · rw [if_neg h1, if_neg (by grind)]
    · show f_X11_targetAt (u 5) x1 = _
      unfold f_X11_targetAt
      rw [pu_noPart, k_bds, if_neg hb, if_neg (show ¬ (1 : Int32) = 0 by decide)]
theorem pu_c10 {u : k_U} (h : pu_P u) (x1 x2 x3 x4 x5 : Int32) : ∃ u', kLsel 10 u x1 x2 x3 x4 x5 = some u' ∧ pu_P u' := by
  show ∃ u', (k_bd (k_wrap0 [1] u (f_X10_windAt u x1)) fun r => k_bd (f_X11_windAt (r.1 5) x1) fun q => kLck r q) = some u' ∧ _
  obtain ⟨⟨L, hW⟩, -⟩ := id h
  have hw0 : pu_R u (k_up (u 5) 0 0 0) := pu_R_th 0 h
  have e1 : k_up (u 5) 0 0 0 1 = u 5 1 := k_upc _ _ (by decide)
  have hW0 : pu_W L (u 10) (k_up (u 5) 0 0 0 1) := by rw [e1]; exact hW
  by_cases hb : 0 ≤ x1 ∧ x1 ≤ 30000
  · obtain ⟨r, r1, r2⟩ := pu_wnd hW0.2.2.2.2.2.2.1 x1
    refine pu_okw0 (F := fun m => f_X11_windAt m x1) (v := r) (q := k_up (u 5) 0 0 0) ?_ ?_ (k_ups _ _ _ _) hw0
    · unfold f_X10_windAt
      rw [if_neg (by grind), if_pos hb.2, r1, k_bds]
    · show f_X11_windAt (u 5) x1 = _
      unfold f_X11_windAt
      rw [pu_noPart, k_bds, if_pos hb, if_pos rfl]
      show k_bd (f_X11_windFor (k_up (u 5) 0 0 0) x1) _ = _
      rw [r2, k_bds]
  · refine pu_erw0 (F := fun m => f_X11_windAt m x1) (j := 1) (v := 0) (q := k_up (k_up (u 5) 0 0 0) 0 0 1) ?_ (by decide) ?_ (by rw [k_ups]; rfl) (by decide) (pu_R_th 1 hw0)
    · unfold f_X10_windAt f_X10_windAt_11
      by_cases h1 : x1 < 0
      · rw [if_pos h1]
      · rw [if_neg h1, if_neg (by grind)]
    · show f_X11_windAt (u 5) x1 = _
      unfold f_X11_windAt
      rw [pu_noPart, k_bds, if_neg hb, if_neg (show ¬ (1 : Int32) = 0 by decide)]
theorem pu_c11 {u : k_U} (h : pu_P u) (x1 x2 x3 x4 x5 : Int32) : ∃ u', kLsel 11 u x1 x2 x3 x4 x5 = some u' ∧ pu_P u' := by
  show ∃ u', (k_bd (k_wrap0 [2, 1] u (f_X10_spot u x1 x2)) fun r => k_bd (f_X11_spot (r.1 5) x1 x2) fun q => kLck r q) = some u' ∧ _
  obtain ⟨⟨L, hW⟩, -⟩ := id h
  have hw0 : pu_R u (k_up (u 5) 0 0 0) := pu_R_th 0 h
  have e1 : k_up (u 5) 0 0 0 1 = u 5 1 := k_upc _ _ (by decide)
  obtain ⟨N, hN, s1, s2, s3⟩ := hW.2.2.2.2.2.2.2.1
  have em : f_X11_noSpot (k_up (u 5) 0 0 0) x1 = _ := pu_noSpot (n := N) (by omega) (pu_up00 0) (by rw [e1]; exact s2) x1
  have eh : f_X8_has (u 10) x1 = some (if 0 ≤ x1 ∧ x1 < kn N then 1 else 0) := by
    unfold f_X8_has
    rw [s1]
    by_cases h1 : x1 < 0
    · rw [if_pos h1, if_neg (by grind)]
    · rw [if_neg h1]
      by_cases h2 : kn N ≤ x1
      · rw [if_pos h2, if_neg (by grind)]
      · rw [if_neg h2, if_pos (by grind)]
  by_cases hb : 0 ≤ x1 ∧ x1 < kn N
  · obtain ⟨i, hi, rfl⟩ := kn_ofm hb.1 hb.2 (by omega)
    rw [if_pos hb] at em eh
    obtain ⟨a0, a1, a2⟩ := s3 i hi
    have em2 : f_X11_spot (u 5) (kn i) x2 = (if (if 0 ≤ x2 ∧ x2 ≤ 2 then (1 : Int32) else 0) = 0 then f_X11_spot_28 (k_up (u 5) 0 0 0) (kn i) x2 1 else f_X11_spot_28 (k_up (u 5) 0 0 0) (kn i) x2 0) := by
      unfold f_X11_spot
      rw [k_lts, em, k_bds, if_pos rfl, pu_in, k_bds]
    unfold f_X11_spot_28 at em2
    by_cases hx : 0 ≤ x2 ∧ x2 ≤ 2
    · rw [if_pos hx, if_neg (by decide), pu_thr0 (pu_up00 0), k_bds, if_pos rfl] at em2
      obtain ⟨n, hn, rfl⟩ := kn_ofm (m := 3) (x := x2) hx.1 (by rw [show kn 3 = (3 : Int32) from rfl]; grind) (by decide)
      rw [kn_lmul, kn_ladd, kn_add, k_ckn (by omega) (by decide), kn_nat (by omega)] at em2
      rw [show ((k_up (u 5) 0 0 0, (0 : Int32)).1) = k_up (u 5) 0 0 0 from rfl, e1, show (OfNat.ofNat 124 : Nat) + (OfNat.ofNat 3 : Nat) * i + n = 124 + 3 * i + n from rfl] at em2
      have key : ∃ v, f_X10_spot u (kn i) (kn n) = some (.inl v) ∧ f_X11_spot (u 5) (kn i) (kn n) = some (k_up (u 5) 0 0 0, v) := by
        rw [em2]
        clear em2
        generalize hX : f_X10_spot u (kn i) (kn n) = X
        unfold f_X10_spot at hX
        rw [eh, k_bds, if_neg (by decide), k_ckn (by omega) (by decide), k_ckn (by omega) (by decide), k_ckn (by omega) (by decide), kn_nat (by omega)] at hX
        rcases (show n = 0 ∨ n = 1 ∨ n = 2 by omega) with rfl | rfl | rfl
        · exact ⟨u 10 10 i, by rw [← hX, if_pos (by decide)], by rw [show 124 + 3 * i + 0 = 124 + 3 * i from rfl, a0]⟩
        · exact ⟨u 10 11 i, by rw [← hX, if_neg (by decide), if_pos (by decide)], by rw [a1]⟩
        · exact ⟨u 10 12 i, by rw [← hX, if_neg (by decide), if_neg (by decide), if_pos (by decide)], by rw [a2]⟩
      obtain ⟨v, k1, k2⟩ := key
      exact pu_okw0 (F := fun m => f_X11_spot m (kn i) (kn n)) k1 k2 (k_ups _ _ _ _) hw0
    · refine pu_erw0 (F := fun m => f_X11_spot m (kn i) x2) (j := 1) (v := 0) (q := k_up (k_up (u 5) 0 0 0) 0 0 2) ?_ (by decide) ?_ (by rw [k_ups]; rfl) (by decide) (pu_R_th 2 hw0)
      · unfold f_X10_spot
        rw [eh, k_bds, if_neg (by decide), if_neg (fun h9 => hx (by rw [h9]; decide)), if_neg (fun h9 => hx (by rw [h9]; decide)), if_neg (fun h9 => hx (by rw [h9]; decide))]
      · show f_X11_spot (u 5) (kn i) x2 = _
        rw [em2, if_neg hx, if_pos rfl, pu_thr1 (pu_up00 0) (Or.inr (Or.inl rfl)), k_bds, if_neg (show ¬ (1 : Int32) = 0 by decide)]
  · rw [if_neg hb] at em eh
    refine pu_erw0 (F := fun m => f_X11_spot m x1 x2) (j := 2) (v := 0) (q := k_up (k_up (u 5) 0 0 0) 0 0 1) ?_ (by decide) ?_ (by rw [k_ups]; rfl) (by decide) (pu_R_th 1 hw0)
    · unfold f_X10_spot
      rw [eh, k_bds, if_pos rfl]
    · show f_X11_spot (u 5) x1 x2 = _
      unfold f_X11_spot
      rw [k_lts, em, k_bds, if_neg (show ¬ (1 : Int32) = 0 by decide)]
theorem pu_c12 {u : k_U} (h : pu_P u) (x1 x2 x3 x4 x5 : Int32) : ∃ u', kLsel 12 u x1 x2 x3 x4 x5 = some u' ∧ pu_P u' := by
  show ∃ u', (k_bd (k_wrap0 [3, 1] u (f_X10_event u x1 x2)) fun r => k_bd (f_X11_event (r.1 5) x1 x2) fun q => kLck r q) = some u' ∧ _
  obtain ⟨⟨L, hW⟩, -⟩ := id h
  have hw0 : pu_R u (k_up (u 5) 0 0 0) := pu_R_th 0 h
  have e1 : k_up (u 5) 0 0 0 1 = u 5 1 := k_upc _ _ (by decide)
  obtain ⟨ee, N, he, hN, v1, v2, v3, v4⟩ := hW.2.2.2.2.2.2.2.2
  have ei : (0 ≤ x1 ∧ x1 ≤ kn N - 1) ↔ (0 ≤ x1 ∧ x1 < kn N) := by
    have h1 : (0 : Int32) ≤ kn N := by
      rw [show (0 : Int32) = kn 0 from rfl, kn_le (by decide) (by omega)]
      omega
    grind
  have em2 : f_X11_event (u 5) x1 x2 = (if (if 0 ≤ x1 ∧ x1 ≤ kn N - 1 then (1 : Int32) else 0) = 0 then f_X11_event_28 (k_up (u 5) 0 0 0) x1 x2 1 else f_X11_event_28 (k_up (u 5) 0 0 0) x1 x2 0) := by
    unfold f_X11_event
    rw [k_lts, e1, v3, pu_in, k_bds]
  unfold f_X11_event_28 f_X11_event_50 at em2
  by_cases hb : 0 ≤ x1 ∧ x1 < kn N
  · rw [if_pos (ei.mpr hb), if_neg (by decide), pu_thr0 (pu_up00 0), k_bds, if_pos rfl, pu_in, k_bds] at em2
    obtain ⟨i, hi, rfl⟩ := kn_ofm hb.1 hb.2 (by omega)
    have hn0 : ¬ kn i < 0 := by
      have := hb.1
      grind
    by_cases hx : 0 ≤ x2 ∧ x2 ≤ 3
    · obtain ⟨j, hj, rfl⟩ := kn_ofm (m := 4) (x := x2) hx.1 (by rw [show kn 4 = (4 : Int32) from rfl]; grind) (by decide)
      rw [if_pos hx, if_neg (by decide), show ((k_up (u 5) 0 0 0, (0 : Int32)).1) = k_up (u 5) 0 0 0 from rfl, pu_thr0 (pu_up00 0), k_bds, if_pos rfl, kn_lmul, kn_ladd, kn_add, k_ckn (by omega) (by decide), kn_nat (by omega)] at em2
      have hidx : ((kn ee + kn i) - (kn ee + kn i) / 30 * 30) * 4 + kn j = kn ((ee + i) % 30 * 4 + j) := by
        rw [kn_add, kn_divl (by omega) (by decide), kn_mull, kn_sub (by omega), kn_mull, kn_add]
        exact congrArg kn (by omega)
      refine pu_okw0 (F := fun m => f_X11_event m (kn i) (kn j)) (v := u 10 14 ((ee + i) % 30 * 4 + j)) (q := k_up (u 5) 0 0 0) ?_ ?_ (k_ups _ _ _ _) hw0
      · unfold f_X10_event f_X1_partOf
        rw [if_neg hn0, v2, if_pos hb.2, if_neg (by grind), if_pos (by grind), v1, hidx, k_ckn (by omega) (by decide), kn_nat (by omega), k_bds]
      · show f_X11_event (u 5) (kn i) (kn j) = _
        rw [em2]
        show some (k_up (u 5) 0 0 0, k_up (u 5) 0 0 0 1 (148 + 4 * i + j)) = _
        rw [e1, v4 i hi j hj]
    · rw [if_neg hx, if_pos rfl, show ((k_up (u 5) 0 0 0, (0 : Int32)).1) = k_up (u 5) 0 0 0 from rfl, pu_thr1 (pu_up00 0) (Or.inr (Or.inl rfl)), k_bds, if_neg (show ¬ (1 : Int32) = 0 by decide)] at em2
      refine pu_erw0 (F := fun m => f_X11_event m (kn i) x2) (j := 1) (v := 0) (q := k_up (k_up (u 5) 0 0 0) 0 0 2) ?_ (by decide) em2 (by rw [k_ups]; rfl) (by decide) (pu_R_th 2 hw0)
      unfold f_X10_event f_X10_event_38
      rw [if_neg hn0, v2, if_pos hb.2]
      by_cases h1 : x2 < 0
      · rw [if_pos h1]
      · rw [if_neg h1, if_neg (by grind)]
  · rw [if_neg (fun h9 => hb (ei.mp h9)), if_pos rfl, pu_thr1 (pu_up00 0) (Or.inl rfl), k_bds, if_neg (show ¬ (1 : Int32) = 0 by decide)] at em2
    refine pu_erw0 (F := fun m => f_X11_event m x1 x2) (j := 3) (v := 0) (q := k_up (k_up (u 5) 0 0 0) 0 0 1) ?_ (by decide) em2 (by rw [k_ups]; rfl) (by decide) (pu_R_th 1 hw0)
    unfold f_X10_event f_X10_event_18
    rw [v2]
    by_cases h1 : x1 < 0
    · rw [if_pos h1]
    · rw [if_neg h1, if_neg (by grind)]
theorem pu_c13 {u : k_U} (h : pu_P u) (x1 x2 x3 x4 x5 : Int32) : ∃ u', kLsel 13 u x1 x2 x3 x4 x5 = some u' ∧ pu_P u' := by
  show ∃ u', (k_bd (k_wrap0 [1] u (f_X10_account u x1)) fun r => k_bd (f_X11_account (r.1 5) x1) fun q => kLck r q) = some u' ∧ _
  have hw0 : pu_R u (k_up (u 5) 0 0 0) := pu_R_th 0 h
  by_cases hb : 0 ≤ x1 ∧ x1 ≤ 9
  · obtain ⟨i, hi, rfl⟩ := kn_ofm (m := 10) (x := x1) hb.1 (by rw [show kn 10 = (10 : Int32) from rfl]; grind) (by decide)
    have hA := hw0.2.1 i hi
    refine pu_okw0 (F := fun m => f_X11_account m (kn i)) (v := u 0 3 i) (q := k_up (u 5) 0 0 0) ?_ ?_ (k_ups _ _ _ _) hw0
    · unfold f_X10_account
      rw [if_neg (by grind), if_pos (by grind), k_ckn hi (by decide), kn_nat (by omega)]
    · show f_X11_account (u 5) (kn i) = _
      unfold f_X11_account
      rw [pu_noPart, k_bds, if_pos hb, if_pos rfl, k_ckn hi (by decide), kn_nat (by omega), hA]
  · refine pu_erw0 (F := fun m => f_X11_account m x1) (j := 1) (v := 0) (q := k_up (k_up (u 5) 0 0 0) 0 0 1) ?_ (by decide) ?_ (by rw [k_ups]; rfl) (by decide) (pu_R_th 1 hw0)
    · unfold f_X10_account f_X10_account_10
      by_cases h1 : x1 < 0
      · rw [if_pos h1]
      · rw [if_neg h1, if_neg (by grind)]
    · show f_X11_account (u 5) x1 = _
      unfold f_X11_account
      rw [pu_noPart, k_bds, if_neg hb, if_neg (show ¬ (1 : Int32) = 0 by decide)]
theorem pu_c3 {u : k_U} (h : pu_P u) (x1 x2 x3 x4 x5 : Int32) : ∃ u', kLsel 3 u x1 x2 x3 x4 x5 = some u' ∧ pu_P u' := by
  have hw0 : pu_R u (k_up (u 5) 0 0 0) := pu_R_th 0 h
  refine pu_okv (x := f_X10_errorCode u) (F := f_X11_errorCode) (v := u 1 0 3) (q := k_up (u 5) 0 0 0) rfl ?_ hw0
  unfold f_X11_errorCode
  rw [k_lts, ← hw0.2.2.2.2.2.1.1]
theorem pu_c4 {u : k_U} (h : pu_P u) (x1 x2 x3 x4 x5 : Int32) : ∃ u', kLsel 4 u x1 x2 x3 x4 x5 = some u' ∧ pu_P u' := by
  have hw0 : pu_R u (k_up (u 5) 0 0 0) := pu_R_th 0 h
  refine pu_okv (x := f_X10_errorPosition u) (F := f_X11_errorPosition) (v := u 1 0 4) (q := k_up (u 5) 0 0 0) rfl ?_ hw0
  unfold f_X11_errorPosition
  rw [k_lts, ← hw0.2.2.2.2.2.1.2]
theorem pu_cx39 {u : k_U} (h : pu_P u) (x1 x2 x3 x4 x5 : Int32) : ∃ u', kLsel 39 u x1 x2 x3 x4 x5 = some u' ∧ pu_P u' := by
  show ∃ u', (k_bd (k_wrap0 [2] u (f_X10_output u x1)) fun r => k_bd (f_X11_output (r.1 5) x1) fun q => kLck r q) = some u' ∧ _
  have hw0 : pu_R u (k_up (u 5) 0 0 0) := pu_R_th 0 h
  obtain ⟨N, hN, o2, o3, o4⟩ := hw0.2.2.2.2.2.2.1
  have ei : (0 ≤ x1 ∧ x1 ≤ kn N - 1) ↔ (0 ≤ x1 ∧ x1 < kn N) := by
    have h1 : (0 : Int32) ≤ kn N := by
      rw [show (0 : Int32) = kn 0 from rfl, kn_le (by decide) (by omega)]
      omega
    grind
  have em2 : f_X11_output (u 5) x1 = (if (if 0 ≤ x1 ∧ x1 ≤ kn N - 1 then (1 : Int32) else 0) = 0 then f_X11_output_25 (k_up (u 5) 0 0 0) x1 1 else f_X11_output_25 (k_up (u 5) 0 0 0) x1 0) := by
    unfold f_X11_output
    rw [k_lts, o3, pu_in, k_bds]
  unfold f_X11_output_25 at em2
  by_cases hb : 0 ≤ x1 ∧ x1 < kn N
  · rw [if_pos (ei.mpr hb), if_neg (by decide), pu_thr0 (pu_up00 0), k_bds, if_pos rfl] at em2
    obtain ⟨i, hi, rfl⟩ := kn_ofm hb.1 hb.2 (by omega)
    have hn0 : ¬ kn i < 0 := by
      have := hb.1
      grind
    rw [k_ckn (by omega) (by decide), kn_nat (by omega)] at em2
    refine pu_okw0 (F := fun m => f_X11_output m (kn i)) (v := u 3 1 i) (q := k_up (u 5) 0 0 0) ?_ ?_ (k_ups _ _ _ _) hw0
    · unfold f_X10_output
      rw [if_neg hn0, o2, if_pos hb.2, k_ckn (by omega) (by decide), kn_nat (by omega)]
    · show f_X11_output (u 5) (kn i) = _
      rw [em2, o4 i hi]
  · rw [if_neg (fun h9 => hb (ei.mp h9)), if_pos rfl, pu_thr1 (pu_up00 0) (Or.inl rfl), k_bds, if_neg (show ¬ (1 : Int32) = 0 by decide)] at em2
    refine pu_erw0 (F := fun m => f_X11_output m x1) (j := 2) (v := 0) (q := k_up (k_up (u 5) 0 0 0) 0 0 1) ?_ (by decide) em2 (by rw [k_ups]; rfl) (by decide) (pu_R_th 1 hw0)
    unfold f_X10_output f_X10_output_15
    rw [o2]
    by_cases h1 : x1 < 0
    · rw [if_pos h1]
    · rw [if_neg h1, if_neg (by grind)]

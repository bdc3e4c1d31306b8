/-! the acts: tick, fallTo, open, openReserve -/
theorem pu_etaM (x : Option (k_M × Int32)) : (k_bd x fun r => some (r.1, r.2)) = x := by
  cases x <;> rfl
theorem pu_etaU (x : Option (k_U × Int32)) : (k_bd x fun r => some (r.1, r.2)) = x := by
  cases x <;> rfl
theorem pu_refuseI {u : k_U} {m : k_M} (h : pu_R u m) {a : Int32} (ha : 0 ≤ a) (hb : a < 10) : ∃ u1 m1, f_X10_refuse u a = some (u1, -a) ∧ f_X11_refused m a = some (m1, -a) ∧ pu_R u1 m1 ∧ m1 0 0 = m 0 0 ∧ u1 5 = u 5 := by
  obtain ⟨n, hn, rfl⟩ := kn_ofm (m := 10) ha hb (by decide)
  exact pu_refuse h hn
theorem pu_hasI {L : Nat} {w : k_M} (hL : L ≤ 8) (h : w 0 10 = kn L) (x : Int32) : f_X9_hasLayer w x = some (if 0 ≤ x ∧ x < kn L then 1 else 0) := by
  unfold f_X9_hasLayer
  rw [h]
  by_cases h1 : x < 0
  · rw [if_pos h1, if_neg (by grind)]
  · rw [if_neg h1]
    by_cases h2 : kn L ≤ x
    · rw [if_pos h2, if_neg (by grind)]
    · rw [if_neg h2, if_pos (by grind)]
theorem pu_landed (w : k_M) : f_X9_hasLanded w = some (if w 0 0 = 0 then 1 else 0) := by
  unfold f_X9_hasLanded
  split <;> rfl
/-- seconds that pass: from where the relation stands -/
theorem pu_pass {L : Nat} {u : k_U} {m : k_M} (hR : pu_R u m) (hW : pu_W L (u 10) (m 1)) {goal : Int32} (hg : 0 ≤ goal) {n : Nat} (hn : n ≤ 3000) : ∃ w' m' v, f_X9_passUntil (u 10) goal (kn n) = some (w', v) ∧ f_X11_seconds m (kn n) goal = some (m', v) ∧ pu_R (k_uc u 10 w') m' ∧ m' 0 0 = m 0 0 := by
  obtain ⟨w', m', j, s1, s2, s3, s4, -, -, -⟩ := pu_seconds hg n 0 k_N k_N (u 10) m (by omega) (by unfold k_N; omega) (by unfold k_N; omega) hW
  rw [Nat.zero_add] at s1 s2
  exact ⟨w', m', kn j, s1, s2, pu_R_w hR s3 s4, by rw [s4 0 (by decide)]⟩
theorem pu_c30 {u : k_U} (h : pu_P u) (x1 x2 x3 x4 x5 : Int32) : ∃ u', kLsel 30 u x1 x2 x3 x4 x5 = some u' ∧ pu_P u' := by
  show ∃ u', (k_bd (k_wrap [1] (f_X10_tick u x1)) fun r => k_bd (f_X11_tick (r.1 5) x1) fun q => kLck r q) = some u' ∧ _
  obtain ⟨⟨L, hW⟩, -⟩ := id h
  have hw0 : pu_R u (k_up (u 5) 0 0 0) := pu_R_th 0 h
  have h10 : u 5 1 0 = u 10 0 0 := (pu_rel01 hW).1
  by_cases hb : 1 ≤ x1 ∧ x1 ≤ 200
  · obtain ⟨n, hn, rfl⟩ := kn_ofm (m := 201) (x := x1) (by grind) (by rw [show kn 201 = (201 : Int32) from rfl]; grind) (by decide)
    have hb1 : ¬ kn n < 1 := by
      have := hb.1
      grind
    have em : f_X11_tick (u 5) (kn n) = f_X11_ticks (k_up (u 5) 0 0 0) (kn n) := by
      unfold f_X11_tick f_X11_tick_22
      rw [k_lts, pu_in, k_bds, if_pos hb, if_neg (by decide), pu_thr0 (pu_up00 0), k_bds, if_pos rfl, pu_etaM]
    by_cases hland : u 10 0 0 = 0
    · obtain ⟨u1, m1, r1, r2, r3, r4, r5⟩ := pu_refuseI hw0 (a := 1) (by decide) (by decide)
      refine pu_okw (F := fun m => f_X11_tick m (kn n)) (u' := u1) (v := -1) (q := m1) ?_ ?_ (by rw [r4, k_ups]) r3
      · unfold f_X10_tick
        rw [if_neg hb1, if_pos hb.2, pu_landed, k_bds, if_pos hland, if_neg (by decide), r1, k_bds]
      · show f_X11_tick (u1 5) (kn n) = _
        rw [r5, em]
        unfold f_X11_ticks
        rw [if_pos (by rw [k_upc _ _ (by decide), h10]; exact hland), r2, k_bds]
    · obtain ⟨u1, m1, r1, r2, r3, r4, r5, r6, r7⟩ := pu_begin hw0
      have hW1 : pu_W L (u1 10) (m1 1) := by
        rw [r4, r5, k_upc _ _ (by decide)]
        exact hW
      obtain ⟨w', m', v, s1, s2, s3, s4⟩ := pu_pass r3 hW1 (goal := 0) (by decide) (n := n) (by omega)
      refine pu_okw (F := fun m => f_X11_tick m (kn n)) (u' := k_uc u1 10 w') (v := v) (q := m') ?_ ?_ (by rw [s4, r6, k_ups]) s3
      · unfold f_X10_tick
        rw [if_neg hb1, if_pos hb.2, pu_landed, k_bds, if_neg hland, if_pos rfl, r1, k_bds, s1, k_bds, k_lts]
      · show f_X11_tick (k_uc u1 10 w' 5) (kn n) = _
        rw [pu_uc _ _ (by decide), r7, em]
        unfold f_X11_ticks
        rw [if_neg (by rw [k_upc _ _ (by decide), h10]; exact hland), r2, k_bds, s2, k_bds]
  · refine pu_erw (F := fun m => f_X11_tick m x1) (u' := u) (j := 1) (v := 0) (q := k_up (k_up (u 5) 0 0 0) 0 0 1) ?_ (by decide) ?_ (by rw [k_ups]; rfl) (by decide) (pu_R_th 1 hw0)
    · unfold f_X10_tick f_X10_tick_12
      by_cases h1 : x1 < 1
      · rw [if_pos h1]
      · rw [if_neg h1, if_neg (by grind)]
    · show f_X11_tick (u 5) x1 = _
      unfold f_X11_tick f_X11_tick_22
      rw [k_lts, pu_in, k_bds, if_neg hb, if_pos rfl, pu_thr1 (pu_up00 0) (Or.inl rfl), k_bds, if_neg (show ¬ (1 : Int32) = 0 by decide)]
theorem pu_c31 {u : k_U} (h : pu_P u) (x1 x2 x3 x4 x5 : Int32) : ∃ u', kLsel 31 u x1 x2 x3 x4 x5 = some u' ∧ pu_P u' := by
  show ∃ u', (k_bd (k_wrap [1] (f_X10_fallTo u x1)) fun r => k_bd (f_X11_fallTo (r.1 5) x1) fun q => kLck r q) = some u' ∧ _
  obtain ⟨⟨L, hW⟩, -⟩ := id h
  have hw0 : pu_R u (k_up (u 5) 0 0 0) := pu_R_th 0 h
  have h10 : u 5 1 0 = u 10 0 0 := (pu_rel01 hW).1
  by_cases hb : 0 ≤ x1 ∧ x1 ≤ 30000
  · have hb1 : ¬ x1 < 0 := by
      have := hb.1
      grind
    have em : f_X11_fallTo (u 5) x1 = f_X11_falls (k_up (u 5) 0 0 0) x1 := by
      unfold f_X11_fallTo
      rw [pu_noPart, k_bds, if_pos hb, if_pos rfl, pu_etaM]
    have e10 : k_up (u 5) 0 0 0 1 0 = u 10 0 0 := by rw [k_upc _ _ (by decide), h10]
    by_cases hland : u 10 0 0 = 0
    · obtain ⟨u1, m1, r1, r2, r3, r4, r5⟩ := pu_refuseI hw0 (a := 1) (by decide) (by decide)
      refine pu_okw (F := fun m => f_X11_fallTo m x1) (u' := u1) (v := -1) (q := m1) ?_ ?_ (by rw [r4, k_ups]) r3
      · unfold f_X10_fallTo
        rw [if_neg hb1, if_pos hb.2, pu_landed, k_bds, if_pos hland, if_neg (by decide), r1, k_bds]
      · show f_X11_fallTo (u1 5) x1 = _
        rw [r5, em]
        unfold f_X11_falls
        rw [e10, if_pos hland, r2, k_bds]
    · by_cases hlow : x1 < u 10 0 0
      · obtain ⟨u1, m1, r1, r2, r3, r4, r5, r6, r7⟩ := pu_begin hw0
        have hW1 : pu_W L (u1 10) (m1 1) := by
          rw [r4, r5, k_upc _ _ (by decide)]
          exact hW
        obtain ⟨w', m', v, s1, s2, s3, s4⟩ := pu_pass r3 hW1 (goal := x1) hb.1 (n := 3000) (by omega)
        refine pu_okw (F := fun m => f_X11_fallTo m x1) (u' := k_uc u1 10 w') (v := v) (q := m') ?_ ?_ (by rw [s4, r6, k_ups]) s3
        · unfold f_X10_fallTo
          rw [if_neg hb1, if_pos hb.2, pu_landed, k_bds, if_neg hland, if_pos rfl, if_pos hlow, r1, k_bds, show (3000 : Int32) = kn 3000 from rfl, s1, k_bds, k_lts]
        · show f_X11_fallTo (k_uc u1 10 w' 5) x1 = _
          rw [pu_uc _ _ (by decide), r7, em]
          unfold f_X11_falls
          rw [e10, if_neg hland, if_pos hlow, r2, k_bds, show (3000 : Int32) = kn 3000 from rfl, s2, k_bds]
      · obtain ⟨u1, m1, r1, r2, r3, r4, r5⟩ := pu_refuseI hw0 (a := 2) (by decide) (by decide)
        refine pu_okw (F := fun m => f_X11_fallTo m x1) (u' := u1) (v := -2) (q := m1) ?_ ?_ (by rw [r4, k_ups]) r3
        · unfold f_X10_fallTo
          rw [if_neg hb1, if_pos hb.2, pu_landed, k_bds, if_neg hland, if_pos rfl, if_neg hlow, r1, k_bds]
        · show f_X11_fallTo (u1 5) x1 = _
          rw [r5, em]
          unfold f_X11_falls
          rw [e10, if_neg hland, if_neg hlow, r2, k_bds]
  · refine pu_erw (F := fun m => f_X11_fallTo m x1) (u' := u) (j := 1) (v := 0) (q := k_up (k_up (u 5) 0 0 0) 0 0 1) ?_ (by decide) ?_ (by rw [k_ups]; rfl) (by decide) (pu_R_th 1 hw0)
    · unfold f_X10_fallTo f_X10_fallTo_11
      by_cases h1 : x1 < 0
      · rw [if_pos h1]
      · rw [if_neg h1, if_neg (by grind)]
    · show f_X11_fallTo (u 5) x1 = _
      unfold f_X11_fallTo
      rw [pu_noPart, k_bds, if_neg hb, if_neg (show ¬ (1 : Int32) = 0 by decide)]
theorem pu_c32 {u : k_U} (h : pu_P u) (x1 x2 x3 x4 x5 : Int32) : ∃ u', kLsel 32 u x1 x2 x3 x4 x5 = some u' ∧ pu_P u' := by
  show ∃ u', (k_bd (k_wrap [2] (f_X10_open u x1)) fun r => k_bd (f_X11_open (r.1 5) x1) fun q => kLck r q) = some u' ∧ _
  obtain ⟨⟨L, hW⟩, -⟩ := id h
  have hw0 : pu_R u (k_up (u 5) 0 0 0) := pu_R_th 0 h
  have hL : L ≤ 8 := hW.1.1
  obtain ⟨h10, h11⟩ := pu_rel01 hW
  have e1 : k_up (u 5) 0 0 0 1 = u 5 1 := k_upc _ _ (by decide)
  have em : f_X11_noLayer (k_up (u 5) 0 0 0) x1 = _ := pu_noLayer (L := L) (by omega) (pu_up00 0) (by rw [e1]; exact hW.1.2.2) x1
  by_cases hb : 0 ≤ x1 ∧ x1 < kn L
  · obtain ⟨i, hi, rfl⟩ := kn_ofm hb.1 hb.2 (by omega)
    rw [if_pos hb] at em
    have hrel := pu_rel65 hW i hi
    have em2 : f_X11_open (u 5) (kn i) = f_X11_opensIt (k_up (u 5) 0 0 0) (kn i) := by
      unfold f_X11_open
      rw [k_lts, em, k_bds, if_pos rfl, pu_etaM]
    have ec : f_X10_open u (kn i) = (if u 10 0 0 = 0 then k_bd (f_X10_refuse u 1) fun r34 => some (r34.1, Sum.inl r34.2) else (if (u 10 (15 + i) 5) = 0 then (if (u 10 0 0) ≤ (u 10 (15 + i) 3) then (if (u 10 0 1) ≤ (u 10 (15 + i) 4) then k_bd (f_X10_beginAct u) fun r101 => k_bd (f_X9_openLayer (r101 10) (kn i)) fun r109 => k_lt (k_uc r101 10 r109) fun u109 => some (u109, Sum.inl (u109 10 (15 + i) 5)) else k_bd (f_X10_refuse u 5) fun r96 => some (r96.1, Sum.inl r96.2)) else k_bd (f_X10_refuse u 4) fun r76 => some (r76.1, Sum.inl r76.2)) else k_bd (f_X10_refuse u 3) fun r56 => some (r56.1, Sum.inl r56.2))) := by
      unfold f_X10_open
      rw [pu_hasI hL hW.1.2.1, if_pos hb, k_bds, if_neg (by decide), pu_landed, k_bds, pu_at hL hW.1.2.1 (by omega), k_bds, pu_q_l hi, k_ckp (by omega)]
      by_cases h9 : u 10 0 0 = 0
      · rw [if_pos h9, if_pos h9, if_neg (by decide)]
      · rw [if_neg h9, if_neg h9, if_pos rfl]
    have em3 : f_X11_opensIt (k_up (u 5) 0 0 0) (kn i) = (if u 10 0 0 = 0 then f_X11_opensIt_74 (k_up (u 5) 0 0 0) (kn i) 1 else (if (u 10 (15 + i) 5) = 0 then (if (u 10 0 0) ≤ (u 10 (15 + i) 3) then (if (u 10 0 1) ≤ (u 10 (15 + i) 4) then f_X11_opensIt_74 (k_up (u 5) 0 0 0) (kn i) 0 else f_X11_opensIt_74 (k_up (u 5) 0 0 0) (kn i) 5) else f_X11_opensIt_74 (k_up (u 5) 0 0 0) (kn i) 4) else f_X11_opensIt_74 (k_up (u 5) 0 0 0) (kn i) 3)) := by
      unfold f_X11_opensIt
      rw [kn_ladd, kn_ladd, kn_ladd, k_ckn (by omega) (by decide), k_ckn (by omega) (by decide), k_ckn (by omega) (by decide), kn_nat (by omega), kn_nat (by omega), kn_nat (by omega), e1, h10, h11]
      rw [show (OfNat.ofNat 65 : Nat) + i = 65 + i from rfl, show (OfNat.ofNat 47 : Nat) + i = 47 + i from rfl, show (OfNat.ofNat 56 : Nat) + i = 56 + i from rfl, hrel.1, hrel.2.1, hrel.2.2.1]
    rw [ec]
    have ref : ∀ (a : Int32), 0 < a → a < 10 → ∀ X, X = (k_bd (f_X10_refuse u a) fun r34 => some (r34.1, (Sum.inl r34.2 : Int32 ⊕ Nat))) → f_X11_open (u 5) (kn i) = f_X11_opensIt_74 (k_up (u 5) 0 0 0) (kn i) a → ∃ u', (k_bd (k_wrap [2] X) fun r => k_bd (f_X11_open (r.1 5) (kn i)) fun q => kLck r q) = some u' ∧ pu_P u' := by
      intro a ha hb X hX hm
      obtain ⟨u1, m1, r1, r2, r3, r4, r5⟩ := pu_refuseI hw0 (a := a) (by grind) hb
      refine pu_okw (F := fun m => f_X11_open m (kn i)) (u' := u1) (v := -a) (q := m1) ?_ ?_ (by rw [r4, k_ups]) r3
      · rw [hX, r1, k_bds]
      · show f_X11_open (u1 5) (kn i) = _
        rw [r5, hm]
        unfold f_X11_opensIt_74
        rw [if_neg (by grind), r2, k_bds]
    by_cases c1 : u 10 0 0 = 0
    · rw [if_pos c1] at em3 ⊢
      exact ref 1 (by decide) (by decide) _ rfl (em2.trans em3)
    rw [if_neg c1] at em3 ⊢
    by_cases c2 : u 10 (15 + i) 5 = 0
    · rw [if_pos c2] at em3 ⊢
      by_cases c3 : (u 10 0 0) ≤ (u 10 (15 + i) 3)
      · rw [if_pos c3] at em3 ⊢
        by_cases c4 : (u 10 0 1) ≤ (u 10 (15 + i) 4)
        · rw [if_pos c4] at em3 ⊢
          obtain ⟨u1, m1, r1, r2, r3, r4, r5, r6, r7⟩ := pu_begin hw0
          have hW1 : pu_W L (u1 10) (m1 1) := by
            rw [r4, r5, e1]
            exact hW
          obtain ⟨w', m', s1, s2, s3, s4, s5⟩ := pu_opens hW1 hi (by rw [r4]; exact c2)
          refine pu_okw (F := fun m => f_X11_open m (kn i)) (u' := k_uc u1 10 w') (v := w' (15 + i) 5) (q := m') ?_ ?_ (by rw [s4 0 (by decide), r6, k_ups]) (pu_R_w r3 s3 s4)
          · rw [r1, k_bds, s1, k_bds, k_lts, k_uc_s]
          · show f_X11_open (k_uc u1 10 w' 5) (kn i) = _
            rw [pu_uc _ _ (by decide), r7, em2, em3]
            unfold f_X11_opensIt_74
            rw [if_pos (by decide), r2, k_bds, s2, k_bds, kn_ladd, k_ckn (by omega) (by decide), kn_nat (by omega)]
            have := (pu_rel65 s3 i hi).1
            rw [show (OfNat.ofNat 65 : Nat) + i = 65 + i from rfl, this]
        · rw [if_neg c4] at em3 ⊢
          exact ref 5 (by decide) (by decide) _ rfl (em2.trans em3)
      · rw [if_neg c3] at em3 ⊢
        exact ref 4 (by decide) (by decide) _ rfl (em2.trans em3)
    · rw [if_neg c2] at em3 ⊢
      exact ref 3 (by decide) (by decide) _ rfl (em2.trans em3)
  · rw [if_neg hb] at em
    refine pu_erw (F := fun m => f_X11_open m x1) (u' := u) (j := 2) (v := 0) (q := k_up (k_up (u 5) 0 0 0) 0 0 1) ?_ (by decide) ?_ (by rw [k_ups]; rfl) (by decide) (pu_R_th 1 hw0)
    · unfold f_X10_open
      rw [pu_hasI hL hW.1.2.1, if_neg hb, k_bds, if_pos rfl]
    · show f_X11_open (u 5) x1 = _
      unfold f_X11_open
      rw [k_lts, em, k_bds, if_neg (show ¬ (1 : Int32) = 0 by decide)]
theorem pu_c33 {u : k_U} (h : pu_P u) (x1 x2 x3 x4 x5 : Int32) : ∃ u', kLsel 33 u x1 x2 x3 x4 x5 = some u' ∧ pu_P u' := by
  show ∃ u', (k_bd (f_X10_openReserve u) fun r => k_bd (f_X11_openReserve (r.1 5)) fun q => k_ck (r.2 = q.2) (some (k_uc r.1 5 q.1))) = some u' ∧ _
  obtain ⟨⟨L, hW⟩, -⟩ := id h
  have hw0 : pu_R u (k_up (u 5) 0 0 0) := pu_R_th 0 h
  have hL : L ≤ 8 := hW.1.1
  obtain ⟨h10, h11⟩ := pu_rel01 hW
  have e1 : k_up (u 5) 0 0 0 1 = u 5 1 := k_upc _ _ (by decide)
  have hW0 : pu_W L (u 10) (k_up (u 5) 0 0 0 1) := by rw [e1]; exact hW
  have ref : ∀ (a : Int32), 0 < a → a < 10 → ∀ X, X = (k_bd (f_X10_refuse u a) fun r34 => some (r34.1, r34.2)) → f_X11_openReserve (u 5) = f_X11_openReserve_95 (k_up (u 5) 0 0 0) a → ∃ u', (k_bd X fun r => k_bd (f_X11_openReserve (r.1 5)) fun q => k_ck (r.2 = q.2) (some (k_uc r.1 5 q.1))) = some u' ∧ pu_P u' := by
    intro a ha hb X hX hm
    obtain ⟨u1, m1, r1, r2, r3, r4, r5⟩ := pu_refuseI hw0 (a := a) (by grind) hb
    refine pu_okr (F := f_X11_openReserve) (u' := u1) (v := -a) (q := m1) ?_ ?_ r3
    · rw [hX, r1, k_bds]
    · rw [r5, hm]
      unfold f_X11_openReserve_95
      rw [if_neg (by grind), r2, k_bds]
  generalize hX : f_X10_openReserve u = X
  have em : f_X11_openReserve (u 5) = f_X11_openReserve (u 5) := rfl
  conv at em => rhs; unfold f_X11_openReserve f_X11_openReserve_38
  rw [k_lts, e1, h10] at em
  unfold f_X10_openReserve f_X10_openReserve_39 at hX
  rw [pu_landed, k_bds] at hX
  by_cases c1 : u 10 0 0 = 0
  · rw [if_pos c1] at em
    rw [if_pos c1, if_neg (by decide)] at hX
    exact ref 1 (by decide) (by decide) _ hX.symm em
  rw [if_neg c1, hW.2.1.2.1] at em
  rw [if_neg c1, if_pos rfl] at hX
  by_cases c2 : u 10 0 11 = 0
  · rw [if_pos c2] at em hX
    exact ref 3 (by decide) (by decide) _ hX.symm em
  rw [if_neg c2] at em hX
  have hR : u 10 0 11 = 1 := hW.2.1.1.resolve_left c2
  obtain ⟨k73, k55, k64, -⟩ := pu_relR hW hR
  rw [k73, k55, k64] at em
  by_cases c3 : u 10 2 5 = 0
  · rw [if_pos c3] at em hX
    by_cases c4 : u 10 0 0 ≤ u 10 2 3
    · rw [if_pos c4] at em hX
      rw [(pu_failed hW0).2, k_bds] at em
      rw [(pu_failed hW).1, k_bds] at hX
      by_cases c5 : u 10 2 4 ≤ pu_sf (pu_ff (u 10)) 0 L
      · rw [if_pos c5] at em hX
        rw [(pu_first hW0).2, k_bds] at em
        rw [(pu_first hW).1, k_bds] at hX
        by_cases c6 : pu_find (pu_may (u 10)) 0 L = -1
        · rw [if_pos c6] at em hX
          obtain ⟨u1, m1, r1, r2, r3, r4, r5, r6, r7⟩ := pu_begin hw0
          have hW1 : pu_W L (u1 10) (m1 1) := by
            rw [r4, r5, e1]
            exact hW
          obtain ⟨w', m', s1, s2, s3, s4, s5, s6, -⟩ := pu_opensR hW1 (by rw [r4]; exact hR) (by rw [r4]; exact c3)
          rw [r4] at s1 s6
          refine pu_okr (F := f_X11_openReserve) (u' := k_uc u1 10 w') (v := pu_sf (pu_ff (u 10)) 0 L) (q := m') ?_ ?_ (pu_R_w r3 s3 s4)
          · rw [← hX, r1, k_bds, r4, s1, k_bds, k_lts]
          · rw [pu_uc _ _ (by decide), r7, em]
            unfold f_X11_openReserve_95
            rw [if_pos (by decide), r2, k_bds, s2, k_bds, s6, k_bds]
        · rw [if_neg c6] at em hX
          exact ref 7 (by decide) (by decide) _ hX.symm em
      · rw [if_neg c5] at em hX
        exact ref 6 (by decide) (by decide) _ hX.symm em
    · rw [if_neg c4] at em hX
      exact ref 4 (by decide) (by decide) _ hX.symm em
  · rw [if_neg c3] at em hX
    exact ref 3 (by decide) (by decide) _ hX.symm em

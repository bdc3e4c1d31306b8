/-! play -/
theorem pu_doesE (m : k_M) (a : Int32) : f_X11_does m 0 a = f_X11_ticks m a ∧ f_X11_does m 1 a = f_X11_falls m a ∧ f_X11_does m 2 a = f_X11_opensIt m a ∧ f_X11_does m 3 a = f_X11_openReserve m ∧ f_X11_does m 4 a = f_X11_cuts m a ∧ f_X11_does m 5 a = f_X11_steers m a := by
  unfold f_X11_does
  refine ⟨?_, ?_, ?_, ?_, ?_, ?_⟩
  · rw [if_pos rfl, pu_etaM]
  · rw [if_neg (by decide), if_pos rfl, pu_etaM]
  · rw [if_neg (by decide), if_neg (by decide), if_pos rfl, pu_etaM]
  · rw [if_neg (by decide), if_neg (by decide), if_neg (by decide), if_pos rfl, pu_etaM]
  · rw [if_neg (by decide), if_neg (by decide), if_neg (by decide), if_neg (by decide), if_pos rfl, pu_etaM]
  · rw [if_neg (by decide), if_neg (by decide), if_neg (by decide), if_neg (by decide), if_neg (by decide), pu_etaM]
/-- one command done -/
theorem pu_does {u : k_U} {m : k_M} (h : pu_R u m) (h0 : m 0 0 = 0) {L nC : Nat} (hW : pu_W L (u 10) (m 1)) (hC : nC = pu_n L (u 10)) {k a k' a' : Int32} (hc : pu_cm L nC k a k' a') (K : k_U × Int32 → Option (k_U × Int32)) : ∃ X Y, pu_ac u m X Y ∧ f_X11_does m k' a' = Y ∧ (if k = 0 then k_bd (k_no (f_X10_tick u a)) fun r115 => K r115 else (if k = 1 then k_bd (k_no (f_X10_fallTo u a)) fun r126 => K r126 else (if k = 2 then k_bd (k_no (f_X10_open u a)) fun r137 => K r137 else (if k = 3 then k_bd (f_X10_openReserve u) fun r146 => K r146 else (if k = 4 then k_bd (k_no (f_X10_cut u a)) fun r157 => K r157 else k_bd (k_no (f_X10_steer u a)) fun r168 => K r168))))) = k_bd X K := by
  obtain ⟨rfl, rfl, hc⟩ := hc
  obtain ⟨d0, d1, d2, d3, d4, d5⟩ := pu_doesE m a'
  rcases hc with ⟨rfl, n, n1, n2, rfl⟩ | ⟨rfl, b1, b2⟩ | ⟨rfl, i, hi, rfl⟩ | rfl | ⟨rfl, i, hi, rfl⟩ | ⟨rfl, b1, b2⟩
  · exact ⟨_, _, pu_a0 h ⟨n1, n2⟩, d0, by rw [if_pos rfl]⟩
  · exact ⟨_, _, pu_a1 h ⟨b1, b2⟩, d1, by rw [if_neg (by decide), if_pos rfl]⟩
  · exact ⟨_, _, pu_a2 h hW hi, d2, by rw [if_neg (by decide), if_neg (by decide), if_pos rfl]⟩
  · exact ⟨_, _, pu_a3 h h0, d3, by rw [if_neg (by decide), if_neg (by decide), if_neg (by decide), if_pos rfl]⟩
  · rw [hC] at hi
    exact ⟨_, _, pu_a4 h hW hi, d4, by rw [if_neg (by decide), if_neg (by decide), if_neg (by decide), if_neg (by decide), if_pos rfl]⟩
  · exact ⟨_, _, pu_a5 h ⟨b1, b2⟩, d5, by rw [if_neg (by decide), if_neg (by decide), if_neg (by decide), if_neg (by decide), if_neg (by decide)]⟩
theorem pu_run {N L nC : Nat} (hL : L ≤ 8) : ∀ (k i : Nat) (u : k_U) (m : k_M) (n n' : Nat), i + k = N → k + 1 < n → k < n' → pu_R u m → m 0 0 = 0 → pu_Sc u m N L nC → u 10 0 10 = kn L → nC = (if u 10 0 11 = 0 then L else L + 1) → ∃ u' m' v, f_X10_play_43 n u (kn i) 0 = some (u', v) ∧ f_X11_play_63 n' m (kn i) = some (m', v) ∧ pu_R u' m' ∧ u' 5 = u 5 := by
  intro k
  induction k with
  | zero =>
    intro i u m n n' hi hn hn' hR h0 hS h10 hC
    obtain ⟨n, rfl⟩ : ∃ n9, n = n9 + 1 := ⟨n - 1, by omega⟩
    obtain ⟨n', rfl⟩ : ∃ n9, n' = n9 + 1 := ⟨n' - 1, by omega⟩
    obtain ⟨hN, s2, s19, -⟩ := hS
    refine ⟨u, m, kn i, ?_, ?_, hR, rfl⟩
    · show f_X10_play_43_b _ u (kn i) 0 = _
      unfold f_X10_play_43_b
      rw [s2, if_pos (by rw [kn_le (by omega) (by omega)]; omega)]
    · show f_X11_play_63_b _ m (kn i) = _
      unfold f_X11_play_63_b
      rw [s19, if_pos (by rw [kn_le (by omega) (by omega)]; omega)]
  | succ k ih =>
    intro i u m n n' hi hn hn' hR h0 hS h10 hC
    obtain ⟨n, rfl⟩ : ∃ n9, n = n9 + 1 + 1 := ⟨n - 2, by omega⟩
    obtain ⟨n', rfl⟩ : ∃ n9, n' = n9 + 1 := ⟨n' - 1, by omega⟩
    have hS0 := hS
    obtain ⟨hN, s2, s19, hj⟩ := hS
    obtain ⟨⟨L', hW⟩, -⟩ := id hR
    have hLL : L' = L := by
      have e : kn L' = kn L := hW.1.2.1.symm.trans h10
      have := hW.1.1
      rw [kn_inj (by omega) (by omega)] at e
      exact e
    subst hLL
    generalize hX : f_X10_play_43 (n + 1 + 1) u (kn i) 0 = X
    have hX : f_X10_play_43_b (f_X10_play_43 (n + 1)) u (kn i) 0 = X := hX
    unfold f_X10_play_43_b at hX
    generalize hY : f_X11_play_63 (n' + 1) m (kn i) = Y
    have hY : f_X11_play_63_b (f_X11_play_63 n') m (kn i) = Y := hY
    unfold f_X11_play_63_b at hY
    rw [s2, if_neg (by rw [kn_le (by omega) (by omega)]; omega), if_pos rfl, k_ckn (show i < 40 by omega) (by decide), kn_nat (by omega), k_lts, k_ckn (show i < 40 by omega) (by decide)] at hX
    rw [s19, if_neg (by rw [kn_le (by omega) (by omega)]; omega), show (2 : Int32) * kn i = kn (2 * i) from kn_lmul i 2, show kn (2 * i) + 1 = kn (2 * i + 1) from kn_addl _ 1, k_ckn (show 2 * i < 80 by omega) (by decide), k_ckn (show 2 * i + 1 < 80 by omega) (by decide), kn_nat (by omega), kn_nat (by omega)] at hY
    obtain ⟨A, B, ac, hB, hA⟩ := pu_does hR h0 hW hC (hj i (by omega)) (fun r => f_X10_play_173 (f_X10_play_43 (n + 1)) r.1 (kn i) r.2)
    obtain ⟨u1, m1, v, e1, e2, R1, ⟨f2, f5⟩, ⟨g18, g19, g0⟩, ⟨z10, z11⟩⟩ := ac
    have hX := hA.symm.trans hX
    rw [e1, k_bds] at hX
    unfold f_X10_play_173 f_X10_play_183 f_X10_play_191 at hX
    dsimp only at hX
    rw [hB, e2, k_bds] at hY
    dsimp only at hY
    by_cases c : v < 0
    · rw [if_pos c] at hY
      rw [if_neg (by grind), if_neg (by decide)] at hX
      have e : f_X10_play_43 (n + 1) u1 (kn i) 1 = some (u1, kn i) := by
        show f_X10_play_43_b _ u1 (kn i) 1 = _
        unfold f_X10_play_43_b
        rw [if_neg (show ¬ (1 : Int32) = 0 by decide), ite_self]
      exact ⟨u1, m1, kn i, hX.symm.trans e, hY.symm, R1, f5⟩
    · rw [if_neg c, k_lts, kn_addl] at hY
      rw [if_pos (by grind), if_pos rfl, k_lts, kn_addl] at hX
      obtain ⟨u', m', v', q1, q2, q3, q4⟩ := ih (i + 1) u1 m1 (n + 1) n' (by omega) (by omega) (by omega) R1 (by rw [g0, h0]) ⟨hN, by rw [f2, s2], by rw [g19, s19], fun j hjj => by rw [f2, g18]; exact hj j hjj⟩ (by rw [z10, h10]) (by rw [z11]; exact hC)
      exact ⟨u', m', v', hX.symm.trans q1, hY.symm.trans q2, q3, q4.trans f5⟩
theorem pu_c2 {u : k_U} (h : pu_P u) (x1 x2 x3 x4 x5 : Int32) : ∃ u', kLsel 2 u x1 x2 x3 x4 x5 = some u' ∧ pu_P u' := by
  have h0 : pu_R u (u 5) := h
  obtain ⟨len, x1, x2, x3, x4⟩ := h0.2.2.2.2.1
  have hXl : pu_Xl (u 1) (k_up (u 5) 0 0 0) len := pu_Xl_c (m := u 5) ⟨x2, x3, x4⟩ rfl rfl rfl (k_upi _ _ (by decide)) (k_upc _ _ (by decide))
  obtain ⟨L, hW⟩ := h0.1
  have hL : L ≤ 8 := hW.1.1
  have no : ¬ (1 : Int32) = 0 := by decide
  show ∃ u', (k_bd (f_X10_play u) fun r => k_bd (f_X11_play (r.1 5)) fun q => k_ck (r.2 = q.2) (some (k_uc r.1 5 q.1))) = some u' ∧ pu_P u'
  obtain ⟨r0, m0, b1, b2, hR0, mf0⟩ := pu_beginR hXl x1
  have hX : f_X10_play u = (k_bd (f_X5_readCommands_12 k_N (k_uc (k_uc u 2 (k_up (u 2) 0 2 0)) 1 r0) (kn L) (kn (pu_n L (u 10))) (kn 0)) fun r22 => k_bd (f_X4_emptyText (r22.1 1)) fun r30 => k_lt (k_uc r22.1 1 r30) fun u30 => (if r22.2 = 0 then some (u30, (-1)) else f_X10_play_43 k_N u30 0 0)) := by
    unfold f_X10_play f_X5_readCommands
    rw [pu_count hW.1.2.1, k_bds, hW.1.2.1, k_lts, pu_uc _ _ (show 1 ≠ 2 by decide), b1, k_bds, k_lts]
    rfl
  have hY : f_X11_play (u 5) = f_X11_play_16 k_N (k_up m0 0 19 0) 1 := by
    unfold f_X11_play
    rw [k_lts, b2, k_bds, k_lts]
  have hRd : pu_Rd r0 (k_up m0 0 19 0) len 0 := pu_Rd_c hR0 (fun i a b => k_upi _ _ (by omega)) (k_upc _ _ (by decide))
  have e10 : k_uc (k_uc u 2 (k_up (u 2) 0 2 0)) 1 r0 10 = u 10 := by rw [pu_uc _ _ (show 10 ≠ 1 by decide), pu_uc _ _ (show 10 ≠ 2 by decide)]
  have mh0 : pu_mh (k_up (u 5) 0 0 0) (k_up m0 0 19 0) := pu_mh_tr (pu_mh_mf mf0) ⟨fun c a b => k_upc _ _ a, fun i a b => k_upi _ _ b⟩
  have hWm : ∀ m', pu_mh (k_up m0 0 19 0) m' → pu_W L (u 10) (m' 1) := fun m' hm => by
    rw [hm.1 1 (by decide) (by decide), mh0.1 1 (by decide) (by decide), k_upc _ _ (by decide)]
    exact hW
  have hRf : ∀ (u' : k_U) (m' : k_M), (∀ k, k ≠ 1 → k ≠ 2 → u' k = k_uc (k_uc u 2 (k_up (u 2) 0 2 0)) 1 r0 k) → pu_mh (k_up m0 0 19 0) m' → (u' 1 0 3 = m' 0 15 ∧ u' 1 0 4 = m' 0 16) → pu_R (k_uc u' 1 (k_up (u' 1) 0 2 0)) (k_up m' 0 10 0) := by
    intro u' m' hk hm he
    have hk2 : ∀ k, k ≠ 1 → k ≠ 2 → u' k = u k := fun k a b => by rw [hk k a b, pu_uc _ _ a, pu_uc _ _ b]
    have mh1 := pu_mh_tr mh0 hm
    refine pu_R_txt h0 ⟨L, ?_⟩ (fun k y1 y2 y4 y10 y14 => by rw [pu_uc _ _ y1, hk2 k y1 y2]) ?_ (Or.inl ⟨?_, ?_⟩) ⟨?_, k_ups _ _ _ _⟩ ?_ ?_ ?_ (fun c hc => ?_)
    · rw [pu_uc _ _ (show 10 ≠ 1 by decide), hk2 10 (by decide) (by decide), k_upc _ _ (by decide)]
      exact hWm m' hm
    · rw [pu_uc _ _ (show 4 ≠ 1 by decide), hk2 4 (by decide) (by decide)]
    · rw [pu_uc _ _ (show 4 ≠ 1 by decide), hk2 4 (by decide) (by decide)]
    · rw [k_upi _ _ (by decide), mh1.2 8 (by decide) (by decide), k_upi _ _ (by decide)]
    · rw [k_uc_s, k_ups]
    · rw [k_uc_s, k_upi _ _ (by decide), k_upi _ _ (by decide), k_upi _ _ (by decide), k_upi _ _ (by decide)]
      exact he
    · rw [pu_uc _ _ (show 14 ≠ 1 by decide), hk2 14 (by decide) (by decide)]
      exact h0.2.2.2.2.2.2.2
    · rw [k_upi _ _ (by decide), mh1.2 21 (by decide) (by decide), k_upi _ _ (by decide)]
    · rw [k_upc _ _ (by omega), mh1.1 c (by omega) (by omega), k_upc _ _ (by omega)]
  rcases pu_cmds (len := len) (L := L) 600 (k_uc (k_uc u 2 (k_up (u 2) 0 2 0)) 1 r0) (k_up m0 0 19 0) 0 0 0 k_N k_N (by omega) (Nat.le_refl _) (by unfold k_N; omega) (by unfold k_N; omega) (by rw [k_uc_s]; exact hRd) (by rw [e10]; exact hWm _ ⟨fun _ _ _ => rfl, fun _ _ _ => rfl⟩) ⟨Nat.zero_le _, by rw [pu_uc _ _ (show 2 ≠ 1 by decide), k_uc_s, k_ups]; rfl, by rw [k_ups]; rfl, fun j hj => absurd hj (by omega)⟩ with ⟨u', m', N', nx', c1, c2, c3, c4, c5, c6⟩ | ⟨u', m', c1, c2, c3, c4, c5⟩
  · rw [e10] at c1 c4
    have R1 := hRf u' m' c5 c6 (pu_Rd_er c3)
    have mh1 := pu_mh_tr mh0 c6
    have hu10 : k_uc u' 1 (k_up (u' 1) 0 2 0) 10 = u 10 := by rw [pu_uc _ _ (show 10 ≠ 1 by decide), c5 10 (by decide) (by decide), e10]
    obtain ⟨hN', s2, s19, hj⟩ := c4
    obtain ⟨u2, m2, v, q1, q2, q3, q4⟩ := pu_run (N := N') (L := L) (nC := pu_n L (u 10)) hL N' 0 (k_uc u' 1 (k_up (u' 1) 0 2 0)) (k_up m' 0 10 0) k_N k_N (by omega) (by unfold k_N; omega) (by unfold k_N; omega) R1 (by rw [k_upi _ _ (by decide), mh1.2 0 (by decide) (by decide), k_ups]) ⟨hN', by rw [pu_uc _ _ (show 2 ≠ 1 by decide)]; exact s2, by rw [k_upi _ _ (by decide)]; exact s19, fun j hjj => by rw [pu_uc _ _ (show 2 ≠ 1 by decide), k_upc _ _ (show 18 ≠ 0 by decide)]; exact hj j hjj⟩ (by rw [hu10]; exact hW.1.2.1) (by rw [hu10]; rfl)
    refine pu_okr (F := f_X11_play) (u' := u2) (v := v) (q := m2) ?_ ?_ q3
    · rw [hX, c1, k_bds]
      dsimp only
      unfold f_X4_emptyText
      rw [k_lts, k_bds, k_lts, if_neg no]
      exact q1
    · rw [q4, pu_uc _ _ (show 5 ≠ 1 by decide), c5 5 (by decide) (by decide), pu_uc _ _ (show 5 ≠ 1 by decide), pu_uc _ _ (show 5 ≠ 2 by decide), hY, c2]
      unfold f_X11_play_50
      rw [k_lts, if_neg no]
      exact q2
  · rw [e10] at c1
    have R1 := hRf u' m' c4 c5 ⟨c3.2.2.2.2.1.symm, c3.2.2.2.2.2.symm⟩
    refine pu_okr (F := f_X11_play) (u' := k_uc u' 1 (k_up (u' 1) 0 2 0)) (v := -1) (q := k_up m' 0 10 0) ?_ ?_ R1
    · rw [hX, c1, k_bds]
      dsimp only
      unfold f_X4_emptyText
      rw [k_lts, k_bds, k_lts, if_pos rfl]
    · rw [pu_uc _ _ (show 5 ≠ 1 by decide), c4 5 (by decide) (by decide), pu_uc _ _ (show 5 ≠ 1 by decide), pu_uc _ _ (show 5 ≠ 2 by decide), hY, c2]
      unfold f_X11_play_50
      rw [k_lts, if_pos rfl]

/-! what stays when a chute changes; opening by layers, the reserve -/
theorem pu_C_congr {w w1 : k_M} {q p : Nat} {s s1 : Nat → Int32} (h : pu_C w q s p) (hw : w1 q = w q) (hs : ∀ d, (d = 20 ∨ d = 29 ∨ d = 38 ∨ d = 47 ∨ d = 56 ∨ d = 65 ∨ d = 74 ∨ d = 83) → s1 (d + p) = s (d + p)) : pu_C w1 q s1 p := by
  obtain ⟨ar, li, st, t, h1, h2, h3, h4, ⟨a0, a1, a2, a7⟩, h6, h7, h8, ⟨b0, b1, b2, b3, b4, b5, b6, b7⟩⟩ := h
  refine ⟨ar, li, st, t, ⟨h1.1, h1.2.1, by rw [hw]; exact h1.2.2⟩, h2, h3, h4, ⟨?_, ?_, ?_, ?_⟩, ?_, ?_, ?_, ⟨?_, ?_, ?_, ?_, ?_, ?_, ?_, ?_⟩⟩
  · rw [hw]; exact a0
  · rw [hw]; exact a1
  · rw [hw]; exact a2
  · rw [hw]; exact a7
  · rw [hw]; exact h6
  · rw [hw]; exact h7
  · rw [hw]; exact h8
  · rw [hs 20 (by omega)]; exact b0
  · rw [hs 29 (by omega)]; exact b1
  · rw [hs 38 (by omega)]; exact b2
  · rw [hs 47 (by omega), hw]; exact b3
  · rw [hs 56 (by omega), hw]; exact b4
  · rw [hs 65 (by omega), hw]; exact b5
  · rw [hs 74 (by omega)]; exact b6
  · rw [hs 83 (by omega), hw]; exact b7
theorem pu_F_congr {w w1 : k_M} {s s1 : Nat → Int32} (h : pu_F w s) (hw : ∀ i, i < 10 → w1 0 i = w 0 i) (hs : ∀ j, (j < 8 ∨ j = 13 ∨ j = 14) → s1 j = s j) : pu_F w1 s1 := by
  obtain ⟨hh, v, he, ma, h1, h2, ⟨a0, a1, a4, a3⟩, ⟨b0, b1, b4, b3⟩, c2, c5, c6, c7, c13, c14⟩ := h
  refine ⟨hh, v, he, ma, h1, h2, ⟨?_, ?_, ?_, ?_⟩, ⟨?_, ?_, ?_, ?_⟩, ?_, ?_, ?_, ?_, ?_, ?_⟩
  · rw [hw 0 (by omega)]; exact a0
  · rw [hw 1 (by omega)]; exact a1
  · rw [hw 4 (by omega)]; exact a4
  · rw [hw 3 (by omega)]; exact a3
  · rw [hs 0 (by omega)]; exact b0
  · rw [hs 1 (by omega)]; exact b1
  · rw [hs 4 (by omega)]; exact b4
  · rw [hs 3 (by omega)]; exact b3
  · rw [hs 2 (by omega), hw 2 (by omega)]; exact c2
  · rw [hs 5 (by omega), hw 5 (by omega)]; exact c5
  · rw [hs 6 (by omega), hw 6 (by omega)]; exact c6
  · rw [hs 7 (by omega), hw 7 (by omega)]; exact c7
  · rw [hs 13 (by omega), hw 8 (by omega)]; exact c13
  · rw [hs 14 (by omega), hw 9 (by omega)]; exact c14
theorem pu_T_congr {w w1 : k_M} {s s1 : Nat → Int32} {tc cnt base : Nat} (h : pu_T w s tc cnt base) (h2 : w1 tc 2 = w tc 2) (hw1 : ∀ i, i < 8 → w1 (tc + 1) i = w (tc + 1) i) (hw2 : ∀ i, i < 8 → w1 (tc + 2) i = w (tc + 2) i) (hc : s1 cnt = s cnt) (hs : ∀ j, base ≤ j → j < base + 16 → s1 j = s j) : pu_T w1 s1 tc cnt base := by
  obtain ⟨n, hn, e1, e2, e3⟩ := h
  refine ⟨n, hn, by rw [h2]; exact e1, by rw [hc]; exact e2, fun k hk => ?_⟩
  obtain ⟨g1, g2⟩ := e3 k hk
  exact ⟨by rw [hs _ (by omega) (by omega), hw1 k (by omega)]; exact g1, by rw [hs _ (by omega) (by omega), hw2 k (by omega)]; exact g2⟩
theorem pu_S_congr {w w1 : k_M} {s s1 : Nat → Int32} (h : pu_S w s) (h3 : w1 9 3 = w 9 3) (hw0 : ∀ i, i < 8 → w1 10 i = w 10 i) (hw1 : ∀ i, i < 8 → w1 11 i = w 11 i) (hw2 : ∀ i, i < 8 → w1 12 i = w 12 i) (hc : s1 12 = s 12) (hs : ∀ j, 124 ≤ j → j < 148 → s1 j = s j) : pu_S w1 s1 := by
  obtain ⟨n, hn, e1, e2, e3⟩ := h
  refine ⟨n, hn, by rw [h3]; exact e1, by rw [hc]; exact e2, fun k hk => ?_⟩
  obtain ⟨g1, g2, g3⟩ := e3 k hk
  exact ⟨by rw [hs _ (by omega) (by omega), hw0 k (by omega)]; exact g1, by rw [hs _ (by omega) (by omega), hw1 k (by omega)]; exact g2, by rw [hs _ (by omega) (by omega), hw2 k (by omega)]; exact g3⟩
theorem pu_E_congr {w w1 : k_M} {s s1 : Nat → Int32} (h : pu_E w s) (h1 : w1 13 1 = w 13 1) (h2 : w1 13 2 = w 13 2) (hw : ∀ i, i < 120 → w1 14 i = w 14 i) (hc : s1 16 = s 16) (hs : ∀ j, 148 ≤ j → j < 268 → s1 j = s j) : pu_E w1 s1 := by
  obtain ⟨e, n, he, hn, e1, e2, e3, e4⟩ := h
  refine ⟨e, n, he, hn, by rw [h1]; exact e1, by rw [h2]; exact e2, by rw [hc]; exact e3, fun i hi j hj => ?_⟩
  have hm : (e + i) % 30 < 30 := Nat.mod_lt _ (by omega)
  rw [hs _ (by omega) (by omega), hw _ (by omega)]
  exact e4 i hi j hj
theorem pu_n_congr {L : Nat} {w w1 : k_M} (h : w1 0 11 = w 0 11) : pu_n L w1 = pu_n L w := by
  unfold pu_n
  rw [h]
theorem pu_W_chg {L i : Nat} {w w1 : k_M} {s s1 : Nat → Int32} (hW : pu_W L w s) (hi : i < pu_n L w) (hw : ∀ c, c ≠ pu_q L i → c ≠ 13 → c ≠ 14 → w1 c = w c) (hs : ∀ j, j < 148 → j ≠ 15 → j ≠ 16 → j ≠ 65 + pu_p L i → j ≠ 74 + pu_p L i → j ≠ 83 + pu_p L i → s1 j = s j) (hC : pu_C w1 (pu_q L i) s1 (pu_p L i)) (hE : pu_E w1 s1) (hl : s1 15 = pu_lost L w1) : pu_W L w1 s1 := by
  obtain ⟨⟨hL, a10, b8⟩, ⟨hR, b9, hJ⟩, hCh, -, hF, hT, hWi, hS, -⟩ := hW
  have hq := pu_q_r (i := i) hL
  have hp := pu_p_r (i := i) hL
  have hnr := pu_n_r (L := L) (w := w)
  have g : ∀ c, c < 13 → c ≠ 2 → w1 c = w c := fun c h1 h2 => hw c (by omega) (by omega) (by omega)
  have hn : pu_n L w1 = pu_n L w := pu_n_congr (by rw [g 0 (by omega) (by omega)])
  refine ⟨⟨hL, by rw [g 0 (by omega) (by omega)]; exact a10, by rw [hs 8 (by omega) (by omega) (by omega) (by omega) (by omega) (by omega)]; exact b8⟩, ⟨by rw [g 0 (by omega) (by omega)]; exact hR, by rw [hs 9 (by omega) (by omega) (by omega) (by omega) (by omega) (by omega), g 0 (by omega) (by omega)]; exact b9, ?_⟩, fun j hj => ?_, hl, ?_, ?_, ?_, ?_, hE⟩
  · by_cases h2 : pu_q L i = 2
    · obtain ⟨-, -, -, -, -, -, -, -, -, -, -, hj6, -⟩ := hC
      rw [h2] at hj6
      exact hj6
    · rw [hw 2 (fun h => h2 h.symm) (by omega) (by omega)]
      exact hJ
  · rw [hn] at hj
    by_cases hij : j = i
    · subst hij
      exact hC
    · have hqn : pu_q L j ≠ pu_q L i := fun h => hij (pu_q_inj hL (by omega) (by omega) h)
      have hpn : pu_p L j ≠ pu_p L i := fun h => hij (pu_p_inj hL (by omega) (by omega) h)
      have hqj := pu_q_r (i := j) hL
      have hpj := pu_p_r (i := j) hL
      refine pu_C_congr (hCh j hj) (hw _ hqn (by omega) (by omega)) (fun d hd => ?_)
      refine hs _ (by omega) (by omega) (by omega) ?_ ?_ ?_ <;> omega
  · exact pu_F_congr hF (fun i _ => by rw [g 0 (by omega) (by omega)]) (fun j hj => hs j (by omega) (by omega) (by omega) (by omega) (by omega) (by omega))
  · exact pu_T_congr hT (by rw [g 3 (by omega) (by omega)]) (fun i _ => by rw [g _ (by omega) (by omega)]) (fun i _ => by rw [g _ (by omega) (by omega)]) (hs 10 (by omega) (by omega) (by omega) (by omega) (by omega) (by omega)) (fun j h1 h2 => hs j (by omega) (by omega) (by omega) (by omega) (by omega) (by omega))
  · exact pu_T_congr hWi (by rw [g 6 (by omega) (by omega)]) (fun i _ => by rw [g _ (by omega) (by omega)]) (fun i _ => by rw [g _ (by omega) (by omega)]) (hs 11 (by omega) (by omega) (by omega) (by omega) (by omega) (by omega)) (fun j h1 h2 => hs j (by omega) (by omega) (by omega) (by omega) (by omega) (by omega))
  · exact pu_S_congr hS (by rw [g 9 (by omega) (by omega)]) (fun i _ => by rw [g _ (by omega) (by omega)]) (fun i _ => by rw [g _ (by omega) (by omega)]) (fun i _ => by rw [g _ (by omega) (by omega)]) (hs 12 (by omega) (by omega) (by omega) (by omega) (by omega) (by omega)) (fun j h1 h2 => hs j (by omega) (by omega) (by omega) (by omega) (by omega) (by omega))
theorem pu_sf_upd {f f' : Nat → Int32} {i : Nat} : ∀ (k a : Nat), a ≤ i → i < a + k → (∀ j, a ≤ j → j < a + k → j ≠ i → f' j = f j) → pu_sf f' a k = pu_sf f a k + (f' i - f i) := by
  intro k
  induction k with
  | zero => intro a h1 h2; omega
  | succ k ih =>
    intro a h1 h2 h
    show f' a + pu_sf f' (a + 1) k = f a + pu_sf f (a + 1) k + (f' i - f i)
    by_cases hi : a = i
    · subst hi
      rw [pu_sf_congr k (a + 1) (f := f') (g := f) (fun j h3 h4 => h j (by omega) (by omega) (by omega))]
      grind
    · rw [h a (by omega) (by omega) hi, ih (a + 1) (by omega) (by omega) (fun j h3 h4 h5 => h j (by omega) (by omega) h5)]
      grind
/-- the lost lines, when one chute changes -/
theorem pu_lost_chg {L i : Nat} {w w1 : k_M} (hL : L ≤ 8) (hi : i < pu_n L w) (h0 : w1 0 11 = w 0 11) (hw : ∀ c, c ≠ pu_q L i → (c = 2 ∨ (15 ≤ c ∧ c < 23)) → w1 c = w c) : pu_lost L w1 = pu_lost L w + ((if w1 (pu_q L i) 5 = 4 then w1 (pu_q L i) 1 - w1 (pu_q L i) 7 else 0) - (if w (pu_q L i) 5 = 4 then w (pu_q L i) 1 - w (pu_q L i) 7 else 0)) := by
  have hnr := pu_n_r (L := L) (w := w)
  unfold pu_lost
  rw [pu_n_congr h0]
  exact pu_sf_upd (f := fun i => if w (pu_q L i) 5 = 4 then w (pu_q L i) 1 - w (pu_q L i) 7 else 0) (f' := fun i => if w1 (pu_q L i) 5 = 4 then w1 (pu_q L i) 1 - w1 (pu_q L i) 7 else 0) (pu_n L w) 0 (by omega) (by omega) (fun j _ hj hji => by
    rw [hw (pu_q L j) (fun h => hji (pu_q_inj hL (by omega) (by omega) h)) (pu_q_r hL)])
theorem pu_lost_keep {L i : Nat} {w w1 : k_M} (hL : L ≤ 8) (hi : i < pu_n L w) (h0 : w1 0 11 = w 0 11) (hw : ∀ c, c ≠ pu_q L i → (c = 2 ∨ (15 ≤ c ∧ c < 23)) → w1 c = w c) (h4 : ¬ w (pu_q L i) 5 = 4) (h4' : ¬ w1 (pu_q L i) 5 = 4) : pu_lost L w1 = pu_lost L w := by
  rw [pu_lost_chg hL hi h0 hw, if_neg h4, if_neg h4', Int32.sub_self, Int32.add_zero]
/-- one chute's state goes from 0 to v, an event is told -/
theorem pu_turn {L i : Nat} {w m : k_M} (hW : pu_W L w (m 1)) (hi : i < pu_n L w) (h0 : w (pu_q L i) 5 = 0) {v : Int32} (hv0 : ¬ v = 0) (hv4 : ¬ v = 4) (hvr : pu_st5 v) (kd ch nm : Int32) : ∃ w' m', f_X1_keep (k_up w (pu_q L i) 5 v) ((k_up w (pu_q L i) 5 v) 0 6) kd ch nm = some w' ∧ f_X11_tells (k_up m 1 (65 + pu_p L i) v) kd ch nm = some m' ∧ pu_W L w' (m' 1) ∧ (∀ c, c ≠ 1 → m' c = m c) ∧ w' 0 = w 0 ∧ w' (pu_q L i) 5 = v ∧ pu_kp w w' := by
  have hW0 := hW
  obtain ⟨⟨hL, a10, b8⟩, ⟨hR, b9, hJ⟩, hCh, hlo, hF, hT, hWi, hS, hE⟩ := hW
  have hq := pu_q_r (i := i) hL
  have hp := pu_p_r (i := i) hL
  obtain ⟨-, -, -, -, -, -, -, -, -, -, c6, -⟩ := id hF
  have e0 : (k_up w (pu_q L i) 5 v) 0 = w 0 := k_upc _ _ (by omega)
  have hE1 : pu_E (k_up w (pu_q L i) 5 v) ((k_up m 1 (65 + pu_p L i) v) 1) := pu_E_congr hE (by rw [k_upc _ _ (by omega)]) (by rw [k_upc _ _ (by omega)]) (fun i _ => by rw [k_upc _ _ (by omega)]) (k_upi _ _ (by omega)) (fun j h1 h2 => k_upi _ _ (by omega))
  obtain ⟨w', m', r1, r2, r3, r4, r5, r6⟩ := pu_tells hE1 (by rw [k_upi _ _ (by omega), e0]; exact c6) kd ch nm
  have hwq : w' (pu_q L i) = (k_up w (pu_q L i) 5 v) (pu_q L i) := r3 _ (by omega) (by omega)
  have hw0 : w' 0 = w 0 := by rw [r3 0 (by omega) (by omega), e0]
  have hkeep : ∀ c, c ≠ pu_q L i → c ≠ 13 → c ≠ 14 → w' c = w c := fun c h1 h2 h3 => by rw [r3 c h2 h3, k_upc _ _ h1]
  have h5 : w' (pu_q L i) 5 = v := by rw [hwq, k_ups]
  refine ⟨w', m', r1, r2, ?_, fun c hc => by rw [r4 c hc, k_upc _ _ hc], hw0, h5, fun c a b => hkeep c (by omega) (by omega) (by omega)⟩
  refine pu_W_chg hW0 hi hkeep (fun j h1 h2 h3 h4 h5 h6 => by rw [r5 j h1 h3, k_upi _ _ h4]) ?_ r6 ?_
  · obtain ⟨ar, li, st, t, g1, g2, g3, g4, ⟨k0, k1, k2, k7⟩, g6, g7, g8, ⟨q0, q1, q2, q3, q4, q5, q6, q7⟩⟩ := hCh i hi
    have hx : ∀ j, j ≠ 5 → w' (pu_q L i) j = w (pu_q L i) j := fun j hj => by rw [hwq, k_upi _ _ hj]
    have hy : ∀ d, (d = 20 ∨ d = 29 ∨ d = 38 ∨ d = 47 ∨ d = 56 ∨ d = 74 ∨ d = 83) → m' 1 (d + pu_p L i) = m 1 (d + pu_p L i) := fun d hd => by rw [r5 _ (by omega) (by omega), k_upi _ _ (by omega)]
    refine ⟨ar, li, st, t, ⟨g1.1, g1.2.1, by rw [h5]; exact hvr⟩, g2, g3, g4, ⟨by rw [hx 0 (by omega)]; exact k0, by rw [hx 1 (by omega)]; exact k1, by rw [hx 2 (by omega)]; exact k2, by rw [hx 7 (by omega)]; exact k7⟩, fun h => ?_, fun h => ?_, by rw [hx 6 (by omega)]; exact g8, ⟨by rw [hy 20 (by omega)]; exact q0, by rw [hy 29 (by omega)]; exact q1, by rw [hy 38 (by omega)]; exact q2, by rw [hy 47 (by omega), hx 3 (by omega)]; exact q3, by rw [hy 56 (by omega), hx 4 (by omega)]; exact q4, ?_, by rw [hy 74 (by omega)]; exact q6, by rw [hy 83 (by omega), hx 6 (by omega)]; exact q7⟩⟩
    · rw [h5] at h
      exact absurd h hv0
    · rw [g6 h0]
      omega
    · rw [r5 _ (by omega) (by omega), k_ups, h5]
  · rw [pu_lost_keep hL hi (by rw [hw0]) (fun c h1 h2 => hkeep c h1 (by omega) (by omega)) (by rw [h0]; decide) (by rw [h5]; exact hv4), r5 15 (by omega) (by omega), k_upi _ _ (by omega)]
    exact hlo
theorem pu_opens {L i : Nat} {w m : k_M} (hW : pu_W L w (m 1)) (hi : i < L) (h0 : w (15 + i) 5 = 0) : ∃ w' m', f_X9_openLayer w (kn i) = some w' ∧ f_X11_opens m (kn i) = some m' ∧ pu_W L w' (m' 1) ∧ (∀ c, c ≠ 1 → m' c = m c) ∧ w' 0 = w 0 ∧ pu_kp w w' := by
  have hL : L ≤ 8 := hW.1.1
  have hin : i < pu_n L w := pu_n_L hi
  have hC := hW.2.2.1 i hin
  have hF := hW.2.2.2.2.1
  obtain ⟨_, _, _, _, -, -, ⟨-, f1, -, -⟩, ⟨-, g1, -, -⟩, -⟩ := hF
  rw [pu_q_l hi, pu_p_l hi] at hC
  obtain ⟨-, -, -, -, -, -, -, -, -, -, -, hj, ⟨-, -, -, -, -, -, -, e83⟩⟩ := hC
  have key : ∀ v : Int32, ¬ v = 0 → ¬ v = 4 → pu_st5 v → ∀ kd : Int32, ∃ w' m', f_X1_keep (k_up w (15 + i) 5 v) ((k_up w (15 + i) 5 v) 0 6) kd (kn i) (w 0 1) = some w' ∧ f_X11_tells (k_up m 1 (65 + i) v) kd (kn i) (w 0 1) = some m' ∧ pu_W L w' (m' 1) ∧ (∀ c, c ≠ 1 → m' c = m c) ∧ w' 0 = w 0 ∧ pu_kp w w' := by
    intro v hv0 hv4 hvr kd
    obtain ⟨w', m', a1, a2, a3, a4, a5, -, a6⟩ := pu_turn hW hin (by rw [pu_q_l hi]; exact h0) hv0 hv4 hvr kd (kn i) (w 0 1)
    rw [pu_q_l hi] at a1
    rw [pu_p_l hi] at a2
    exact ⟨w', m', a1, a2, a3, a4, a5, a6⟩
  have hs1 : ∀ v : Int32, (k_up m 1 (65 + i) v) 1 1 = w 0 1 := fun v => by rw [k_upi _ _ (by omega), g1, f1]
  have hw1 : ∀ v : Int32, (k_up w (15 + i) 5 v) 0 1 = w 0 1 := fun v => by rw [k_upc _ _ (by omega)]
  have hs83 : ∀ v : Int32, (k_up m 1 (65 + i) v) 1 (83 + i) = w (15 + i) 6 := fun v => by rw [k_upi _ _ (by omega), e83]
  unfold f_X9_openLayer f_X11_opens
  rw [k_ckn (by omega) (by omega), kn_nat (by omega), kn_ladd, k_ckn (by omega) (by omega), kn_nat (by omega), e83]
  rcases hj with hj | hj
  · obtain ⟨w', m', a1, a2, a3, a4, a5, a6⟩ := key 1 (by decide) (by decide) (Or.inr (Or.inl rfl)) 0
    refine ⟨w', m', ?_, ?_, a3, a4, a5, a6⟩
    · rw [if_pos hj, k_lts, hw1, a1]
      rfl
    · rw [hj, if_neg (by decide), kn_ladd]
      unfold f_X11_opens_26
      rw [k_ckn (by omega) (by omega), k_lts, kn_ladd, k_ckn (by omega) (by omega), kn_nat (by omega), kn_nat (by omega), hs83, hj, if_neg (by decide)]
      unfold f_X11_opens_46
      rw [hs1, a2]
      rfl
  · obtain ⟨w', m', a1, a2, a3, a4, a5, a6⟩ := key 3 (by decide) (by decide) (Or.inr (Or.inr (Or.inr (Or.inl rfl)))) 3
    refine ⟨w', m', ?_, ?_, a3, a4, a5, a6⟩
    · rw [if_neg (by rw [hj]; decide), k_lts, hw1, a1]
      rfl
    · rw [hj, if_pos rfl, kn_ladd]
      unfold f_X11_opens_26
      rw [k_ckn (by omega) (by omega), k_lts, kn_ladd, k_ckn (by omega) (by omega), kn_nat (by omega), kn_nat (by omega), hs83, hj, if_pos rfl]
      unfold f_X11_opens_46
      rw [hs1, a2]
      rfl
theorem pu_rel65 {L : Nat} {w m : k_M} (hW : pu_W L w (m 1)) : ∀ i, i < L → m 1 (65 + i) = w (15 + i) 5 ∧ m 1 (47 + i) = w (15 + i) 3 ∧ m 1 (56 + i) = w (15 + i) 4 ∧ (w (15 + i) 6 = 0 ∨ w (15 + i) 6 = 1) ∧ m 1 (83 + i) = w (15 + i) 6 := by
  intro i hi
  have hC := hW.2.2.1 i (pu_n_L hi)
  rw [pu_q_l hi, pu_p_l hi] at hC
  obtain ⟨-, -, -, -, -, -, -, -, -, -, -, hj, ⟨-, -, -, e3, e4, e5, -, e6⟩⟩ := hC
  exact ⟨e5, e3, e4, hj, e6⟩
theorem pu_failed {L : Nat} {w m : k_M} (hW : pu_W L w (m 1)) : f_X9_failedLayers w = some (pu_sf (pu_ff w) 0 L) ∧ f_X11_failed m = some (pu_sf (pu_ff w) 0 L) :=
  ⟨pu_fail_c hW.1.1 hW.1.2.1, pu_fail_m hW.1.1 hW.1.2.2 (fun i hi => (pu_rel65 hW i hi).1)⟩
theorem pu_rel01 {L : Nat} {w m : k_M} (hW : pu_W L w (m 1)) : m 1 0 = w 0 0 ∧ m 1 1 = w 0 1 := by
  obtain ⟨_, _, _, _, -, -, ⟨a0, a1, -, -⟩, ⟨b0, b1, -, -⟩, -⟩ := hW.2.2.2.2.1
  exact ⟨b0.trans a0.symm, b1.trans a1.symm⟩
theorem pu_first {L : Nat} {w m : k_M} (hW : pu_W L w (m 1)) : f_X9_firstLayerThatMayOpen w = some (pu_find (pu_may w) 0 L) ∧ f_X11_firstThatMay m = some (pu_find (pu_may w) 0 L) :=
  ⟨pu_first_c hW.1.1 hW.1.2.1, pu_first_m hW.1.1 hW.1.2.2 (pu_rel01 hW).1 (pu_rel01 hW).2 (fun i hi => ⟨(pu_rel65 hW i hi).1, (pu_rel65 hW i hi).2.1, (pu_rel65 hW i hi).2.2.1⟩)⟩
theorem pu_nR {L : Nat} {w : k_M} (h : w 0 11 = 1) : pu_n L w = L + 1 := by
  unfold pu_n
  rw [if_neg (by rw [h]; decide)]
theorem pu_opensR {L : Nat} {w m : k_M} (hW : pu_W L w (m 1)) (hR : w 0 11 = 1) (h0 : w 2 5 = 0) : ∃ w' m', f_X9_openTheReserve w (pu_sf (pu_ff w) 0 L) = some w' ∧ f_X11_opensReserve m = some m' ∧ pu_W L w' (m' 1) ∧ (∀ c, c ≠ 1 → m' c = m c) ∧ w' 0 = w 0 ∧ f_X11_failed m' = some (pu_sf (pu_ff w) 0 L) ∧ pu_kp w w' := by
  have hL : L ≤ 8 := hW.1.1
  have hn := pu_nR (L := L) hR
  obtain ⟨w', m', a1, a2, a3, a4, a5, -, a6⟩ := pu_turn hW (i := L) (by omega) (by rw [pu_q_n (Nat.lt_irrefl L)]; exact h0) (v := 1) (by decide) (by decide) (Or.inr (Or.inl rfl)) 4 (kn L) (pu_sf (pu_ff w) 0 L)
  rw [pu_q_n (Nat.lt_irrefl L)] at a1
  rw [pu_p_n (Nat.lt_irrefl L)] at a2
  have hfm : f_X11_failed (k_up m 1 (65 + 8) 1) = some (pu_sf (pu_ff w) 0 L) := pu_fail_m hL (by rw [k_upi _ _ (by omega)]; exact hW.1.2.2) (fun i hi => by rw [k_upi _ _ (by omega)]; exact (pu_rel65 hW i hi).1)
  refine ⟨w', m', ?_, ?_, a3, a4, a5, ?_, a6⟩
  · unfold f_X9_openTheReserve
    rw [k_lts, show (k_up w 2 5 1) 0 10 = kn L from hW.1.2.1, a1]
    rfl
  · unfold f_X11_opensReserve
    rw [k_lts, show k_up m 1 73 1 = k_up m 1 (65 + 8) 1 from rfl, hfm, k_bds, show (k_up m 1 (65 + 8) 1) 1 8 = kn L from hW.1.2.2, a2]
    rfl
  · have hw : ∀ i, i < L → w' (15 + i) = w (15 + i) := by
      intro i hi
      have h6 : (k_up w 2 5 1) 0 6 = w 0 6 := rfl
      obtain ⟨e, n, he, hn30, h1, h2, -⟩ := hW.2.2.2.2.2.2.2.2
      obtain ⟨w9, r1, r2, -⟩ := pu_rec (w := k_up w 2 5 1) he hn30 h1 h2 ((k_up w 2 5 1) 0 6) 4 (kn L) (pu_sf (pu_ff w) 0 L)
      have : w9 = w' := Option.some.inj (r1.symm.trans a1)
      subst this
      rw [r2 _ (by omega) (by omega), k_upc _ _ (by omega)]
    have := (pu_failed a3).2
    rw [this]
    exact congrArg some (pu_sf_congr _ _ fun j _ hj => by
      unfold pu_ff
      rw [hw j (by omega)])
theorem pu_relR {L : Nat} {w m : k_M} (hW : pu_W L w (m 1)) (hR : w 0 11 = 1) : m 1 73 = w 2 5 ∧ m 1 55 = w 2 3 ∧ m 1 64 = w 2 4 ∧ pu_C w 2 (m 1) 8 := by
  have hC := hW.2.2.1 L (by rw [pu_nR hR]; omega)
  rw [pu_q_n (Nat.lt_irrefl L), pu_p_n (Nat.lt_irrefl L)] at hC
  have hC2 := hC
  obtain ⟨-, -, -, -, -, -, -, -, -, -, -, -, ⟨-, -, -, e3, e4, e5, -, -⟩⟩ := hC
  exact ⟨e5, e3, e4, hC2⟩
theorem pu_brakes {L : Nat} {w m : k_M} (hW : pu_W L w (m 1)) : ∃ w' m', f_X9_openWhatMay w = some w' ∧ f_X11_brakes m = some m' ∧ pu_W L w' (m' 1) ∧ (∀ c, c ≠ 1 → m' c = m c) ∧ w' 0 = w 0 ∧ pu_kp w w' := by
  obtain ⟨e1, e2⟩ := pu_first hW
  obtain ⟨e3, e4⟩ := pu_failed hW
  unfold f_X9_openWhatMay f_X11_brakes
  rw [e1, e2, e3, k_bds, k_bds, k_bds]
  rcases pu_find_r (P := pu_may w) L 0 with h | ⟨j, -, hj, hP, h⟩
  · rw [h, if_pos rfl, if_pos rfl]
    unfold f_X11_reserveMay f_X0_isPackedAndBelowCeiling
    rw [hW.2.1.2.1, (pu_rel01 hW).1, e2, e4, h, k_bds]
    rcases hW.2.1.1 with hR | hR
    · exact ⟨w, m, by rw [if_pos hR], by rw [if_neg (by rw [hR]; decide)]; rfl, hW, fun _ _ => rfl, rfl, fun _ _ _ => rfl⟩
    · obtain ⟨r5, r3, r4, -⟩ := pu_relR hW hR
      rw [if_neg (show ¬ w 0 11 = 0 by rw [hR]; decide), if_pos hR, r5, r3, r4]
      by_cases c5 : w 2 5 = 0
      · rw [if_pos c5, if_pos c5]
        by_cases c3 : w 2 3 < w 0 0
        · exact ⟨w, m, by rw [if_pos c3]; rfl, by rw [if_pos c3]; rfl, hW, fun _ _ => rfl, rfl, fun _ _ _ => rfl⟩
        · rw [if_neg c3, if_neg c3, k_bds, if_neg (show ¬ (1 : Int32) = 0 by decide), k_bds]
          by_cases c4 : pu_sf (pu_ff w) 0 L < w 2 4
          · exact ⟨w, m, by rw [if_pos c4], by rw [if_pos c4]; rfl, hW, fun _ _ => rfl, rfl, fun _ _ _ => rfl⟩
          · obtain ⟨w', m', a1, a2, a3, a4, a5, -, a6⟩ := pu_opensR hW hR c5
            exact ⟨w', m', by rw [if_neg c4, a1]; rfl, by rw [if_neg c4, if_pos rfl, k_bds, if_neg (show ¬ (1 : Int32) = 0 by decide), a2]; rfl, a3, a4, a5, a6⟩
      · exact ⟨w, m, by rw [if_neg c5]; rfl, by rw [if_neg c5]; rfl, hW, fun _ _ => rfl, rfl, fun _ _ _ => rfl⟩
  · have hj2 : j < L := by omega
    rw [h, if_neg (by rw [kn_neg1 (by have := hW.1.1; omega)]; exact not_false), if_neg (by rw [kn_neg1 (by have := hW.1.1; omega)]; exact not_false)]
    obtain ⟨w', m', a1, a2, a3, a4, a5, a6⟩ := pu_opens hW hj2 hP.1
    exact ⟨w', m', by rw [a1]; rfl, by rw [a2]; rfl, a3, a4, a5, a6⟩

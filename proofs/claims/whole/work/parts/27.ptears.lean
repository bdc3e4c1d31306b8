/-! lines tear, chutes brake: one after the other -/
theorem pu_number {L i : Nat} {m : k_M} (hL : L ≤ 8) (h8 : m 1 8 = kn L) (hi : i ≤ L) : f_X11_numberOf m (kn (pu_p L i)) = some (kn i) := by
  unfold f_X11_numberOf
  have hp := pu_p_r (i := i) hL
  rw [h8]
  simp (disch := omega) only [kn_eql]
  by_cases c : i < L
  · rw [pu_p_l c, if_neg (by omega)]
  · rw [pu_p_n c, if_pos rfl, show i = L by omega]
theorem pu_C_tear {w w1 : k_M} {q p li G : Nat} {s s1 : Nat → Int32} (h : pu_C w q s p) (hl : w q 1 = kn li) (hli : li ≤ 12) (hG : G ≤ li) (hw : ∀ j, j ≠ 5 → j ≠ 7 → w1 q j = w q j) (h7 : w1 q 7 = kn G) (h5 : ¬ w1 q 5 = 0) (h51 : w1 q 5 = 1 → G < li) (h5s : pu_st5 (w1 q 5)) (hs : ∀ d, (d = 20 ∨ d = 29 ∨ d = 38 ∨ d = 47 ∨ d = 56 ∨ d = 83) → s1 (d + p) = s (d + p)) (hs65 : s1 (65 + p) = w1 q 5) (hs74 : s1 (74 + p) = kmask li G) : pu_C w1 q s1 p := by
  obtain ⟨ar, li', st, t, h1, h2, h3, h4, ⟨a0, a1, a2, a7⟩, h6, h7', h8, ⟨b0, b1, b2, b3, b4, b5, b6, b7⟩⟩ := h
  have e : li' = li := by
    have := a1.symm.trans hl
    rw [kn_inj (by omega) (by omega)] at this
    exact this
  subst e
  exact ⟨ar, li', st, G, ⟨h1.1, h1.2.1, h5s⟩, h2, h3, hG, ⟨by rw [hw 0 (by omega) (by omega)]; exact a0, by rw [hw 1 (by omega) (by omega)]; exact a1, by rw [hw 2 (by omega) (by omega)]; exact a2, h7⟩, fun h => absurd h h5, h51, by rw [hw 6 (by omega) (by omega)]; exact h8, ⟨by rw [hs 20 (by omega)]; exact b0, by rw [hs 29 (by omega)]; exact b1, by rw [hs 38 (by omega)]; exact b2, by rw [hs 47 (by omega), hw 3 (by omega) (by omega)]; exact b3, by rw [hs 56 (by omega), hw 4 (by omega) (by omega)]; exact b4, hs65, hs74, by rw [hs 83 (by omega), hw 6 (by omega) (by omega)]; exact b7⟩⟩
theorem pu_tears {L i : Nat} {w m : k_M} {P : Int64} (hW : pu_W L w (m 1)) (hi : i < pu_n L w) (ho : w (pu_q L i) 5 = 1) (hP : f_X11_pull m (kn (pu_p L i)) = some P) : ∃ r w' m', f_X0_linesThatTear w (pu_q L i) P (w 0 5) (w 0 4) = some r ∧ (if r ≤ 0 then some w else f_X9_tear w (pu_q L i) (kn i) r) = some w' ∧ f_X11_tears m (kn (pu_p L i)) = some m' ∧ pu_W L w' (m' 1) ∧ (∀ c, c ≠ 1 → m' c = m c) ∧ w' 0 = w 0 ∧ (∀ c, c ≠ pu_q L i → c ≠ 13 → c ≠ 14 → w' c = w c) ∧ w' (pu_q L i) 0 = w (pu_q L i) 0 := by
  have hW0 := hW
  obtain ⟨⟨hL, a10, b8⟩, ⟨hR, b9, hJ⟩, hCh, hlo, hF, hT, hWi, hS, hE⟩ := hW
  have hq := pu_q_r (i := i) hL
  have hp := pu_p_r (i := i) hL
  have hnr := pu_n_r (L := L) (w := w)
  obtain ⟨h0, v0, he, ma, ⟨-, -, hhe, -, -⟩, -, ⟨-, -, w4, -⟩, ⟨-, -, s4, -⟩, -, s5, s6, -⟩ := id hF
  have hC := hCh i hi
  obtain ⟨li, t, G, c1, c7, htl, hli, htG, hGl, s74, e1, e2⟩ := pu_left hp hC hhe s4 s5 hP ho
  have hb1 := pu_bits hC
  rw [c1, c7, kn_sub (Nat.le_of_lt htl)] at hb1
  have hb2 := kmask_bits li (by omega) G (by omega)
  obtain ⟨s20, -, s65⟩ := pu_C_rows hC
  refine ⟨kn (G - t), ?_⟩
  rw [w4, e1]
  have hx : kn (li - t) - kn (li - G) = kn (G - t) := by
    rw [kn_sub (by omega)]
    congr 1
    omega
  unfold f_X11_tears
  rw [e2, k_bds, kn_ladd, k_ckn (by omega) (by omega), kn_nat (by omega), hb1, k_bds, hb2, k_bds, k_lts, hx, k_ckn (by omega) (by omega), k_lts]
  by_cases c : G = t
  · subst c
    have hle : kn (G - G) ≤ 0 := by
      rw [kn_lel (by omega) (by omega)]
      omega
    rw [if_pos hle, if_pos hle]
    unfold f_X11_tears_49
    rw [if_neg (fun h => absurd ((kmask_zero li (by omega) G (by omega)).mp h) (by omega))]
    refine ⟨w, _, rfl, rfl, rfl, ?_, fun c hc => k_upc _ _ hc, rfl, fun _ _ _ _ => rfl, rfl⟩
    have hsame : ∀ j, (k_up m 1 (74 + pu_p L i) (kmask li G)) 1 j = m 1 j := by
      intro j
      by_cases hj : j = 74 + pu_p L i
      · subst hj
        rw [k_ups, s74]
      · rw [k_upi _ _ hj]
    have : (k_up m 1 (74 + pu_p L i) (kmask li G)) 1 = m 1 := funext hsame
    rw [this]
    exact hW0
  · have hgt : ¬ kn (G - t) ≤ 0 := by
      rw [kn_lel (by omega) (by omega)]
      omega
    rw [if_neg hgt, if_neg hgt, pu_number hL (by rw [k_upi _ _ (by omega)]; exact b8) (by omega), k_bds]
    unfold f_X9_tear
    rw [c7, kn_add, show t + (G - t) = G by omega, k_lts]
    have e0 : (k_up w (pu_q L i) 7 (kn G)) 0 = w 0 := k_upc _ _ (by omega)
    have hE1 : pu_E (k_up w (pu_q L i) 7 (kn G)) ((k_up m 1 (74 + pu_p L i) (kmask li G)) 1) := pu_E_congr hE (by rw [k_upc _ _ (by omega)]) (by rw [k_upc _ _ (by omega)]) (fun i _ => by rw [k_upc _ _ (by omega)]) (k_upi _ _ (by omega)) (fun j h1 h2 => k_upi _ _ (by omega))
    obtain ⟨w1, m1, r1, r2, r3, r4, r5, r6⟩ := pu_tells hE1 (by rw [k_upi _ _ (by omega), e0]; exact s6) 1 (kn i) (kn (G - t))
    rw [r1, r2, k_bds, k_bds]
    have hw1q : w1 (pu_q L i) = (k_up w (pu_q L i) 7 (kn G)) (pu_q L i) := r3 _ (by omega) (by omega)
    have hw17 : w1 (pu_q L i) 7 = kn G := by rw [hw1q, k_ups]
    have hw1j : ∀ j, j ≠ 7 → w1 (pu_q L i) j = w (pu_q L i) j := fun j hj => by rw [hw1q, k_upi _ _ hj]
    have hw10 : w1 0 = w 0 := by rw [r3 0 (by omega) (by omega), e0]
    have hk1 : ∀ c, c ≠ pu_q L i → c ≠ 13 → c ≠ 14 → w1 c = w c := fun c h1 h2 h3 => by rw [r3 c h2 h3, k_upc _ _ h1]
    have hs1 : ∀ j, j < 148 → j ≠ 16 → j ≠ 74 + pu_p L i → m1 1 j = m 1 j := fun j h1 h2 h3 => by rw [r5 j h1 h2, k_upi _ _ h3]
    have hs74 : m1 1 (74 + pu_p L i) = kmask li G := by rw [r5 _ (by omega) (by omega), k_ups]
    have hm1 : ∀ c, c ≠ 1 → m1 c = m c := fun c hc => by rw [r4 c hc, k_upc _ _ hc]
    unfold f_X0_linesThere f_X11_tears_49
    rw [hw1j 1 (by omega), c1, hw17, kn_sub hGl, k_bds]
    by_cases cz : G = li
    · subst cz
      rw [if_pos (by rw [kn_eql (by omega) (by omega)]; omega), if_pos ((kmask_zero G (by omega) G (by omega)).mpr rfl), k_lts, kn_ladd, k_ckn (by omega) (by omega), k_lts, kn_nat (by omega), pu_number hL (by rw [k_upi _ _ (by omega), hs1 8 (by omega) (by omega) (by omega)]; exact b8) (by omega), k_bds, kn_ladd, k_ckn (by omega) (by omega), kn_nat (by omega)]
      have e02 : (k_up w1 (pu_q L i) 5 2) 0 = w 0 := by rw [k_upc _ _ (by omega), hw10]
      have hE2 : pu_E (k_up w1 (pu_q L i) 5 2) ((k_up m1 1 (65 + pu_p L i) 2) 1) := pu_E_congr r6 (by rw [k_upc _ _ (by omega)]) (by rw [k_upc _ _ (by omega)]) (fun i _ => by rw [k_upc _ _ (by omega)]) (k_upi _ _ (by omega)) (fun j h1 h2 => k_upi _ _ (by omega))
      obtain ⟨w2, m2, u1, u2, u3, u4, u5, u6⟩ := pu_tells hE2 (by rw [k_upi _ _ (by omega), e02, hs1 6 (by omega) (by omega) (by omega)]; exact s6) 2 (kn i) (w (pu_q L i) 0)
      have ea : (k_up w1 (pu_q L i) 5 2) (pu_q L i) 0 = w (pu_q L i) 0 := by rw [k_upi _ _ (by omega), hw1j 0 (by omega)]
      have eb : (k_up m1 1 (65 + pu_p L i) 2) 1 (20 + pu_p L i) = w (pu_q L i) 0 := by
        rw [k_upi _ _ (by omega), hs1 _ (by omega) (by omega) (by omega), s20]
      rw [ea, eb, u1, u2]
      have hw2q : w2 (pu_q L i) = (k_up w1 (pu_q L i) 5 2) (pu_q L i) := u3 _ (by omega) (by omega)
      have hw25 : w2 (pu_q L i) 5 = 2 := by rw [hw2q, k_ups]
      have hw2j : ∀ j, j ≠ 5 → j ≠ 7 → w2 (pu_q L i) j = w (pu_q L i) j := fun j h5 h7 => by rw [hw2q, k_upi _ _ h5, hw1j j h7]
      have hw27 : w2 (pu_q L i) 7 = kn G := by rw [hw2q, k_upi _ _ (by omega), hw17]
      have hw20 : w2 0 = w 0 := by rw [u3 0 (by omega) (by omega), e02]
      have hk2 : ∀ c, c ≠ pu_q L i → c ≠ 13 → c ≠ 14 → w2 c = w c := fun c h1 h2 h3 => by rw [u3 c h2 h3, k_upc _ _ h1, hk1 c h1 h2 h3]
      have hs2 : ∀ j, j < 148 → j ≠ 16 → j ≠ 65 + pu_p L i → j ≠ 74 + pu_p L i → m2 1 j = m 1 j := fun j h1 h2 h3 h4 => by rw [u5 j h1 h2, k_upi _ _ h3, hs1 j h1 h2 h4]
      refine ⟨w2, m2, rfl, rfl, rfl, ?_, fun c hc => by rw [u4 c hc, k_upc _ _ hc, hm1 c hc], hw20, hk2, hw2j 0 (by omega) (by omega)⟩
      refine pu_W_chg hW0 hi hk2 (fun j h1 h2 h3 h4 h5 h6 => hs2 j h1 h3 h4 h5) ?_ u6 ?_
      · exact pu_C_tear hC c1 hli (Nat.le_refl _) hw2j hw27 (by rw [hw25]; decide) (fun h => absurd (hw25.symm.trans h) (by decide)) (by rw [hw25]; exact Or.inr (Or.inr (Or.inl rfl))) (fun d hd => hs2 _ (by omega) (by omega) (by omega) (by omega)) (by rw [u5 _ (by omega) (by omega), k_ups, hw25]) (by rw [u5 _ (by omega) (by omega), k_upi _ _ (by omega), hs74])
      · rw [pu_lost_keep hL hi (by rw [hw20]) (fun c h1 h2 => hk2 c h1 (by omega) (by omega)) (by rw [ho]; decide) (by rw [hw25]; decide), hs2 15 (by omega) (by omega) (by omega) (by omega)]
        exact hlo
    · rw [if_neg (by rw [kn_eql (by omega) (by omega)]; omega), if_neg (fun h => cz ((kmask_zero li (by omega) G (by omega)).mp h).symm)]
      have hw15 : w1 (pu_q L i) 5 = 1 := by rw [hw1j 5 (by omega), ho]
      refine ⟨w1, m1, rfl, rfl, rfl, ?_, hm1, hw10, hk1, hw1j 0 (by omega)⟩
      refine pu_W_chg hW0 hi hk1 (fun j h1 h2 h3 h4 h5 h6 => hs1 j h1 h3 h5) ?_ r6 ?_
      · exact pu_C_tear hC c1 hli hGl (fun j h5 h7 => hw1j j h7) hw17 (by rw [hw15]; decide) (fun _ => by omega) (by rw [hw15]; exact Or.inr (Or.inl rfl)) (fun d hd => hs1 _ (by omega) (by omega) (by omega)) (by rw [hs1 _ (by omega) (by omega) (by omega), s65, hw1j 5 (by omega)]) hs74
      · rw [pu_lost_keep hL hi (by rw [hw10]) (fun c h1 h2 => hk1 c h1 (by omega) (by omega)) (by rw [ho]; decide) (by rw [hw15]; decide), hs1 15 (by omega) (by omega) (by omega)]
        exact hlo

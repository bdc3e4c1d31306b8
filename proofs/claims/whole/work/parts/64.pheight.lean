/-! heights and values: targets, winds -/
theorem pu_bT {r m : k_M} {len : Nat} (h : pu_Bd r m len) (c : Int32) : f_X4_failTaken r c = some r := by
  unfold f_X4_failTaken
  rw [pu_bF h, k_bds]
theorem pu_standN {r m : k_M} {len nx : Nat} (h : pu_Rd r m len nx) (a b : Int32) : (∃ v, v ≤ 9999999 ∧ r 0 5 = 2 ∧ a ≤ kn v ∧ kn v ≤ b ∧ f_X11_stands m a b = some (k_up m 0 17 (kn v), 1) ∧ ∀ r', f_X4_advance r = some r' → f_X4_takeNumber r a b = some (r', kn v)) ∨ (∃ r' m', f_X4_takeNumber r a b = some (r', 0) ∧ f_X11_stands m a b = some (m', 0) ∧ pu_Bd r' m' len ∧ pu_mf m m') := by
  unfold f_X4_takeNumber f_X4_takeNumber_36 f_X4_takeNumber_45
  rcases pu_stand h a b with ⟨v, v1, v2, v3, v4, v5, v6⟩ | ⟨r', m', c, hc, e1, e2, e3, e4⟩
  · have hf : f_X4_hasFailed r = some 0 := if_pos h.2.2.2.1
    refine Or.inl ⟨v, v1, v2, v4, v5, v6, fun r' e => ?_⟩
    rw [if_pos v2, v3, if_neg (by grind), if_pos v5, hf, k_bds, if_pos rfl, k_lts, e, k_bds]
  · refine Or.inr ⟨r', m', ?_, e2, e3, e4⟩
    rcases hc with ⟨rfl, hk⟩ | ⟨rfl, hk, hr⟩
    · rw [if_neg hk, e1, k_bds, pu_bH e3, k_bds, if_neg (show ¬ (1 : Int32) = 0 by decide)]
    · rw [if_pos hk, e1, k_bds, pu_bH e3, k_bds, if_neg (show ¬ (1 : Int32) = 0 by decide)]
      by_cases c1 : r 0 8 < a
      · rw [if_pos c1]
      · rw [if_neg c1, if_neg (fun h9 => hr ⟨by grind, h9⟩)]
theorem pu_hgt40 {m : k_M} {N b c : Nat} {lo : Int32} (hN : N < 8) (hb : b ≤ 108) (hc : c < 268) (hw : m 2 c = kn N) : ∀ (k i n : Nat), i + k = N → k < n → f_X11_takesHeight_40 n m lo (kn b) (kn c) (kn i) = (if pu_ix (fun j => m 2 (b + 2 * j)) (m 0 17) i k = N then k_bd (f_X11_advance (k_up m 2 (b + 2 * N) (m 0 17))) (fun r => some (r, 1)) else k_bd (f_X11_fails m 3) fun r71 => k_ck (r71.2 = 0 ∨ r71.2 = 1) (some (r71.1, r71.2))) := by
  intro k
  induction k with
  | zero =>
    intro i n hi hn
    obtain ⟨n, rfl⟩ : ∃ n9, n = n9 + 1 := ⟨n - 1, by omega⟩
    show f_X11_takesHeight_40_b _ m lo (kn b) (kn c) (kn i) = _
    unfold f_X11_takesHeight_40_b
    rw [k_ckn hc (by decide), kn_nat (by omega), hw, if_pos (by rw [kn_le (by omega) (by omega)]; omega), k_ckn hc (by decide), kn_lmul, kn_add, k_ckn (by omega) (by decide), kn_nat (by omega), k_lts, if_pos (show pu_ix (fun j => m 2 (b + 2 * j)) (m 0 17) i 0 = N by unfold pu_ix; omega)]
  | succ k ih =>
    intro i n hi hn
    obtain ⟨n, rfl⟩ : ∃ n9, n = n9 + 1 := ⟨n - 1, by omega⟩
    show f_X11_takesHeight_40_b _ m lo (kn b) (kn c) (kn i) = _
    unfold f_X11_takesHeight_40_b
    rw [k_ckn hc (by decide), kn_nat (by omega), hw, if_neg (by rw [kn_le (by omega) (by omega)]; omega), kn_lmul, kn_add, k_ckn (by omega) (by decide), kn_nat (by omega)]
    rw [show b + (OfNat.ofNat 2 : Nat) * i = b + 2 * i from rfl]
    by_cases h : m 2 (b + 2 * i) = m 0 17
    · have e : pu_ix (fun j => m 2 (b + 2 * j)) (m 0 17) i (k + 1) = i := if_pos h
      rw [if_pos h, e, if_neg (by omega)]
    · have e : pu_ix (fun j => m 2 (b + 2 * j)) (m 0 17) i (k + 1) = pu_ix (fun j => m 2 (b + 2 * j)) (m 0 17) (i + 1) k := if_neg h
      rw [if_neg h, e, k_lts, kn_addl]
      exact ih (i + 1) n (by omega) (by omega)
theorem pu_height {u : k_U} {r m m1 : k_M} {len nx nx1 tc cnt base N : Nat} {lo : Int32} (h : pu_Rd r m len nx) (h1 : pu_Rd (u 1) m1 len nx1) (ea : f_X11_advance m = some m1) (hmf : pu_mf m m1) (h9 : u 1 0 9 = r 0 6) (hnx : nx < nx1) (hN : N ≤ 8) (hw : u 14 tc 2 = kn N) (hs : m 2 cnt = kn N) (hrow : ∀ k, k < N → m 2 (base + 2 * k) = u 14 (tc + 1) k) (hb : base ≤ 108) (hc : cnt < 20) : (∃ r' M nx2 v, f_X6_takeNewHeight u tc lo = some (k_uc u 1 r', kn v) ∧ f_X11_takesHeight m (kn base) (kn cnt) lo = some (M, 1) ∧ N < 8 ∧ pu_ix (u 14 (tc + 1)) (kn v) 0 N = N ∧ pu_Rd r' M len nx2 ∧ nx < nx2 ∧ pu_mg m M ∧ M 2 (base + 2 * N) = kn v ∧ (∀ j, j ≠ base + 2 * N → M 2 j = m 2 j)) ∨ (∃ r' M x, f_X6_takeNewHeight u tc lo = some (k_uc u 1 r', x) ∧ f_X11_takesHeight m (kn base) (kn cnt) lo = some (M, 0) ∧ pu_Bd r' M len ∧ pu_mg m M) := by
  generalize hX : f_X6_takeNewHeight u tc lo = X
  unfold f_X6_takeNewHeight f_X6_takeNewHeight_14 at hX
  generalize hY : f_X11_takesHeight m (kn base) (kn cnt) lo = Y
  unfold f_X11_takesHeight f_X11_takesHeight_18 f_X11_goesOn at hY
  rw [k_ckn (show cnt < 268 by omega) (by decide), kn_nat (by omega), hs] at hY
  rw [hw] at hX
  have no : ¬ (1 : Int32) = 0 := by decide
  have bp : ∀ (r' M : k_M) (x : Int32), pu_Bd r' M len → (k_bd (f_X2_placeOf (k_uc u 1 r' 14) tc x) fun r27 => (if r27 = (-1) then some (k_uc u 1 r', x) else k_bd (f_X4_failTaken (k_uc u 1 r' 1) 3) fun r36 => k_lt (k_uc (k_uc u 1 r') 1 r36) fun u36 => some (u36, x))) = some (k_uc u 1 r', x) := by
    intro r' M x hB
    rw [pu_uc _ _ (show 14 ≠ 1 by decide), pu_plc hN hw, k_bds, k_uc_s, pu_bT hB, k_bds, k_lts, pu_ucc, ite_self]
  by_cases c8 : N < 8
  · rw [if_pos (by rw [kn_ltl (by omega) (by omega)]; exact c8)] at hX
    rw [if_neg (by rw [kn_lle (by omega) (by omega)]; omega), if_neg (by decide), ea, k_bds, k_bds, if_neg no] at hY
    dsimp only at hY
    rcases pu_standN h1 lo 30000 with ⟨v, v1, v2, v3, v4, v5, v6⟩ | ⟨r', M, e1, e2, e3, e4⟩
    · have hRv := pu_Rd17 (kn v) h1
      have hm2 : k_up m1 0 17 (kn v) 2 = m 2 := by rw [k_upc _ _ (by decide), hmf.1 2 (by decide)]
      have hm17 : k_up m1 0 17 (kn v) 0 17 = kn v := k_ups _ _ _ _
      rw [v5, k_bds, if_neg no] at hY
      dsimp only at hY
      have e40 := pu_hgt40 (m := k_up m1 0 17 (kn v)) (N := N) (b := base) (c := cnt) (lo := lo) c8 hb (by omega) (by rw [hm2]; exact hs) N 0 k_N (by omega) (by unfold k_N; omega)
      have hY2 := e40.symm.trans hY
      rw [hm17, hm2] at hY2
      have hix : pu_ix (fun j => m 2 (base + 2 * j)) (kn v) 0 N = pu_ix (u 14 (tc + 1)) (kn v) 0 N := pu_ix_congr _ _ (fun j _ hj => hrow j (by omega))
      rw [hix] at hY2
      have hr := pu_ix_r (f := u 14 (tc + 1)) (x := kn v) N 0
      obtain ⟨r1, m2, nx2, q1, q2, q3, q4, q5, q6, q7, q8⟩ := pu_nextTok (pu_Rd2 (m' := k_up (k_up m1 0 17 (kn v)) 2 (base + 2 * N) (kn v)) hRv (k_upc _ _ (by decide)) (k_upc _ _ (by decide)))
      rw [v6 r1 q1, k_bds, k_lts, pu_uc _ _ (show 14 ≠ 1 by decide), pu_plc hN hw (kn v), k_bds] at hX
      by_cases hx : pu_ix (u 14 (tc + 1)) (kn v) 0 N = N
      · rw [if_pos hx, q2, k_bds] at hY2
        rw [if_pos hx, if_pos rfl] at hX
        refine Or.inl ⟨r1, m2, nx2, v, hX.symm, hY2.symm, c8, hx, q3, by omega, ?_, ?_, fun j hj => ?_⟩
        · exact pu_mg_tr (pu_mg_mf (pu_mf_tr hmf (pu_mf17 _ _))) (pu_mg_tr (pu_mg_up _ _ _) (pu_mg_mf q7))
        · rw [q7.1 2 (by decide), k_ups]
        · rw [q7.1 2 (by decide), k_upi _ _ hj, hm2]
      · obtain ⟨r', m', e1, e2, e3, e4⟩ := pu_failT hRv q3 q6 (c := 3) (by decide)
        rw [if_neg hx, e2, k_bds, k_ckp (Or.inl rfl)] at hY2
        rw [if_neg hx, if_neg (by rw [kn_neg1 (by omega)]; exact fun h => h), k_uc_s, e1, k_bds, k_lts, pu_ucc] at hX
        exact Or.inr ⟨r', m', kn v, hX.symm, hY2.symm, e3, pu_mg_mf (pu_mf_tr hmf (pu_mf_tr (pu_mf17 _ _) e4))⟩
    · rw [e1, k_bds, k_lts] at hX
      have hX2 := (bp r' M 0 e3).symm.trans hX
      rw [e2, k_bds, if_pos rfl] at hY
      exact Or.inr ⟨r', M, 0, hX2.symm, hY.symm, e3, pu_mg_mf (pu_mf_tr hmf e4)⟩
  · obtain ⟨r', M, e1, e2, e3, e4⟩ := pu_failT h h1 h9 (c := 4) (by decide)
    rw [if_neg (by rw [kn_ltl (by omega) (by omega)]; exact c8), e1, k_bds, k_lts, k_uc_s, pu_bN e3, k_bds, k_lts, pu_ucc] at hX
    have hX2 := (bp r' M 0 e3).symm.trans hX
    rw [if_pos (by rw [kn_lle (by omega) (by omega)]; omega), if_pos rfl, e2, k_bds, k_ckp (Or.inl rfl), k_bds, if_pos rfl] at hY
    exact Or.inr ⟨r', M, 0, hX2.symm, hY.symm, e3, pu_mg_mf e4⟩
theorem pu_putA {w : k_M} {tc N : Nat} (hN : N ≤ 8) (hw : w tc 2 = kn N) (x y : Int32) : ∃ w', f_X2_put w tc x y = some w' ∧ (∀ c, c ≠ tc → c ≠ tc + 1 → c ≠ tc + 2 → w' c = w c) := by
  by_cases h8 : pu_ix (w (tc + 1)) x 0 N = 8
  · have hr := pu_ix_r (f := w (tc + 1)) (x := x) N 0
    have hN8 : N = 8 := by omega
    refine ⟨w, ?_, fun _ _ _ _ => rfl⟩
    unfold f_X2_put f_X2_put_35
    subst hN8
    rw [pu_plc (N := 8) (by omega) hw, k_bds, if_pos h8, if_pos rfl, hw, if_pos (show (8 : Int32) ≤ kn 8 by decide), if_pos rfl]
  · obtain ⟨w', e1, e2, e3, e4, e5, e6⟩ := pu_put hN hw x y h8
    exact ⟨w', e1, e3⟩
/-- the tables of the draft alone change -/
theorem pu_tabD {L : Nat} {w w1 : k_M} {s s1 : Nat → Int32} (hD : pu_Dr L w s) (hw : ∀ c, (c < 3 ∨ 13 ≤ c) → w1 c = w c) (hs : ∀ j, j ≠ 10 → j ≠ 11 → j ≠ 12 → (j < 92 ∨ 148 ≤ j) → s1 j = s j) (hT : pu_T w1 s1 3 10 92) (hWi : pu_T w1 s1 6 11 108) (hS : pu_S w1 s1) : pu_Dr L w1 s1 := by
  obtain ⟨⟨⟨hL, a10, b8⟩, ⟨hR, b9, hJ⟩, hCh, hlo, hF, -, -, -, hE⟩, h0, hz, h91⟩ := hD
  have h0c : w1 0 = w 0 := hw 0 (by decide)
  have hn : pu_n L w1 = pu_n L w := pu_n_congr (by rw [h0c])
  have hq := fun i => pu_q_r (i := i) hL
  have hwq : ∀ i, w1 (pu_q L i) = w (pu_q L i) := fun i => hw _ (by have := hq i; omega)
  refine ⟨⟨⟨hL, by rw [h0c]; exact a10, by rw [hs 8 (by omega) (by omega) (by omega) (by omega)]; exact b8⟩, ⟨by rw [h0c]; exact hR, by rw [hs 9 (by omega) (by omega) (by omega) (by omega), h0c]; exact b9, by rw [hw 2 (by decide)]; exact hJ⟩, fun i hi => ?_, ?_, ?_, hT, hWi, hS, ?_⟩, fun i hi => ?_, fun p hp => by rw [hs _ (by omega) (by omega) (by omega) (by omega)]; exact hz p hp, by rw [hs 91 (by omega) (by omega) (by omega) (by omega)]; exact h91⟩
  · have hp := pu_p_r (i := i) hL
    rw [hn] at hi
    exact pu_C_congr (hCh i hi) (hwq i) (fun d hd => hs _ (by omega) (by omega) (by omega) (by omega))
  · rw [hs 15 (by omega) (by omega) (by omega) (by omega), hlo]
    unfold pu_lost
    rw [hn]
    refine pu_sf_congr _ _ fun j _ _ => ?_
    rw [hwq j]
  · exact pu_F_congr hF (fun i _ => by rw [h0c]) (fun j hj => hs j (by omega) (by omega) (by omega) (by omega))
  · exact pu_E_congr hE (by rw [hw 13 (by omega)]) (by rw [hw 13 (by omega)]) (fun i _ => by rw [hw 14 (by omega)]) (hs 16 (by omega) (by omega) (by omega) (by omega)) (fun j h1 h2 => hs j (by omega) (by omega) (by omega) (by omega))
  · rw [hn] at hi
    rw [hwq i]
    exact h0 i hi

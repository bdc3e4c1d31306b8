theorem pu_sReserve {u : k_U} {r m m1 : k_M} {len nx nx1 L : Nat} (h : pu_Rd r m len nx) (h1 : pu_Rd (u 1) m1 len nx1) (ea : f_X11_advance m = some m1) (hmf : pu_mf m m1) (h9 : u 1 0 9 = r 0 6) (hnx : nx < nx1) (hD : pu_Dr L (u 14) (m 2)) : pu_Re u m len nx (f_X6_readReserve u) (f_X11_readReserve m) := by
  have hL : L ≤ 8 := hD.1.1.1
  have hR := hD.1.2.1.1
  have s9 : m 2 9 = u 14 0 11 := hD.1.2.1.2.1
  have hfl := hD.1.2.1.2.2
  generalize hX : f_X6_readReserve u = X
  unfold f_X6_readReserve at hX
  generalize hY : f_X11_readReserve m = Y
  unfold f_X11_readReserve f_X11_readReserve_17 f_X11_goesOn at hY
  rw [s9] at hY
  by_cases c0 : u 14 0 11 = 0
  · rw [if_pos c0] at hX
    rw [if_pos c0, if_neg (by decide), ea, k_bds, k_bds, if_neg (show ¬ (1 : Int32) = 0 by decide)] at hY
    dsimp only at hY
    rw [show (8 : Int32) = kn 8 from rfl, show (64 : Int32) = kn (56 + 8) from rfl] at hY
    rw [show (8 : Int32) = kn 8 from rfl] at hX
    rcases pu_rchute (q := 2) (p := 8) (t3 := 9) (tm := 20) (tp := kn 8) h1 (by decide) rfl (by decide) (fun x => k_lt (k_up x 2 9 1) fun w63 => some (w63, 1)) with ⟨r', M, nx2, ar, li, st, he, ve, e1, e2, b1, b2, b3, b4, b5, ⟨q1, q2, q3, q4, q5, q6, q7⟩, hRd, hn2, hmg⟩ | ⟨r', M, v1, v2, v3, v4, v5, e1, e2, hBd, hmg⟩
    · rw [e1, pu_packE, k_bds, k_bds, k_lts, k_uc_s] at hX
      have hY2 := hY.symm.trans e2
      try dsimp only at hY2
      rw [k_lts] at hY2
      have pk := pu_pk_s (u 14) 2 (kn ar) (kn li) (kn st) (kn he) (kn ve)
      refine Or.inl ⟨_, _, nx2, L, hX.symm, hY2, ?_, by omega, ?_, fun k a b => by rw [pu_uc _ _ b, pu_uc _ _ b, pu_uc _ _ a], pu_mg_tr (pu_mg_mf hmf) (pu_mg_tr hmg (pu_mg_up _ _ _))⟩
      · rw [pu_uc _ _ (show 1 ≠ 14 by decide), pu_uc _ _ (show 1 ≠ 14 by decide), k_uc_s]
        exact pu_Rd2 hRd (k_upc _ _ (by decide)) (k_upc _ _ (by decide))
      · rw [k_uc_s]
        have rowM : ∀ j, j ≠ 9 → k_up M 2 9 1 2 j = M 2 j := fun j hj => k_upi _ _ hj
        have keep : ∀ j, j ≠ 28 → j ≠ 37 → j ≠ 46 → j ≠ 55 → j ≠ 64 → j ≠ 82 → M 2 j = m 2 j := fun j a b c d e f => by rw [q7 j a b c d e f, hmf.1 2 (by decide)]
        refine pu_addR hD c0 (pu_packC (x3 := kn he) (x4 := kn ve) (j := 0) b1 b2 b3 (Or.inl rfl) ?_ ?_ ?_ ?_ ?_ ?_ ?_ ?_ ?_ ?_ ?_ ?_ ?_ ?_ ?_ ?_) ?_ (fun c h0 hq => ?_) (fun i hi => ?_) (k_ups _ _ _ _) (k_ups _ _ _ _) (fun j hj g9 g28 g37 g46 g55 g64 g82 => ?_)
        · rw [k_upc _ _ (by decide), pk.1]
        · rw [k_upc _ _ (by decide), pk.2.1]
        · rw [k_upc _ _ (by decide), pk.2.2.1]
        · rw [k_upc _ _ (by decide), pk.2.2.2.1]
        · rw [k_upc _ _ (by decide), pk.2.2.2.2.1]
        · rw [k_upc _ _ (by decide), pk.2.2.2.2.2.1]
        · rw [k_upc _ _ (by decide), pk.2.2.2.2.2.2.1]
        · rw [k_upc _ _ (by decide), pk.2.2.2.2.2.2.2]
        · rw [rowM _ (by decide), q1]
        · rw [rowM _ (by decide), q2]
        · rw [rowM _ (by decide), q3]
        · rw [rowM _ (by decide), q4]
        · rw [rowM _ (by decide), q5]
        · rw [rowM _ (by decide), keep _ (by decide) (by decide) (by decide) (by decide) (by decide) (by decide)]
          exact hD.2.2.1 8 (by decide)
        · rw [rowM _ (by decide), q6]
        · rw [rowM _ (by decide), keep _ (by decide) (by decide) (by decide) (by decide) (by decide) (by decide)]
          exact hD.2.2.2
        · rw [k_upc _ _ (by decide), pk.2.2.2.2.2.1]
        · rw [k_upc _ _ h0, pu_pk_c _ _ _ _ _ _ hq]
        · rw [k_upi _ _ hi, pu_pk_c _ _ _ _ _ _ (show 0 ≠ 2 by decide)]
        · rw [rowM _ g9, keep j g28 g37 g46 g55 g64 g82]
    · rw [e1, pu_packE, k_bds, k_bds, k_lts, k_uc_s] at hX
      refine Or.inr ⟨_, M, hX.symm, hY.symm.trans e2, ?_, ?_, ?_, pu_mg_tr (pu_mg_mf hmf) hmg⟩
      · rw [pu_uc _ _ (show 1 ≠ 14 by decide), pu_uc _ _ (show 1 ≠ 14 by decide), k_uc_s]
        exact hBd
      · rw [k_uc_s, k_upc _ _ (show 2 ≠ 0 by decide), (pu_pk_s (u 14) 2 v1 v2 v3 v4 v5).2.2.2.2.2.2.1]
        exact Or.inl rfl
      · intro k a b
        rw [pu_uc _ _ b, pu_uc _ _ b, pu_uc _ _ a]
  · obtain ⟨r', m', e1, e2, e3, e4⟩ := pu_failT h h1 h9 (c := 3) (by decide)
    rw [if_neg c0, e1, k_bds, k_lts] at hX
    rw [if_neg c0, if_pos rfl, e2, k_bds, k_ckp (Or.inl rfl), k_bds, if_pos rfl] at hY
    exact Or.inr ⟨_, m', hX.symm, hY.symm, by rw [k_uc_s]; exact e3, by rw [pu_uc _ _ (by decide)]; exact hfl, fun k a b => pu_uc _ _ a, pu_mg_mf e4⟩

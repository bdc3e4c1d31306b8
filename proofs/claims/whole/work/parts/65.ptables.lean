/-! the statements of a target and of a wind -/
theorem pu_rowT {N a b : Nat} {w w1 : k_M} {s s1 : Nat → Int32} {x y : Int32} (hN : N < 8) (hT : ∀ k : Nat, k < N → s (a + 2 * k) = w b k ∧ s (a + 2 * k + 1) = w (b + 1) k) (h1 : ∀ i, w1 b i = if i = N then x else w b i) (h2 : ∀ i, w1 (b + 1) i = if i = N then y else w (b + 1) i) (hx : s1 (a + 2 * N) = x) (hy : s1 (a + 2 * N + 1) = y) (hs : ∀ j, a ≤ j → j < a + 2 * N → s1 j = s j) : ∀ k : Nat, k < N + 1 → s1 (a + 2 * k) = w1 b k ∧ s1 (a + 2 * k + 1) = w1 (b + 1) k := by
  intro k hk
  rw [h1, h2]
  by_cases c : k = N
  · subst c
    rw [if_pos rfl, if_pos rfl]
    exact ⟨hx, hy⟩
  · rw [if_neg c, if_neg c, hs _ (by omega) (by omega), hs _ (by omega) (by omega)]
    exact hT k (by omega)
theorem pu_in0 {i : Nat} (h : i < 268) : 0 ≤ kn i ∧ kn i < 268 := by
  rw [show (0 : Int32) = kn 0 from rfl, show (268 : Int32) = kn 268 from rfl, kn_le (by omega) (by omega), kn_lt (by omega) (by omega)]
  omega
theorem pu_sTarget {u : k_U} {r m m1 : k_M} {len nx nx1 L : Nat} (h : pu_Rd r m len nx) (h1 : pu_Rd (u 1) m1 len nx1) (ea : f_X11_advance m = some m1) (hmf : pu_mf m m1) (h9 : u 1 0 9 = r 0 6) (hnx : nx < nx1) (hD : pu_Dr L (u 14) (m 2)) : pu_Re u m len nx (f_X6_readHeightAndSpeed u) (f_X11_readTarget m) := by
  have hT := hD.1.2.2.2.2.2.1
  have hWi := hD.1.2.2.2.2.2.2.1
  have hS := hD.1.2.2.2.2.2.2.2.1
  have hfl := hD.1.2.1.2.2
  obtain ⟨N, n8, tn, sn, rows⟩ := hT
  have no : ¬ (1 : Int32) = 0 := by decide
  generalize hX : f_X6_readHeightAndSpeed u = X
  unfold f_X6_readHeightAndSpeed at hX
  generalize hY : f_X11_readTarget m = Y
  unfold f_X11_readTarget at hY
  rcases pu_height (tc := 3) (cnt := 10) (base := 92) (lo := 1) h h1 ea hmf h9 hnx n8 tn sn (fun k hk => (rows k hk).1) (by omega) (by omega) with ⟨r1, M, nx2, v, e1, e2, e3, e4, e5, e6, e7, e8, e9⟩ | ⟨r1, M, x, e1, e2, e3, e4⟩
  · have e2' : f_X11_takesHeight m 92 10 1 = some (M, 1) := e2
    rw [e1, k_bds] at hX
    dsimp only at hX
    rw [k_uc_s] at hX
    rw [e2', k_bds, if_neg no] at hY
    dsimp only at hY
    have M10 : M 2 10 = kn N := by rw [e9 10 (by omega), sn]
    have en : (92 : Int32) + 2 * kn N + 1 = kn (92 + 2 * N + 1) := by
      rw [show (2 : Int32) * kn N = kn (2 * N) from kn_lmul N 2, show (92 : Int32) + kn (2 * N) = kn (92 + 2 * N) from kn_ladd _ 92]
      exact kn_addl _ 1
    rw [M10, en] at hY
    rcases pu_into e5 (i := 92 + 2 * N + 1) (by omega) 1 400 with ⟨r2, m2, nx3, y, a1, a2, a3, a4, a5, a6, a7, a8, a9⟩ | ⟨r2, m2, a1, a2, a3, a4⟩
    · obtain ⟨w1, p1, p2, p3, p4, p5, p6⟩ := pu_put (tc := 3) n8 tn (kn v) (kn y) (by rw [e4]; omega)
      rw [a1, k_bds, k_lts, pu_ucc, pu_uc _ _ (show 14 ≠ 1 by decide)] at hX
      dsimp only at hX
      rw [p1, k_bds, k_lts] at hX
      rw [a2, k_bds, if_neg no] at hY
      dsimp only at hY
      have m10 : k_up m2 2 (92 + 2 * N + 1) (kn y) 2 10 = kn N := by rw [k_upi _ _ (show 10 ≠ 92 + 2 * N + 1 by omega), a8.1 2 (by decide), M10]
      rw [k_lts, m10, show kn N + 1 = kn (N + 1) from kn_addl N 1] at hY
      rw [e4] at p2 p4 p5
      rw [if_pos rfl] at p2
      have row : ∀ j, j ≠ 10 → j ≠ 92 + 2 * N + 1 → j ≠ 92 + 2 * N → k_up (k_up m2 2 (92 + 2 * N + 1) (kn y)) 2 10 (kn (N + 1)) 2 j = m 2 j := fun j g1 g2 g3 => by rw [k_upi _ _ g1, k_upi _ _ g2, a8.1 2 (by decide), e9 j g3]
      refine Or.inl ⟨_, _, nx3, L, hX.symm, hY.symm, ?_, by omega, ?_, fun k a b => by rw [pu_uc _ _ b, pu_uc _ _ a], ?_⟩
      · rw [pu_uc _ _ (show 1 ≠ 14 by decide), k_uc_s]
        exact pu_Rd2 a6 (k_upc _ _ (by decide)) (k_upc _ _ (by decide))
      · rw [k_uc_s]
        refine pu_tabD hD (fun c hc => p3 c (by omega) (by omega) (by omega)) (fun j g1 g2 g3 g4 => row j g1 (by omega) (by omega)) ⟨N + 1, by omega, p2, k_ups _ _ _ _, ?_⟩ ?_ ?_
        · refine pu_rowT (w := u 14) (s := m 2) e3 rows p4 p5 ?_ ?_ (fun j g1 g2 => row j (by omega) (by omega) (by omega))
          · rw [k_upi _ _ (by omega), k_upi _ _ (by omega), a8.1 2 (by decide), e8]
          · rw [k_upi _ _ (by omega), k_ups]
        · exact pu_T_congr hWi (by rw [p3 6 (by decide) (by decide) (by decide)]) (fun i _ => by rw [p3 7 (by decide) (by decide) (by decide)]) (fun i _ => by rw [p3 8 (by decide) (by decide) (by decide)]) (row 11 (by omega) (by omega) (by omega)) (fun j g1 g2 => row j (by omega) (by omega) (by omega))
        · exact pu_S_congr hS (by rw [p3 9 (by decide) (by decide) (by decide)]) (fun i _ => by rw [p3 10 (by decide) (by decide) (by decide)]) (fun i _ => by rw [p3 11 (by decide) (by decide) (by decide)]) (fun i _ => by rw [p3 12 (by decide) (by decide) (by decide)]) (row 12 (by omega) (by omega) (by omega)) (fun j g1 g2 => row j (by omega) (by omega) (by omega))
      · exact pu_mg_tr e7 (pu_mg_tr (pu_mg_mf a8) (pu_mg_tr (pu_mg_up _ _ _) (pu_mg_up _ _ _)))
    · obtain ⟨w1, p1, p3⟩ := pu_putA (tc := 3) n8 tn (kn v) 0
      rw [a1, k_bds, k_lts, pu_ucc, pu_uc _ _ (show 14 ≠ 1 by decide)] at hX
      dsimp only at hX
      rw [p1, k_bds, k_lts] at hX
      rw [a2, k_bds, if_pos rfl] at hY
      refine Or.inr ⟨_, _, hX.symm, hY.symm, ?_, ?_, fun k a b => by rw [pu_uc _ _ b, pu_uc _ _ a], pu_mg_tr e7 (pu_mg_mf a4)⟩
      · rw [pu_uc _ _ (show 1 ≠ 14 by decide), k_uc_s]
        exact a3
      · rw [k_uc_s, p3 2 (by decide) (by decide) (by decide)]
        exact hfl
  · have e2' : f_X11_takesHeight m 92 10 1 = some (M, 0) := e2
    obtain ⟨w1, p1, p3⟩ := pu_putA (tc := 3) n8 tn x 0
    rw [e1, k_bds] at hX
    dsimp only at hX
    rw [k_uc_s, pu_bN e3, k_bds, k_lts, pu_ucc, pu_uc _ _ (show 14 ≠ 1 by decide)] at hX
    dsimp only at hX
    rw [p1, k_bds, k_lts] at hX
    rw [e2', k_bds, if_pos rfl] at hY
    refine Or.inr ⟨_, _, hX.symm, hY.symm, ?_, ?_, fun k a b => by rw [pu_uc _ _ b, pu_uc _ _ a], e4⟩
    · rw [pu_uc _ _ (show 1 ≠ 14 by decide), k_uc_s]
      exact e3
    · rw [k_uc_s, p3 2 (by decide) (by decide) (by decide)]
      exact hfl
theorem pu_sWind {u : k_U} {r m m1 : k_M} {len nx nx1 L : Nat} (h : pu_Rd r m len nx) (h1 : pu_Rd (u 1) m1 len nx1) (ea : f_X11_advance m = some m1) (hmf : pu_mf m m1) (h9 : u 1 0 9 = r 0 6) (hnx : nx < nx1) (hD : pu_Dr L (u 14) (m 2)) : pu_Re u m len nx (f_X6_readWind u) (f_X11_readWind m) := by
  have hT := hD.1.2.2.2.2.2.1
  have hWi := hD.1.2.2.2.2.2.2.1
  have hS := hD.1.2.2.2.2.2.2.2.1
  have hfl := hD.1.2.1.2.2
  obtain ⟨N, n8, tn, sn, rows⟩ := hWi
  have no : ¬ (1 : Int32) = 0 := by decide
  generalize hX : f_X6_readWind u = X
  unfold f_X6_readWind at hX
  generalize hY : f_X11_readWind m = Y
  unfold f_X11_readWind at hY
  rcases pu_height (tc := 6) (cnt := 11) (base := 108) (lo := 0) h h1 ea hmf h9 hnx n8 tn sn (fun k hk => (rows k hk).1) (by omega) (by omega) with ⟨r1, M, nx2, v, e1, e2, e3, e4, e5, e6, e7, e8, e9⟩ | ⟨r1, M, x, e1, e2, e3, e4⟩
  · have e2' : f_X11_takesHeight m 108 11 0 = some (M, 1) := e2
    rw [e1, k_bds] at hX
    dsimp only at hX
    rw [k_uc_s] at hX
    rw [e2', k_bds, if_neg no] at hY
    dsimp only at hY
    have M10 : M 2 11 = kn N := by rw [e9 11 (by omega), sn]
    have en : (108 : Int32) + 2 * kn N + 1 = kn (108 + 2 * N + 1) := by
      rw [show (2 : Int32) * kn N = kn (2 * N) from kn_lmul N 2, show (108 : Int32) + kn (2 * N) = kn (108 + 2 * N) from kn_ladd _ 108]
      exact kn_addl _ 1
    rcases pu_takeG e5 40 with ⟨r2, m2, nx3, z, y, a1, a2, a3, a4, a5, a9, a6, a7, a8⟩ | ⟨r2, m2, a1, a2, a3, a4⟩
    · obtain ⟨w1, p1, p2, p3, p4, p5, p6⟩ := pu_put (tc := 6) n8 tn (kn v) y (by rw [e4]; omega)
      rw [a1, k_bds, k_lts, pu_ucc, pu_uc _ _ (show 14 ≠ 1 by decide)] at hX
      dsimp only at hX
      rw [p1, k_bds, k_lts] at hX
      have m10 : m2 2 11 = kn N := by rw [a8.1 2 (by decide), M10]
      rw [a2, k_bds, if_neg no] at hY
      dsimp only at hY
      rw [k_ckp (show (0 : Int32) ≤ 108 + 2 * m2 2 11 + 1 ∧ 108 + 2 * m2 2 11 + 1 < 268 by rw [m10, en]; exact pu_in0 (by omega)), m10, en, kn_nat (by omega), a9, k_lts] at hY
      have m11 : k_up m2 2 (108 + 2 * N + 1) y 2 11 = kn N := by rw [k_upi _ _ (show 11 ≠ 108 + 2 * N + 1 by omega), m10]
      rw [m11, k_lts, show kn N + 1 = kn (N + 1) from kn_addl N 1] at hY
      rw [e4] at p2 p4 p5
      rw [if_pos rfl] at p2
      have row : ∀ j, j ≠ 11 → j ≠ 108 + 2 * N + 1 → j ≠ 108 + 2 * N → k_up (k_up m2 2 (108 + 2 * N + 1) y) 2 11 (kn (N + 1)) 2 j = m 2 j := fun j g1 g2 g3 => by rw [k_upi _ _ g1, k_upi _ _ g2, a8.1 2 (by decide), e9 j g3]
      refine Or.inl ⟨_, _, nx3, L, hX.symm, hY.symm, ?_, by omega, ?_, fun k a b => by rw [pu_uc _ _ b, pu_uc _ _ a], ?_⟩
      · rw [pu_uc _ _ (show 1 ≠ 14 by decide), k_uc_s]
        exact pu_Rd2 a6 (by rw [k_upc _ _ (by decide), k_upc _ _ (by decide)]) (by rw [k_upc _ _ (by decide), k_upc _ _ (by decide)])
      · rw [k_uc_s]
        refine pu_tabD hD (fun c hc => p3 c (by omega) (by omega) (by omega)) (fun j g1 g2 g3 g4 => row j g2 (by omega) (by omega)) ?_ ⟨N + 1, by omega, p2, k_ups _ _ _ _, ?_⟩ ?_
        · exact pu_T_congr hT (by rw [p3 3 (by decide) (by decide) (by decide)]) (fun i _ => by rw [p3 4 (by decide) (by decide) (by decide)]) (fun i _ => by rw [p3 5 (by decide) (by decide) (by decide)]) (row 10 (by omega) (by omega) (by omega)) (fun j g1 g2 => row j (by omega) (by omega) (by omega))
        · refine pu_rowT (w := u 14) (s := m 2) e3 rows p4 p5 ?_ ?_ (fun j g1 g2 => row j (by omega) (by omega) (by omega))
          · rw [k_upi _ _ (by omega), k_upi _ _ (by omega), a8.1 2 (by decide), e8]
          · rw [k_upi _ _ (by omega), k_ups]
        · exact pu_S_congr hS (by rw [p3 9 (by decide) (by decide) (by decide)]) (fun i _ => by rw [p3 10 (by decide) (by decide) (by decide)]) (fun i _ => by rw [p3 11 (by decide) (by decide) (by decide)]) (fun i _ => by rw [p3 12 (by decide) (by decide) (by decide)]) (row 12 (by omega) (by omega) (by omega)) (fun j g1 g2 => row j (by omega) (by omega) (by omega))
      · exact pu_mg_tr e7 (pu_mg_tr (pu_mg_mf a8) (pu_mg_tr (pu_mg_up _ _ _) (pu_mg_up _ _ _)))
    · obtain ⟨w1, p1, p3⟩ := pu_putA (tc := 6) n8 tn (kn v) 0
      rw [a1, k_bds, k_lts, pu_ucc, pu_uc _ _ (show 14 ≠ 1 by decide)] at hX
      dsimp only at hX
      rw [p1, k_bds, k_lts] at hX
      rw [a2, k_bds, if_pos rfl] at hY
      refine Or.inr ⟨_, _, hX.symm, hY.symm, ?_, ?_, fun k a b => by rw [pu_uc _ _ b, pu_uc _ _ a], pu_mg_tr e7 (pu_mg_mf a4)⟩
      · rw [pu_uc _ _ (show 1 ≠ 14 by decide), k_uc_s]
        exact a3
      · rw [k_uc_s, p3 2 (by decide) (by decide) (by decide)]
        exact hfl
  · have e2' : f_X11_takesHeight m 108 11 0 = some (M, 0) := e2
    obtain ⟨w1, p1, p3⟩ := pu_putA (tc := 6) n8 tn x 0
    rw [e1, k_bds] at hX
    dsimp only at hX
    rw [k_uc_s, pu_bG e3, k_bds, k_lts, pu_ucc, pu_uc _ _ (show 14 ≠ 1 by decide)] at hX
    dsimp only at hX
    rw [p1, k_bds, k_lts] at hX
    rw [e2', k_bds, if_pos rfl] at hY
    refine Or.inr ⟨_, _, hX.symm, hY.symm, ?_, ?_, fun k a b => by rw [pu_uc _ _ b, pu_uc _ _ a], e4⟩
    · rw [pu_uc _ _ (show 1 ≠ 14 by decide), k_uc_s]
      exact e3
    · rw [k_uc_s, p3 2 (by decide) (by decide) (by decide)]
      exact hfl

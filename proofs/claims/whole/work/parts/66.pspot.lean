/-! the statement of a spot -/
theorem pu_standG0 {r m : k_M} {len nx : Nat} (h : pu_Rd r m len nx) (a s0 : Int32) : (∃ v, r 0 5 = 2 ∧ f_X11_standsSigned_22 m a s0 = some (k_up (k_up m 0 17 (kn v)) 0 17 (if s0 = 0 then kn v else -(kn v)), 1) ∧ ∀ r', f_X4_advance r = some r' → f_X4_takeSigned_29 r a s0 = some (r', if s0 = 0 then kn v else -(kn v))) ∨ (∃ r' m', f_X4_takeSigned_29 r a s0 = some (r', if s0 = 0 then 0 else -0) ∧ f_X11_standsSigned_22 m a s0 = some (m', 0) ∧ pu_Bd r' m' len ∧ pu_mf m m') := by
  have no : ¬ (1 : Int32) = 0 := by decide
  unfold f_X4_takeSigned_29 f_X11_standsSigned_22 f_X11_standsSigned_50
  rcases pu_standN h 0 a with ⟨v, v1, v2, v3, v4, v5, v6⟩ | ⟨r', m', e1, e2, e3, e4⟩
  · refine Or.inl ⟨v, v2, ?_, fun r' e => ?_⟩
    · rw [v5, k_bds, if_neg no]
      dsimp only
      rw [k_ups]
      by_cases hs : s0 = 0
      · rw [if_pos hs, if_pos hs, k_lts]
      · rw [if_neg hs, if_neg hs, k_lts]
    · rw [v6 r' e, k_bds]
      by_cases hs : s0 = 0
      · rw [if_pos hs, if_pos hs]
      · rw [if_neg hs, if_neg hs]
  · refine Or.inr ⟨r', m', ?_, ?_, e3, e4⟩
    · rw [e1, k_bds]
      by_cases hs : s0 = 0
      · rw [if_pos hs, if_pos hs]
      · rw [if_neg hs, if_neg hs]
    · rw [e2, k_bds, if_pos rfl]
theorem pu_standG {r m : k_M} {len nx : Nat} (h : pu_Rd r m len nx) (a : Int32) : (∃ r0 m0 nx0 s, f_X11_standsSigned m a = some (m0, 1) ∧ m0 0 17 = s ∧ pu_Rd r0 m0 len nx0 ∧ nx ≤ nx0 ∧ r0 0 5 = 2 ∧ pu_mf m m0 ∧ ∀ r', f_X4_advance r0 = some r' → f_X4_takeSigned r a = some (r', s)) ∨ (∃ r' m', f_X4_takeSigned r a = some (r', 0) ∧ f_X11_standsSigned m a = some (m', 0) ∧ pu_Bd r' m' len ∧ pu_mf m m') := by
  have no : ¬ (1 : Int32) = 0 := by decide
  have hk : r 0 5 = 3 ↔ m 0 13 = 3 := pu_tkind h.2.2.1 (c := 3) (by decide)
  have hf : f_X4_hasFailed r = some 0 := if_pos h.2.2.2.1
  unfold f_X4_takeSigned f_X4_takeSigned_19 f_X4_takeSigned_20 f_X11_standsSigned f_X11_standsSigned_13
  by_cases c3 : r 0 5 = 3
  · obtain ⟨r1, m1, nx1, q1, q2, q3, q4, q5, q6, q7, q8⟩ := pu_nextTok h
    rw [if_pos c3, hf, k_bds, if_pos rfl, if_neg no, q1, k_bds, if_pos (hk.mp c3), if_neg no, q2, k_bds]
    rcases pu_standG0 q3 a 1 with ⟨v, e1, e2, e3⟩ | ⟨r', m', e1, e2, e3, e4⟩
    · rw [if_neg no] at e2 e3
      exact Or.inl ⟨r1, _, nx1, _, e2, k_ups _ _ _ _, pu_Rd17 _ (pu_Rd17 _ q3), q4, e1, pu_mf_tr q7 (pu_mf_tr (pu_mf17 _ _) (pu_mf17 _ _)), e3⟩
    · rw [if_neg no] at e1
      exact Or.inr ⟨r', m', e1, e2, e3, pu_mf_tr q7 e4⟩
  · rw [if_neg c3, if_pos rfl, if_neg (fun e => c3 (hk.mpr e)), if_pos rfl]
    rcases pu_standG0 h a 0 with ⟨v, e1, e2, e3⟩ | ⟨r', m', e1, e2, e3, e4⟩
    · rw [if_pos rfl] at e2 e3
      exact Or.inl ⟨r, _, nx, _, e2, k_ups _ _ _ _, pu_Rd17 _ (pu_Rd17 _ h), Nat.le_refl _, e1, pu_mf_tr (pu_mf17 _ _) (pu_mf17 _ _), e3⟩
    · rw [if_pos rfl] at e1
      exact Or.inr ⟨r', m', e1, e2, e3, e4⟩
theorem pu_addS {w : k_M} {N : Nat} (hN : N ≤ 8) (hw : w 9 3 = kn N) (x y z : Int32) : ∃ w', f_X8_add w x y z = some w' ∧ (∀ c, c ≠ 9 → c ≠ 10 → c ≠ 11 → c ≠ 12 → w' c = w c) ∧ (N < 8 → w' 9 3 = kn (N + 1) ∧ (∀ i, w' 10 i = if i = N then x else w 10 i) ∧ (∀ i, w' 11 i = if i = N then y else w 11 i) ∧ (∀ i, w' 12 i = if i = N then z else w 12 i)) := by
  unfold f_X8_add
  rw [hw]
  by_cases c8 : N < 8
  · refine ⟨k_up (k_up (k_up (k_up w 10 N x) 11 N y) 12 N z) 9 3 (kn (N + 1)), ?_, fun c a b d e => by rw [k_upc _ _ a, k_upc _ _ e, k_upc _ _ d, k_upc _ _ b], fun _ => ⟨k_ups _ _ _ _, fun i => ?_, fun i => ?_, fun i => ?_⟩⟩
    · rw [if_neg (by rw [kn_lle (by omega) (by omega)]; omega), k_ckn c8 (by decide), kn_nat (by omega), k_lts, k_upc _ _ (show 9 ≠ 10 by decide), hw, k_ckn c8 (by decide), kn_nat (by omega), k_lts, k_upc _ _ (show 9 ≠ 11 by decide), k_upc _ _ (show 9 ≠ 10 by decide), hw, k_ckn c8 (by decide), kn_nat (by omega), k_lts, k_upc _ _ (show 9 ≠ 12 by decide), k_upc _ _ (show 9 ≠ 11 by decide), k_upc _ _ (show 9 ≠ 10 by decide), hw, k_lts, show kn N + 1 = kn (N + 1) from kn_addl N 1]
    · rw [k_upc _ _ (show 10 ≠ 9 by decide), k_upc _ _ (show 10 ≠ 12 by decide), k_upc _ _ (show 10 ≠ 11 by decide)]
      by_cases c : i = N
      · rw [if_pos c, c, k_ups]
      · rw [if_neg c, k_upi _ _ c]
    · rw [k_upc _ _ (show 11 ≠ 9 by decide), k_upc _ _ (show 11 ≠ 12 by decide)]
      by_cases c : i = N
      · rw [if_pos c, c, k_ups]
      · rw [if_neg c, k_upi _ _ c, k_upc _ _ (show 11 ≠ 10 by decide)]
    · rw [k_upc _ _ (show 12 ≠ 9 by decide)]
      by_cases c : i = N
      · rw [if_pos c, c, k_ups]
      · rw [if_neg c, k_upi _ _ c, k_upc _ _ (show 12 ≠ 11 by decide), k_upc _ _ (show 12 ≠ 10 by decide)]
  · exact ⟨w, if_pos (by rw [kn_lle (by omega) (by omega)]; omega), fun _ _ _ _ _ => rfl, fun c => absurd c c8⟩
theorem pu_sSpot {u : k_U} {r m m1 : k_M} {len nx nx1 L : Nat} (h : pu_Rd r m len nx) (h1 : pu_Rd (u 1) m1 len nx1) (ea : f_X11_advance m = some m1) (hmf : pu_mf m m1) (h9 : u 1 0 9 = r 0 6) (hnx : nx < nx1) (hD : pu_Dr L (u 14) (m 2)) : pu_Re u m len nx (f_X6_readSpot u) (f_X11_readSpot m) := by
  have hT := hD.1.2.2.2.2.2.1
  have hWi := hD.1.2.2.2.2.2.2.1
  have hS := hD.1.2.2.2.2.2.2.2.1
  have hfl := hD.1.2.1.2.2
  obtain ⟨N, n8, tn, sn, rows⟩ := hS
  have no : ¬ (1 : Int32) = 0 := by decide
  have en : (124 : Int32) + 3 * kn N = kn (124 + 3 * N) := by
    rw [show (3 : Int32) * kn N = kn (3 * N) from kn_lmul N 3]
    exact kn_ladd _ 124
  have bA : ∀ (r' M : k_M) (x y : Int32), pu_Bd r' M len → ∃ w', f_X6_readSpot_46 (k_uc u 1 r') x y = some (k_uc (k_uc u 1 r') 14 w') ∧ w' 2 = u 14 2 := by
    intro r' M x y hB
    obtain ⟨w', p1, p2, -⟩ := pu_addS n8 tn x y 0
    refine ⟨w', ?_, p2 2 (by decide) (by decide) (by decide) (by decide)⟩
    unfold f_X6_readSpot_46
    rw [k_uc_s, pu_bN hB, k_bds, k_lts, pu_ucc, pu_uc _ _ (show 14 ≠ 1 by decide)]
    dsimp only
    rw [p1, k_bds, k_lts]
  have bB : ∀ (r' M : k_M), pu_Bd r' M len → ∃ w', f_X6_readSpot_20 (k_uc u 1 r') = some (k_uc (k_uc u 1 r') 14 w') ∧ w' 2 = u 14 2 := by
    intro r' M hB
    obtain ⟨w', p1, p2⟩ := bA r' M 0 0 hB
    refine ⟨w', ?_, p2⟩
    unfold f_X6_readSpot_20
    rw [k_uc_s, pu_bG hB, k_bds, k_lts, pu_ucc, k_uc_s, pu_bG hB, k_bds, k_lts, pu_ucc]
    dsimp only
    rw [if_pos (show (0 : Int32) ≤ 0 by decide), p1]
  generalize hX : f_X6_readSpot u = X
  unfold f_X6_readSpot at hX
  generalize hY : f_X11_readSpot m = Y
  unfold f_X11_readSpot f_X11_readSpot_32 f_X11_goesOn at hY
  rw [sn, k_lts, en] at hY
  rw [tn] at hX
  have bF : ∀ (r' M w' : k_M), pu_Bd r' M len → pu_mg m M → w' 2 = u 14 2 → X = some (k_uc (k_uc u 1 r') 14 w') → Y = some (M, 0) → pu_Re u m len nx X Y := by
    intro r' M w' z1 z2 z3 z4 z5
    refine Or.inr ⟨_, M, z4, z5, ?_, ?_, fun k a b => by rw [pu_uc _ _ b, pu_uc _ _ a], z2⟩
    · rw [pu_uc _ _ (show 1 ≠ 14 by decide), k_uc_s]
      exact z1
    · rw [k_uc_s, z3]
      exact hfl
  by_cases c8 : N < 8
  · rw [if_pos (by rw [kn_ltl (by omega) (by omega)]; exact c8)] at hX
    unfold f_X6_readSpot_20 at hX
    rw [if_neg (by rw [kn_lle (by omega) (by omega)]; omega), if_neg no, ea, k_bds, k_bds, if_neg no] at hY
    dsimp only at hY
    rcases pu_takeG h1 9999 with ⟨r2, m2, nx2, z, x, a1, a2, a3, a4, a5, a9, a6, a7, a8⟩ | ⟨r2, m2, a1, a2, a3, a4⟩
    · rw [a1, k_bds, k_lts, k_uc_s] at hX
      dsimp only at hX
      rw [a2, k_bds, if_neg no] at hY
      dsimp only at hY
      rw [k_ckn (show 124 + 3 * N < 268 by omega) (by decide), kn_nat (by omega), a9, k_lts] at hY
      have hR3 : pu_Rd r2 (k_up m2 2 (124 + 3 * N) x) len nx2 := pu_Rd2 a6 (k_upc _ _ (by decide)) (k_upc _ _ (by decide))
      have mg3 : pu_mg m (k_up m2 2 (124 + 3 * N) x) := pu_mg_tr (pu_mg_mf (pu_mf_tr hmf a8)) (pu_mg_up _ _ _)
      rcases pu_standG hR3 9999 with ⟨r0, m0, nx0, y, b1, b2, b3, b4, b5, b6, b7⟩ | ⟨r3, m3, b1, b2, b3, b4⟩
      · have m0x : m0 2 (124 + 3 * N) = x := by rw [b6.1 2 (by decide), k_ups]
        have mg0 : pu_mg m m0 := pu_mg_tr mg3 (pu_mg_mf b6)
        rw [b1, k_bds, if_neg no] at hY
        dsimp only at hY
        rw [k_ckn (show 124 + 3 * N < 268 by omega) (by decide)] at hY
        obtain ⟨r3, m4, nx3, q1, q2, q3, q4, q5, q6, q7, q8⟩ := pu_nextTok (pu_Rd2 (m' := k_up m0 2 (124 + 3 * N + 1) y) b3 (k_upc _ _ (by decide)) (k_upc _ _ (by decide)))
        rw [b7 r3 q1, k_bds, k_lts, pu_ucc] at hX
        dsimp only at hX
        by_cases hxy : x ≤ y
        · rw [if_pos hxy] at hX
          unfold f_X6_readSpot_46 at hX
          rw [k_uc_s] at hX
          rw [if_pos (show m0 2 (124 + 3 * N) ≤ m0 0 17 by rw [m0x, b2]; exact hxy), show kn (124 + 3 * N) + 1 = kn (124 + 3 * N + 1) from kn_addl _ 1, show kn (124 + 3 * N) + 2 = kn (124 + 3 * N + 2) from kn_addl _ 2, k_ckn (show 124 + 3 * N + 1 < 268 by omega) (by decide), kn_nat (by omega), b2, k_lts, q2, k_bds] at hY
          rcases pu_into q3 (i := 124 + 3 * N + 2) (by omega) 1 99 with ⟨r4, m5, nx4, v, e1, e2, e3, e4, e5, e6, e7, e8, e9⟩ | ⟨r4, m5, e1, e2, e3, e4⟩
          · obtain ⟨w1, p1, p2, p3⟩ := pu_addS n8 tn x y (kn v)
            obtain ⟨p3, p4, p5, p6⟩ := p3 c8
            rw [e1, k_bds, k_lts, pu_ucc, pu_uc _ _ (show 14 ≠ 1 by decide)] at hX
            dsimp only at hX
            rw [p1, k_bds, k_lts] at hX
            rw [e2, k_bds, if_neg no] at hY
            dsimp only at hY
            have row : ∀ j, j ≠ 124 + 3 * N → j ≠ 124 + 3 * N + 1 → j ≠ 124 + 3 * N + 2 → k_up m5 2 (124 + 3 * N + 2) (kn v) 2 j = m 2 j := fun j g1 g2 g3 => by rw [k_upi _ _ g3, e8.1 2 (by decide), q7.1 2 (by decide), k_upi _ _ g2, b6.1 2 (by decide), k_upi _ _ g1, a8.1 2 (by decide), hmf.1 2 (by decide)]
            rw [row 12 (by omega) (by omega) (by omega), sn, k_lts, show kn N + 1 = kn (N + 1) from kn_addl N 1] at hY
            have rowT : ∀ j, j ≠ 12 → j ≠ 124 + 3 * N → j ≠ 124 + 3 * N + 1 → j ≠ 124 + 3 * N + 2 → k_up (k_up m5 2 (124 + 3 * N + 2) (kn v)) 2 12 (kn (N + 1)) 2 j = m 2 j := fun j g0 g1 g2 g3 => by rw [k_upi _ _ g0, row j g1 g2 g3]
            refine Or.inl ⟨_, _, nx4, L, hX.symm, hY.symm, ?_, by omega, ?_, fun k a b => by rw [pu_uc _ _ b, pu_uc _ _ a], ?_⟩
            · rw [pu_uc _ _ (show 1 ≠ 14 by decide), k_uc_s]
              exact pu_Rd2 e6 (k_upc _ _ (by decide)) (k_upc _ _ (by decide))
            · rw [k_uc_s]
              refine pu_tabD hD (fun c hc => p2 c (by omega) (by omega) (by omega) (by omega)) (fun j g1 g2 g3 g4 => rowT j g3 (by omega) (by omega) (by omega)) ?_ ?_ ⟨N + 1, by omega, p3, k_ups _ _ _ _, fun k hk => ?_⟩
              · exact pu_T_congr hT (by rw [p2 3 (by decide) (by decide) (by decide) (by decide)]) (fun i _ => by rw [p2 4 (by decide) (by decide) (by decide) (by decide)]) (fun i _ => by rw [p2 5 (by decide) (by decide) (by decide) (by decide)]) (rowT 10 (by omega) (by omega) (by omega) (by omega)) (fun j g1 g2 => rowT j (by omega) (by omega) (by omega) (by omega))
              · exact pu_T_congr hWi (by rw [p2 6 (by decide) (by decide) (by decide) (by decide)]) (fun i _ => by rw [p2 7 (by decide) (by decide) (by decide) (by decide)]) (fun i _ => by rw [p2 8 (by decide) (by decide) (by decide) (by decide)]) (rowT 11 (by omega) (by omega) (by omega) (by omega)) (fun j g1 g2 => rowT j (by omega) (by omega) (by omega) (by omega))
              · rw [p4, p5, p6]
                by_cases c : k = N
                · subst c
                  rw [if_pos rfl, if_pos rfl, if_pos rfl]
                  refine ⟨?_, ?_, ?_⟩
                  · rw [k_upi _ _ (by omega), k_upi _ _ (by omega), e8.1 2 (by decide), q7.1 2 (by decide), k_upi _ _ (by omega), m0x]
                  · rw [k_upi _ _ (by omega), k_upi _ _ (by omega), e8.1 2 (by decide), q7.1 2 (by decide), k_ups]
                  · rw [k_upi _ _ (by omega), k_ups]
                · rw [if_neg c, if_neg c, if_neg c, rowT _ (by omega) (by omega) (by omega) (by omega), rowT _ (by omega) (by omega) (by omega) (by omega), rowT _ (by omega) (by omega) (by omega) (by omega)]
                  exact rows k (by omega)
            · exact pu_mg_tr mg0 (pu_mg_tr (pu_mg_up _ _ _) (pu_mg_tr (pu_mg_mf (pu_mf_tr q7 e8)) (pu_mg_tr (pu_mg_up _ _ _) (pu_mg_up _ _ _))))
          · obtain ⟨w1, p1, p2, -⟩ := pu_addS n8 tn x y 0
            rw [e1, k_bds, k_lts, pu_ucc, pu_uc _ _ (show 14 ≠ 1 by decide)] at hX
            dsimp only at hX
            rw [p1, k_bds, k_lts] at hX
            rw [e2, k_bds, if_pos rfl] at hY
            exact bF r4 m5 w1 e3 (pu_mg_tr mg0 (pu_mg_tr (pu_mg_up _ _ _) (pu_mg_mf (pu_mf_tr q7 e4)))) (p2 2 (by decide) (by decide) (by decide) (by decide)) hX.symm hY.symm
        · obtain ⟨r', m', e1, e2, e3, e4⟩ := pu_failT b3 q3 q6 (c := 3) (by decide)
          rw [if_neg hxy, k_uc_s, e1, k_bds, k_lts, pu_ucc] at hX
          rw [if_neg (show ¬ m0 2 (124 + 3 * N) ≤ m0 0 17 by rw [m0x, b2]; exact hxy), e2, k_bds, k_ckp (Or.inl rfl)] at hY
          obtain ⟨w1, p1, p2⟩ := bA r' m' x y e3
          exact bF r' m' w1 e3 (pu_mg_tr mg0 (pu_mg_mf e4)) p2 (hX.symm.trans p1) hY.symm
      · rw [b1, k_bds, k_lts, pu_ucc] at hX
        dsimp only at hX
        rw [b2, k_bds, if_pos rfl] at hY
        obtain ⟨w1, p1, p2⟩ := bA r3 m3 x 0 b3
        rw [k_uc_s, pu_bT b3, k_bds, k_lts, pu_ucc, ite_self] at hX
        exact bF r3 m3 w1 b3 (pu_mg_tr mg3 (pu_mg_mf b4)) p2 (hX.symm.trans p1) hY.symm
    · obtain ⟨w1, p1, p2⟩ := bA r2 m2 0 0 a3
      rw [a1, k_bds, k_lts, k_uc_s] at hX
      rw [pu_bG a3, k_bds, k_lts, pu_ucc] at hX
      dsimp only at hX
      rw [if_pos (show (0 : Int32) ≤ 0 by decide)] at hX
      rw [a2, k_bds, if_pos rfl] at hY
      exact bF r2 m2 w1 a3 (pu_mg_mf (pu_mf_tr hmf a4)) p2 (hX.symm.trans p1) hY.symm
  · obtain ⟨r', M, e1, e2, e3, e4⟩ := pu_failT h h1 h9 (c := 4) (by decide)
    obtain ⟨w1, p1, p2⟩ := bB r' M e3
    rw [if_neg (by rw [kn_ltl (by omega) (by omega)]; exact c8), e1, k_bds, k_lts] at hX
    rw [if_pos (by rw [kn_lle (by omega) (by omega)]; omega), if_pos rfl, e2, k_bds, k_ckp (Or.inl rfl), k_bds, if_pos rfl] at hY
    exact bF r' M w1 e3 (pu_mg_mf e4) p2 (hX.symm.trans p1) hY.symm

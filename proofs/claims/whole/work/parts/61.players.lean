/-! a statement of a setup: either both go on, or the class has failed and the reference says so -/
def pu_Re (u : k_U) (m : k_M) (len nx : Nat) (X : Option k_U) (Y : Option (k_M × Int32)) : Prop :=
  (∃ u' m' nx2 L', X = some u' ∧ Y = some (m', 1) ∧ pu_Rd (u' 1) m' len nx2 ∧ nx < nx2 ∧ pu_Dr L' (u' 14) (m' 2) ∧ (∀ k, k ≠ 1 → k ≠ 14 → u' k = u k) ∧ pu_mg m m') ∨
  (∃ u' m', X = some u' ∧ Y = some (m', 0) ∧ pu_Bd (u' 1) m' len ∧ (u' 14 2 6 = 0 ∨ u' 14 2 6 = 1) ∧ (∀ k, k ≠ 1 → k ≠ 14 → u' k = u k) ∧ pu_mg m m')
def pu_pk (w : k_M) (q : Nat) (a b c d e : Int32) : k_M := k_up (k_up (k_up (k_up (k_up (k_up (k_up (k_up w q 0 a) q 1 b) q 2 c) q 3 d) q 4 e) q 5 0) q 6 0) q 7 0
theorem pu_packE (w : k_M) (q : Nat) (a b c d e : Int32) : f_X0_pack w q a b c d e = some (pu_pk w q a b c d e) := rfl
theorem pu_pk_c (w : k_M) {q c' : Nat} (a b c d e : Int32) (h : c' ≠ q) : pu_pk w q a b c d e c' = w c' := by
  unfold pu_pk
  rw [k_upc _ _ h, k_upc _ _ h, k_upc _ _ h, k_upc _ _ h, k_upc _ _ h, k_upc _ _ h, k_upc _ _ h, k_upc _ _ h]
theorem pu_pk_s (w : k_M) (q : Nat) (a b c d e : Int32) : pu_pk w q a b c d e q 0 = a ∧ pu_pk w q a b c d e q 1 = b ∧ pu_pk w q a b c d e q 2 = c ∧ pu_pk w q a b c d e q 3 = d ∧ pu_pk w q a b c d e q 4 = e ∧ pu_pk w q a b c d e q 5 = 0 ∧ pu_pk w q a b c d e q 6 = 0 ∧ pu_pk w q a b c d e q 7 = 0 := by
  unfold pu_pk
  simp [k_upx]
theorem pu_sLayer {u : k_U} {r m m1 : k_M} {len nx nx1 L : Nat} (h : pu_Rd r m len nx) (h1 : pu_Rd (u 1) m1 len nx1) (ea : f_X11_advance m = some m1) (hmf : pu_mf m m1) (h9 : u 1 0 9 = r 0 6) (hnx : nx < nx1) (hD : pu_Dr L (u 14) (m 2)) : pu_Re u m len nx (f_X6_readLayer u) (f_X11_readLayer m) := by
  have hL : L ≤ 8 := hD.1.1.1
  have a10 : u 14 0 10 = kn L := hD.1.1.2.1
  have s8 : m 2 8 = kn L := hD.1.1.2.2
  have hfl := hD.1.2.1.2.2
  generalize hX : f_X6_readLayer u = X
  unfold f_X6_readLayer at hX
  generalize hY : f_X11_readLayer m = Y
  unfold f_X11_readLayer f_X11_readLayer_21 f_X11_goesOn at hY
  rw [s8, k_lts] at hY
  rw [a10] at hX
  by_cases c8 : L < 8
  · rw [if_pos (by rw [kn_ltl (by omega) (by omega)]; exact c8), k_ckn c8 (by decide), kn_nat (by omega)] at hX
    rw [if_neg (by rw [kn_lle (by omega) (by omega)]; omega), if_neg (by decide), ea, k_bds, k_bds, if_neg (show ¬ (1 : Int32) = 0 by decide)] at hY
    dsimp only at hY
    rw [show (56 : Int32) + kn L = kn (56 + L) from kn_ladd L 56] at hY
    rcases pu_rchute (q := 15 + L) (t3 := 7) (tm := 18) (tp := 400) h1 hL rfl (by decide) (fun x => k_bd (f_X11_isWord x 19) fun r74 => (if r74 = 0 then f_X11_readLayer_85 x 0 (83 + kn L) else f_X11_readLayer_85 x 1 (83 + kn L))) with ⟨r', M, nx2, ar, li, st, he, ve, e1, e2, b1, b2, b3, b4, b5, ⟨q1, q2, q3, q4, q5, q6, q7⟩, hRd, hn2, hmg⟩ | ⟨r', M, v1, v2, v3, v4, v5, e1, e2, hBd, hmg⟩
    · rw [e1, pu_packE, k_bds, k_bds, pu_uc _ _ (show 1 ≠ 14 by decide), k_uc_s] at hX
      obtain ⟨v, v1, v2, v3, v4⟩ := pu_word (t := 8) (t' := 19) hRd.1 hRd.2.1 hRd.2.2.1 rfl (by decide)
      have hY2 := hY.symm.trans e2
      try dsimp only at hY2
      rw [v2, k_bds, show (83 : Int32) + kn L = kn (83 + L) from kn_ladd L 83] at hY2
      have hY3 : Y = f_X11_readLayer_85 M v (kn (83 + L)) := by
        rw [hY2]
        rcases v3 with rfl | rfl
        · rw [if_pos rfl]
        · rw [if_neg (by decide)]
      have hRd1 : pu_Rd r' (k_up M 2 (83 + L) v) len nx2 := pu_Rd2 hRd (k_upc _ _ (by decide)) (k_upc _ _ (by decide))
      obtain ⟨v', w1, w2, -, -⟩ := pu_word (t := 8) (t' := 19) hRd1.1 hRd1.2.1 hRd1.2.2.1 rfl (by decide)
      have hv : v' = v := Option.some.inj (w1.symm.trans v1)
      rw [hv] at w2
      unfold f_X11_readLayer_85 f_X11_readLayer_100 at hY3
      rw [k_ckn (by omega) (by decide), kn_nat (by omega), k_lts, w2, k_bds] at hY3
      have hf : f_X4_hasFailed r' = some 0 := if_pos hRd.2.2.2.1
      unfold f_X4_skipWord at hX
      rw [hf, k_bds, if_pos rfl, v1, k_bds] at hX
      have M8 : M 2 8 = kn L := by rw [q7 8 (by omega) (by omega) (by omega) (by omega) (by omega) (by omega), hmf.1 2 (by decide), s8]
      have fin : ∀ (rf mf : k_M) (nx3 : Nat), pu_Rd rf mf len nx3 → nx < nx3 → pu_mg m mf → mf 2 = k_up M 2 (83 + L) v 2 → X = some (k_uc (k_uc u 1 rf) 14 (k_up (k_up (pu_pk (u 14) (15 + L) (kn ar) (kn li) (kn st) (kn he) (kn ve)) (15 + L) 6 v) 0 10 (kn (L + 1)))) → Y = some (k_up mf 2 8 (kn (L + 1)), 1) → pu_Re u m len nx X Y := by
        intro rf mf nx3 z1 z2 z3 z4 z5 z6
        have pk := pu_pk_s (u 14) (15 + L) (kn ar) (kn li) (kn st) (kn he) (kn ve)
        have row : ∀ j, j ≠ 8 → k_up mf 2 8 (kn (L + 1)) 2 j = k_up M 2 (83 + L) v 2 j := fun j hj => by rw [k_upi _ _ hj, z4]
        have rowM : ∀ j, j ≠ 8 → j ≠ 83 + L → k_up mf 2 8 (kn (L + 1)) 2 j = M 2 j := fun j hj h2 => by rw [row j hj, k_upi _ _ h2]
        refine Or.inl ⟨_, _, nx3, L + 1, z5, z6, ?_, z2, ?_, fun k a b => by rw [pu_uc _ _ b, pu_uc _ _ a], pu_mg_tr z3 (pu_mg_up _ _ _)⟩
        · rw [pu_uc _ _ (show 1 ≠ 14 by decide), k_uc_s]
          exact pu_Rd2 z1 (k_upc _ _ (by decide)) (k_upc _ _ (by decide))
        · rw [k_uc_s]
          refine pu_addL hD c8 (pu_packC (x3 := kn he) (x4 := kn ve) (j := v) b1 b2 b3 v3 ?_ ?_ ?_ ?_ ?_ ?_ ?_ ?_ ?_ ?_ ?_ ?_ ?_ ?_ ?_ ?_) ?_ (fun c h0 hq => ?_) (fun i hi => ?_) (k_ups _ _ _ _) (k_ups _ _ _ _) ?_ (fun j hj g8 g20 g29 g38 g47 g56 g65 g74 g83 => ?_)
          · rw [k_upc _ _ (by omega), k_upi _ _ (by decide), pk.1]
          · rw [k_upc _ _ (by omega), k_upi _ _ (by decide), pk.2.1]
          · rw [k_upc _ _ (by omega), k_upi _ _ (by decide), pk.2.2.1]
          · rw [k_upc _ _ (by omega), k_upi _ _ (by decide), pk.2.2.2.1]
          · rw [k_upc _ _ (by omega), k_upi _ _ (by decide), pk.2.2.2.2.1]
          · rw [k_upc _ _ (by omega), k_upi _ _ (by decide), pk.2.2.2.2.2.1]
          · rw [k_upc _ _ (by omega), k_ups]
          · rw [k_upc _ _ (by omega), k_upi _ _ (by decide), pk.2.2.2.2.2.2.2]
          · rw [rowM _ (by omega) (by omega), q1]
          · rw [rowM _ (by omega) (by omega), q2]
          · rw [rowM _ (by omega) (by omega), q3]
          · rw [rowM _ (by omega) (by omega), q4]
          · rw [rowM _ (by omega) (by omega), q5]
          · rw [rowM _ (by omega) (by omega), q7 _ (by omega) (by omega) (by omega) (by omega) (by omega) (by omega), hmf.1 2 (by decide)]
            exact hD.2.2.1 L (by omega)
          · rw [rowM _ (by omega) (by omega), q6]
          · rw [row _ (by omega), k_ups]
          · rw [k_upc _ _ (by omega), k_upi _ _ (by decide), pk.2.2.2.2.2.1]
          · rw [k_upc _ _ h0, k_upc _ _ hq, pu_pk_c _ _ _ _ _ _ hq]
          · rw [k_upi _ _ hi, k_upc _ _ (by omega), pu_pk_c _ _ _ _ _ _ (show 0 ≠ 15 + L by omega)]
          · rw [rowM _ (by omega) (by omega), q7 _ (by omega) (by omega) (by omega) (by omega) (by omega) (by omega), hmf.1 2 (by decide)]
            exact hD.2.2.1 L (by omega)
          · rw [rowM _ g8 g83, q7 j g20 g29 g38 g47 g56 g74, hmf.1 2 (by decide)]
      have hkp : ∀ rf : k_M, k_uc (k_uc (k_uc (k_uc (k_uc u 1 r') 14 (pu_pk (u 14) (15 + L) (kn ar) (kn li) (kn st) (kn he) (kn ve))) 1 rf) 14 (k_up (pu_pk (u 14) (15 + L) (kn ar) (kn li) (kn st) (kn he) (kn ve)) (15 + L) 6 v)) 14 (k_up (k_up (pu_pk (u 14) (15 + L) (kn ar) (kn li) (kn st) (kn he) (kn ve)) (15 + L) 6 v) 0 10 (kn (L + 1))) = k_uc (k_uc u 1 rf) 14 (k_up (k_up (pu_pk (u 14) (15 + L) (kn ar) (kn li) (kn st) (kn he) (kn ve)) (15 + L) 6 v) 0 10 (kn (L + 1))) := fun rf => by
        funext k
        by_cases a : k = 14
        · subst a
          rw [k_uc_s, k_uc_s]
        · rw [pu_uc _ _ a, pu_uc _ _ a, pu_uc _ _ a]
          by_cases b : k = 1
          · subst b
            rw [k_uc_s, k_uc_s]
          · rw [pu_uc _ _ b, pu_uc _ _ a, pu_uc _ _ b, pu_uc _ _ b]
      rcases v3 with rfl | rfl
      · rw [if_pos rfl, k_bds, k_lts, k_ckp (Or.inl rfl), k_lts, k_lts, pu_uc _ _ (show 14 ≠ 1 by decide), k_uc_s, k_uc_s, k_upc _ _ (show 0 ≠ 15 + L by omega), pu_pk_c _ _ _ _ _ _ (show 0 ≠ 15 + L by omega), a10, show kn L + 1 = kn (L + 1) from kn_addl L 1, hkp] at hX
        rw [if_pos rfl, k_lts, k_upi _ _ (show 8 ≠ 83 + L by omega), M8, show kn L + 1 = kn (L + 1) from kn_addl L 1] at hY3
        exact fin r' _ nx2 hRd1 (by omega) (pu_mg_tr (pu_mg_mf hmf) (pu_mg_tr hmg (pu_mg_up _ _ _))) rfl hX.symm hY3
      · obtain ⟨r3, m3, nx3, t1, t2, t3, t4, t5, t6, t7, t8⟩ := pu_nextTok hRd1
        rw [if_neg (by decide), t1, k_bds, k_bds, k_lts, k_ckp (Or.inr rfl), k_lts, k_lts, pu_uc _ _ (show 14 ≠ 1 by decide), k_uc_s, k_uc_s, k_upc _ _ (show 0 ≠ 15 + L by omega), pu_pk_c _ _ _ _ _ _ (show 0 ≠ 15 + L by omega), a10, show kn L + 1 = kn (L + 1) from kn_addl L 1, hkp] at hX
        rw [if_neg (by decide), t2, k_bds, k_lts, t7.1 2 (by decide), k_upi _ _ (show 8 ≠ 83 + L by omega), M8, show kn L + 1 = kn (L + 1) from kn_addl L 1] at hY3
        exact fin r3 m3 nx3 t3 (by omega) (pu_mg_tr (pu_mg_mf hmf) (pu_mg_tr hmg (pu_mg_tr (pu_mg_up _ _ _) (pu_mg_mf t7)))) (t7.1 2 (by decide)) hX.symm hY3
    · rw [e1, pu_packE, k_bds, k_bds, pu_uc _ _ (show 1 ≠ 14 by decide), k_uc_s, pu_bK hBd, k_bds, k_lts, k_ckp (Or.inl rfl), k_lts, k_lts] at hX
      refine Or.inr ⟨_, M, hX.symm, hY.symm.trans e2, ?_, ?_, ?_, pu_mg_tr (pu_mg_mf hmf) hmg⟩
      · rw [pu_uc _ _ (show 1 ≠ 14 by decide), pu_uc _ _ (show 1 ≠ 14 by decide), k_uc_s]
        exact hBd
      · rw [k_uc_s, k_upc _ _ (show 2 ≠ 0 by decide), k_uc_s, k_upc _ _ (show 2 ≠ 15 + L by omega), pu_uc _ _ (show 14 ≠ 1 by decide), k_uc_s, pu_pk_c _ _ _ _ _ _ (show 2 ≠ 15 + L by omega)]
        exact hfl
      · intro k a b
        rw [pu_uc _ _ b, pu_uc _ _ b, pu_uc _ _ a, pu_uc _ _ b, pu_uc _ _ a]
  · obtain ⟨r', m', e1, e2, e3, e4⟩ := pu_failT h h1 h9 (c := 4) (by decide)
    rw [if_neg (by rw [kn_ltl (by omega) (by omega)]; exact c8), e1, k_bds, k_lts] at hX
    rw [if_pos (by rw [kn_lle (by omega) (by omega)]; omega), if_pos rfl, e2, k_bds, k_ckp (Or.inl rfl), k_bds, if_pos rfl] at hY
    exact Or.inr ⟨_, m', hX.symm, hY.symm, by rw [k_uc_s]; exact e3, by rw [pu_uc _ _ (by decide)]; exact hfl, fun k a b => pu_uc _ _ a, pu_mg_mf e4⟩

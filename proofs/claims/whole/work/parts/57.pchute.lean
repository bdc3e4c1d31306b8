/-! a chute read -/
theorem pu_ucc (u : k_U) (k : Nat) (a b : k_M) : k_uc (k_uc u k a) k b = k_uc u k b := by
  funext j
  unfold k_uc
  split <;> rfl
theorem pu_rchute {u : k_U} {m : k_M} {len nx p q t3 tm : Nat} {tp : Int32} (h : pu_Rd (u 1) m len nx) (hp : p ≤ 8) (ht : k_wd t3 = k_wd tm) (hw : (k_wd t3).length < 1000) (K : k_M → Option (k_M × Int32)) :
    (∃ r' M nx2 ar li st he ve, f_X6_readChute u q t3 tp = k_bd (f_X0_pack (u 14) q (kn ar) (kn li) (kn st) (kn he) (kn ve)) (fun w => some (k_uc (k_uc u 1 r') 14 w)) ∧
      (k_bd (f_X11_readChute m (kn p)) fun r29 => (if r29.2 = 0 then some (r29.1, 0) else k_bd (f_X11_takesWord r29.1 tm) fun r39 => (if r39.2 = 0 then some (r39.1, 0) else k_bd (f_X11_takesInto r39.1 (kn (56 + p)) 1 tp) fun r54 => (if r54.2 = 0 then some (r54.1, 0) else K r54.1)))) = K M ∧
      (1 ≤ ar ∧ ar ≤ 99) ∧ (1 ≤ li ∧ li ≤ 12) ∧ (1 ≤ st ∧ st ≤ 9999) ∧ (he ≤ 9999999 ∧ kn he ≤ 30000 ∧ 1 ≤ kn he) ∧ (ve ≤ 9999999 ∧ kn ve ≤ tp ∧ 1 ≤ kn ve) ∧
      (M 2 (20 + p) = kn ar ∧ M 2 (29 + p) = kn li ∧ M 2 (38 + p) = kn st ∧ M 2 (47 + p) = kn he ∧ M 2 (56 + p) = kn ve ∧ M 2 (74 + p) = kmask li 0 ∧ ∀ j, j ≠ 20 + p → j ≠ 29 + p → j ≠ 38 + p → j ≠ 47 + p → j ≠ 56 + p → j ≠ 74 + p → M 2 j = m 2 j) ∧
      pu_Rd r' M len nx2 ∧ nx < nx2 ∧ pu_mg m M) ∨
    (∃ r' M v1 v2 v3 v4 v5, f_X6_readChute u q t3 tp = k_bd (f_X0_pack (u 14) q v1 v2 v3 v4 v5) (fun w => some (k_uc (k_uc u 1 r') 14 w)) ∧
      (k_bd (f_X11_readChute m (kn p)) fun r29 => (if r29.2 = 0 then some (r29.1, 0) else k_bd (f_X11_takesWord r29.1 tm) fun r39 => (if r39.2 = 0 then some (r39.1, 0) else k_bd (f_X11_takesInto r39.1 (kn (56 + p)) 1 tp) fun r54 => (if r54.2 = 0 then some (r54.1, 0) else K r54.1)))) = some (M, 0) ∧
      pu_Bd r' M len ∧ pu_mg m M) := by
  generalize hX : f_X6_readChute u q t3 tp = X
  unfold f_X6_readChute at hX
  generalize hY : (k_bd (f_X11_readChute m (kn p)) fun r29 => (if r29.2 = 0 then some (r29.1, 0) else k_bd (f_X11_takesWord r29.1 tm) fun r39 => (if r39.2 = 0 then some (r39.1, 0) else k_bd (f_X11_takesInto r39.1 (kn (56 + p)) 1 tp) fun r54 => (if r54.2 = 0 then some (r54.1, 0) else K r54.1)))) = Y
  unfold f_X11_readChute at hY
  rw [show (20 : Int32) + kn p = kn (20 + p) from kn_ladd p 20, show (29 : Int32) + kn p = kn (29 + p) from kn_ladd p 29, show (38 : Int32) + kn p = kn (38 + p) from kn_ladd p 38, show (47 : Int32) + kn p = kn (47 + p) from kn_ladd p 47, show (74 : Int32) + kn p = kn (74 + p) from kn_ladd p 74] at hY
  have no : ¬ (1 : Int32) = 0 := by decide
  rcases pu_into h (i := 20 + p) (by omega) 1 99 with ⟨r1, m1, x1, v1, a1, b1, c1, d1, e1, f1, g1, k1, l1⟩ | ⟨r', M, a, b, c, d⟩
  rotate_left
  · rw [a, k_bds, k_lts, k_uc_s, pu_bN c, k_bds, k_lts, pu_ucc, k_uc_s, pu_bN c, k_bds, k_lts, pu_ucc, k_uc_s, pu_bW c (by decide), k_bds, k_lts, pu_ucc, k_uc_s, pu_bN c, k_bds, k_lts, pu_ucc, k_uc_s, pu_bW c hw, k_bds, k_lts, pu_ucc, k_uc_s, pu_bN c, k_bds, k_lts, pu_ucc] at hX
    rw [b, k_bds, if_pos rfl, k_bds, if_pos rfl] at hY
    refine Or.inr ⟨r', M, 0, 0, 0, 0, 0, ?_, hY.symm, c, pu_mg_mf d⟩
    rw [← hX]
    rw [pu_uc _ _ (show 14 ≠ 1 by decide)]
    rfl
  rw [a1, k_bds, k_lts, k_uc_s] at hX
  rw [b1, k_bds, if_neg no] at hY
  dsimp only at hY
  have mg1 : pu_mg m (k_up m1 2 (20 + p) (kn v1)) := (pu_mg_tr (pu_mg_mf k1) (pu_mg_up _ _ _))
  have row1 : ∀ j, j ≠ 20 + p → (k_up m1 2 (20 + p) (kn v1)) 2 j = m 2 j := fun j hj => by rw [k_upi _ _ hj, k1.1 2 (by decide)]
  rcases pu_into f1 (i := 29 + p) (by omega) 1 12 with ⟨r2, m2, x2, v2, a2, b2, c2, d2, e2, f2, g2, k2, l2⟩ | ⟨r', M, a, b, c, d⟩
  rotate_left
  · rw [a, k_bds, k_lts, pu_ucc, k_uc_s, pu_bN c, k_bds, k_lts, pu_ucc, k_uc_s, pu_bW c (by decide), k_bds, k_lts, pu_ucc, k_uc_s, pu_bN c, k_bds, k_lts, pu_ucc, k_uc_s, pu_bW c hw, k_bds, k_lts, pu_ucc, k_uc_s, pu_bN c, k_bds, k_lts, pu_ucc] at hX
    rw [b, k_bds, if_pos rfl, k_bds, if_pos rfl] at hY
    refine Or.inr ⟨r', M, kn v1, 0, 0, 0, 0, ?_, hY.symm, c, pu_mg_tr mg1 (pu_mg_mf d)⟩
    rw [← hX]
    rw [pu_uc _ _ (show 14 ≠ 1 by decide)]
    rfl
  rw [a2, k_bds, k_lts, pu_ucc, k_uc_s] at hX
  rw [b2, k_bds, if_neg no] at hY
  dsimp only at hY
  have mg2 : pu_mg m (k_up m2 2 (29 + p) (kn v2)) := pu_mg_tr mg1 (pu_mg_tr (pu_mg_mf k2) (pu_mg_up _ _ _))
  have row2 : ∀ j, j ≠ 29 + p → (k_up m2 2 (29 + p) (kn v2)) 2 j = (k_up m1 2 (20 + p) (kn v1)) 2 j := fun j hj => by rw [k_upi _ _ hj, k2.1 2 (by decide)]
  rcases pu_into f2 (i := 38 + p) (by omega) 1 9999 with ⟨r3, m3, x3, v3, a3, b3, c3, d3, e3, f3, g3, k3, l3⟩ | ⟨r', M, a, b, c, d⟩
  rotate_left
  · rw [a, k_bds, k_lts, pu_ucc, k_uc_s, pu_bW c (by decide), k_bds, k_lts, pu_ucc, k_uc_s, pu_bN c, k_bds, k_lts, pu_ucc, k_uc_s, pu_bW c hw, k_bds, k_lts, pu_ucc, k_uc_s, pu_bN c, k_bds, k_lts, pu_ucc] at hX
    rw [b, k_bds, if_pos rfl, k_bds, if_pos rfl] at hY
    refine Or.inr ⟨r', M, kn v1, kn v2, 0, 0, 0, ?_, hY.symm, c, pu_mg_tr mg2 (pu_mg_mf d)⟩
    rw [← hX]
    rw [pu_uc _ _ (show 14 ≠ 1 by decide)]
    rfl
  rw [a3, k_bds, k_lts, pu_ucc, k_uc_s] at hX
  rw [b3, k_bds, if_neg no] at hY
  dsimp only at hY
  have mg3 : pu_mg m (k_up m3 2 (38 + p) (kn v3)) := pu_mg_tr mg2 (pu_mg_tr (pu_mg_mf k3) (pu_mg_up _ _ _))
  have row3 : ∀ j, j ≠ 38 + p → (k_up m3 2 (38 + p) (kn v3)) 2 j = (k_up m2 2 (29 + p) (kn v2)) 2 j := fun j hj => by rw [k_upi _ _ hj, k3.1 2 (by decide)]
  rcases pu_takeW (t := 10) (t' := 17) f3 rfl (by decide) with ⟨r4, m4, x4, a4, b4, f4, g4, k4⟩ | ⟨r', M, a, b, c, d⟩
  rotate_left
  · rw [a, k_bds, k_lts, pu_ucc, k_uc_s, pu_bN c, k_bds, k_lts, pu_ucc, k_uc_s, pu_bW c hw, k_bds, k_lts, pu_ucc, k_uc_s, pu_bN c, k_bds, k_lts, pu_ucc] at hX
    rw [b, k_bds, if_pos rfl, k_bds, if_pos rfl] at hY
    refine Or.inr ⟨r', M, kn v1, kn v2, kn v3, 0, 0, ?_, hY.symm, c, pu_mg_tr mg3 (pu_mg_mf d)⟩
    rw [← hX]
    rw [pu_uc _ _ (show 14 ≠ 1 by decide)]
    rfl
  rw [a4, k_bds, k_lts, pu_ucc, k_uc_s] at hX
  rw [b4, k_bds, if_neg no] at hY
  dsimp only at hY
  have mg4 : pu_mg m m4 := pu_mg_tr mg3 (pu_mg_mf k4)
  have row4 : ∀ j, m4 2 j = (k_up m3 2 (38 + p) (kn v3)) 2 j := fun j => by rw [k4.1 2 (by decide)]
  rcases pu_into f4 (i := 47 + p) (by omega) 1 30000 with ⟨r5, m5, x5, v5, a5, b5, c5, d5, e5, f5, g5, k5, l5⟩ | ⟨r', M, a, b, c, d⟩
  rotate_left
  · rw [a, k_bds, k_lts, pu_ucc, k_uc_s, pu_bW c hw, k_bds, k_lts, pu_ucc, k_uc_s, pu_bN c, k_bds, k_lts, pu_ucc] at hX
    rw [b, k_bds, if_pos rfl, k_bds, if_pos rfl] at hY
    refine Or.inr ⟨r', M, kn v1, kn v2, kn v3, 0, 0, ?_, hY.symm, c, pu_mg_tr mg4 (pu_mg_mf d)⟩
    rw [← hX]
    rw [pu_uc _ _ (show 14 ≠ 1 by decide)]
    rfl
  rw [a5, k_bds, k_lts, pu_ucc, k_uc_s] at hX
  rw [b5, k_bds, if_neg no] at hY
  dsimp only at hY
  have mg5 : pu_mg m (k_up m5 2 (47 + p) (kn v5)) := pu_mg_tr mg4 (pu_mg_tr (pu_mg_mf k5) (pu_mg_up _ _ _))
  have row5 : ∀ j, j ≠ 47 + p → (k_up m5 2 (47 + p) (kn v5)) 2 j = m4 2 j := fun j hj => by rw [k_upi _ _ hj, k5.1 2 (by decide)]
  have li5 : (k_up m5 2 (47 + p) (kn v5)) 2 (29 + p) = kn v2 := by rw [row5 _ (by omega), row4, row3 _ (by omega), k_ups]
  have lib : v2 < 13 := by
    have := e2
    rw [show (12 : Int32) = kn 12 from rfl, kn_le (by omega) (by omega)] at this
    omega
  rw [k_ckn (by omega) (by decide), k_ckn (by omega) (by decide), kn_nat (by omega), kn_nat (by omega), li5, kmask_new v2 lib, k_lts, k_bds, if_neg no] at hY
  dsimp only at hY
  have f5' : pu_Rd r5 (k_up (k_up m5 2 (47 + p) (kn v5)) 2 (74 + p) (kmask v2 0)) len x5 := pu_Rd2 f5 (k_upc _ _ (by decide)) (k_upc _ _ (by decide))
  have mg5' : pu_mg m (k_up (k_up m5 2 (47 + p) (kn v5)) 2 (74 + p) (kmask v2 0)) := pu_mg_tr mg5 (pu_mg_up _ _ _)
  have row5' : ∀ j, j ≠ 74 + p → (k_up (k_up m5 2 (47 + p) (kn v5)) 2 (74 + p) (kmask v2 0)) 2 j = (k_up m5 2 (47 + p) (kn v5)) 2 j := fun j hj => k_upi _ _ hj
  have mg5 := mg5'
  rcases pu_takeW (t := t3) (t' := tm) f5' ht hw with ⟨r6, m6, x6, a6, b6, f6, g6, k6⟩ | ⟨r', M, a, b, c, d⟩
  rotate_left
  · rw [a, k_bds, k_lts, pu_ucc, k_uc_s, pu_bN c, k_bds, k_lts, pu_ucc] at hX
    rw [b, k_bds, if_pos rfl] at hY
    refine Or.inr ⟨r', M, kn v1, kn v2, kn v3, kn v5, 0, ?_, hY.symm, c, pu_mg_tr mg5 (pu_mg_mf d)⟩
    rw [← hX]
    rw [pu_uc _ _ (show 14 ≠ 1 by decide)]
    rfl
  rw [a6, k_bds, k_lts, pu_ucc, k_uc_s] at hX
  rw [b6, k_bds, if_neg no] at hY
  dsimp only at hY
  have mg6 : pu_mg m m6 := pu_mg_tr mg5 (pu_mg_mf k6)
  have row6 : ∀ j, m6 2 j = (k_up (k_up m5 2 (47 + p) (kn v5)) 2 (74 + p) (kmask v2 0)) 2 j := fun j => by rw [k6.1 2 (by decide)]
  rcases pu_into f6 (i := 56 + p) (by omega) 1 tp with ⟨r7, m7, x7, v7, a7, b7, c7, d7, e7, f7, g7, k7, l7⟩ | ⟨r', M, a, b, c, d⟩
  rotate_left
  · rw [a, k_bds, k_lts, pu_ucc] at hX
    rw [b, k_bds, if_pos rfl] at hY
    refine Or.inr ⟨r', M, kn v1, kn v2, kn v3, kn v5, 0, ?_, hY.symm, c, pu_mg_tr mg6 (pu_mg_mf d)⟩
    rw [← hX]
    rw [pu_uc _ _ (show 14 ≠ 1 by decide)]
    rfl
  rw [a7, k_bds, k_lts, pu_ucc] at hX
  rw [b7, k_bds, if_neg no] at hY
  dsimp only at hY
  have mg7 : pu_mg m (k_up m7 2 (56 + p) (kn v7)) := pu_mg_tr mg6 (pu_mg_tr (pu_mg_mf k7) (pu_mg_up _ _ _))
  have row7 : ∀ j, j ≠ 56 + p → (k_up m7 2 (56 + p) (kn v7)) 2 j = m6 2 j := fun j hj => by rw [k_upi _ _ hj, k7.1 2 (by decide)]
  rw [pu_uc _ _ (show 14 ≠ 1 by decide)] at hX
  have nb : ∀ {v : Nat} {b : Nat}, v ≤ 9999999 → b < 100000 → 1 ≤ kn v → kn v ≤ kn b → 1 ≤ v ∧ v ≤ b := fun h1 h2 h3 h4 => by
    rw [show (1 : Int32) = kn 1 from rfl, kn_le (by omega) (by omega)] at h3
    rw [kn_le (by omega) (by omega)] at h4
    exact ⟨h3, h4⟩
  refine Or.inl ⟨r7, _, x7, v1, v2, v3, v5, v7, hX.symm, hY.symm, nb c1 (by omega) d1 e1, nb c2 (by omega) d2 e2, nb c3 (by omega) d3 e3, ⟨c5, e5, d5⟩, ⟨c7, e7, d7⟩, ⟨?_, ?_, ?_, ?_, k_ups _ _ _ _, ?_, fun j h20 h29 h38 h47 h56 h74 => ?_⟩, f7, by omega, mg7⟩
  · rw [row7 _ (by omega), row6, row5' _ (by omega), row5 _ (by omega), row4, row3 _ (by omega), row2 _ (by omega), k_ups]
  · rw [row7 _ (by omega), row6, row5' _ (by omega), row5 _ (by omega), row4, row3 _ (by omega), k_ups]
  · rw [row7 _ (by omega), row6, row5' _ (by omega), row5 _ (by omega), row4, k_ups]
  · rw [row7 _ (by omega), row6, row5' _ (by omega), k_ups]
  · rw [row7 _ (by omega), row6, k_ups]
  · rw [row7 _ h56, row6, row5' _ h74, row5 _ h47, row4, row3 _ h38, row2 _ h29, row1 _ h20]

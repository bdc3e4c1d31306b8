/-! one statement of a setup -/
theorem pu_Re_u {u : k_U} {m : k_M} {len nx : Nat} {r : k_M} {X : Option k_U} {Y : Option (k_M × Int32)} (h : pu_Re (k_uc u 1 r) m len nx X Y) : pu_Re u m len nx X Y := by
  rcases h with ⟨u', m', nx2, L', a1, a2, a3, a4, a5, a6, a7⟩ | ⟨u', m', a1, a2, a3, a4, a5, a6⟩
  · exact Or.inl ⟨u', m', nx2, L', a1, a2, a3, a4, a5, fun k x y => by rw [a6 k x y, pu_uc _ _ x], a7⟩
  · exact Or.inr ⟨u', m', a1, a2, a3, a4, fun k x y => by rw [a5 k x y, pu_uc _ _ x], a6⟩
theorem pu_Re_b {u : k_U} {m : k_M} {len nx : Nat} {X : Option k_U} {Y : Option (k_M × Int32)} (h : pu_Re u m len nx X Y) : pu_Re u m len nx (k_bd X fun r => some r) (k_bd Y fun r => k_ck (r.2 = 0 ∨ r.2 = 1) (some (r.1, r.2))) := by
  rcases h with ⟨u', m', nx2, L', a1, a2, a3, a4, a5, a6, a7⟩ | ⟨u', m', a1, a2, a3, a4, a5, a6⟩
  · refine Or.inl ⟨u', m', nx2, L', by rw [a1, k_bds], ?_, a3, a4, a5, a6, a7⟩
    rw [a2, k_bds]
    exact k_ckp (Or.inr rfl)
  · refine Or.inr ⟨u', m', by rw [a1, k_bds], ?_, a3, a4, a5, a6⟩
    rw [a2, k_bds]
    exact k_ckp (Or.inl rfl)
theorem pu_ue (u : k_U) (k : Nat) : k_uc u k (u k) = u := by
  funext j
  unfold k_uc
  split
  · next h => rw [h]
  · rfl
theorem pu_stmt {u : k_U} {m : k_M} {len nx L : Nat} (h : pu_Rd (u 1) m len nx) (hD : pu_Dr L (u 14) (m 2)) : pu_Re u m len nx (f_X6_readStatement u) (f_X11_readStatement m) := by
  have no : ¬ (1 : Int32) = 0 := by decide
  have hfl := hD.1.2.1.2.2
  generalize hX : f_X6_readStatement u = X
  unfold f_X6_readStatement at hX
  generalize hY : f_X11_readStatement m = Y
  unfold f_X11_readStatement at hY
  have dD : ∀ r' : k_M, pu_Dr L (k_uc u 1 r' 14) (m 2) := fun r' => by
    rw [pu_uc _ _ (show 14 ≠ 1 by decide)]
    exact hD
  have dR : ∀ (r' m' : k_M) (nx2 : Nat), pu_Rd r' m' len nx2 → pu_Rd (k_uc u 1 r' 1) m' len nx2 := fun r' m' nx2 hr => by
    rw [k_uc_s]
    exact hr
  have d9 : ∀ r' : k_M, r' 0 9 = u 1 0 6 → k_uc u 1 r' 1 0 9 = u 1 0 6 := fun r' hr => by
    rw [k_uc_s]
    exact hr
  rcases pu_skipW h (t := 1) (t' := 21) rfl (by decide) with ⟨a, b⟩ | ⟨r', m', nx2, a, b, c, d, e, f, g⟩
  rotate_left
  · rw [a, k_bds] at hX
    dsimp only at hX
    rw [k_lts, if_neg no] at hX
    rw [b, k_bds, if_neg no] at hY
    rw [← hX, ← hY]
    exact pu_Re_u (pu_Re_b (pu_sLayer h (dR _ _ _ d) c f (d9 _ g) e (dD r')))
  rw [a, k_bds] at hX
  dsimp only at hX
  rw [k_lts, pu_ue, if_pos rfl] at hX
  rw [b, k_bds, if_pos rfl] at hY
  rcases pu_skipW h (t := 2) (t' := 22) rfl (by decide) with ⟨a, b⟩ | ⟨r', m', nx2, a, b, c, d, e, f, g⟩
  rotate_left
  · rw [a, k_bds] at hX
    dsimp only at hX
    rw [k_lts, if_neg no] at hX
    rw [b, k_bds, if_neg no] at hY
    rw [← hX, ← hY]
    exact pu_Re_u (pu_Re_b (pu_sReserve h (dR _ _ _ d) c f (d9 _ g) e (dD r')))
  rw [a, k_bds] at hX
  dsimp only at hX
  rw [k_lts, pu_ue, if_pos rfl] at hX
  rw [b, k_bds, if_pos rfl] at hY
  rcases pu_skipW h (t := 3) (t' := 23) rfl (by decide) with ⟨a, b⟩ | ⟨r', m', nx2, a, b, c, d, e, f, g⟩
  rotate_left
  · rw [a, k_bds] at hX
    dsimp only at hX
    rw [k_lts, if_neg no] at hX
    rw [b, k_bds, if_neg no] at hY
    rw [← hX, ← hY]
    exact pu_Re_u (pu_Re_b (pu_sTarget h (dR _ _ _ d) c f (d9 _ g) e (dD r')))
  rw [a, k_bds] at hX
  dsimp only at hX
  rw [k_lts, pu_ue, if_pos rfl] at hX
  rw [b, k_bds, if_pos rfl] at hY
  rcases pu_skipW h (t := 4) (t' := 24) rfl (by decide) with ⟨a, b⟩ | ⟨r', m', nx2, a, b, c, d, e, f, g⟩
  rotate_left
  · rw [a, k_bds] at hX
    dsimp only at hX
    rw [k_lts, if_neg no] at hX
    rw [b, k_bds, if_neg no] at hY
    rw [← hX, ← hY]
    exact pu_Re_u (pu_Re_b (pu_sWind h (dR _ _ _ d) c f (d9 _ g) e (dD r')))
  rw [a, k_bds] at hX
  dsimp only at hX
  rw [k_lts, pu_ue, if_pos rfl] at hX
  rw [b, k_bds, if_pos rfl] at hY
  rcases pu_skipW h (t := 5) (t' := 25) rfl (by decide) with ⟨a, b⟩ | ⟨r', m', nx2, a, b, c, d, e, f, g⟩
  rotate_left
  · rw [a, k_bds] at hX
    dsimp only at hX
    rw [k_lts, if_neg no] at hX
    rw [b, k_bds, if_neg no] at hY
    rw [← hX, ← hY]
    exact pu_Re_u (pu_Re_b (pu_sSpot h (dR _ _ _ d) c f (d9 _ g) e (dD r')))
  rw [a, k_bds] at hX
  dsimp only at hX
  rw [k_lts, pu_ue, if_pos rfl] at hX
  rw [b, k_bds, if_pos rfl] at hY
  unfold f_X11_takesWord f_X11_goesOn at hY
  rcases pu_skipW h (t := 6) (t' := 26) rfl (by decide) with ⟨a, b⟩ | ⟨r', m', nx2, a, b, c, d, e, f, g⟩
  rotate_left
  · rw [a, k_bds] at hX
    dsimp only at hX
    rw [k_lts, if_neg no] at hX
    rw [b, k_bds, if_neg no, c, k_bds, k_bds, k_ckp (Or.inr rfl), k_bds, if_neg no] at hY
    dsimp only at hY
    rw [← hX, ← hY]
    exact pu_Re_u (pu_sCool (dR _ _ _ d) f e (dD r'))
  rw [a, k_bds] at hX
  dsimp only at hX
  rw [k_lts, pu_ue, if_pos rfl] at hX
  obtain ⟨r', m', e1, e2, e3, e4⟩ := pu_fail h (c := 1) (by decide)
  rw [b, k_bds, if_pos rfl, e2, k_bds, k_ckp (Or.inl rfl), k_bds, k_ckp (Or.inl rfl), k_bds, if_pos rfl] at hY
  unfold f_X4_failHere at hX
  rw [e1, k_bds, k_bds, k_lts] at hX
  refine Or.inr ⟨_, m', hX.symm, hY.symm, ?_, ?_, fun k x y => pu_uc _ _ x, pu_mg_mf e4⟩
  · rw [k_uc_s]
    exact e3
  · rw [pu_uc _ _ (show 14 ≠ 1 by decide)]
    exact hfl

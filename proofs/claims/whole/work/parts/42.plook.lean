/-! foretelling: the class in a scratch world, the reference in its own, put aside before and brought back behind -/
theorem pu_passW {L : Nat} {w m : k_M} (hW : pu_W L w (m 1)) {goal : Int32} (hg : 0 ≤ goal) {n : Nat} (hn : n ≤ 3000) : ∃ w' m' v, f_X9_passUntil w goal (kn n) = some (w', v) ∧ f_X11_seconds m (kn n) goal = some (m', v) ∧ pu_W L w' (m' 1) ∧ (∀ c, c ≠ 1 → m' c = m c) ∧ pu_kp w w' := by
  obtain ⟨w', m', j, s1, s2, s3, s4, -, -, s5⟩ := pu_seconds hg n 0 k_N k_N w m (by omega) (by unfold k_N; omega) (by unfold k_N; omega) hW
  rw [Nat.zero_add] at s1 s2
  exact ⟨w', m', kn j, s1, s2, s3, s4, s5⟩
theorem pu_look {u : k_U} (h : pu_P u) : ∃ L w1 m1, f_X9_copyFrom (u 11) (u 10) = some w1 ∧ f_X11_looks (u 5) = some m1 ∧ pu_W L w1 (m1 1) ∧ pu_W L (u 10) (u 5 1) ∧ (∀ j, j < 268 → m1 3 j = u 5 1 j) ∧ (∀ c, c ≠ 3 → m1 c = k_up (u 5) 0 0 0 c) := by
  obtain ⟨⟨L, hW⟩, -⟩ := id h
  obtain ⟨w1, cp, sm⟩ := pu_copyOk (w := u 11) hW
  obtain ⟨m1, e1, e2, e3⟩ := pu_rows (q0 := 1) (N0 := 268) (q2 := 3) (N2 := 268) (a := 0) (b := 0) (w := k_up (u 5) 0 0 0) (by decide) pu_n268 pu_n268 (by omega) (by omega) (by decide) (by decide)
  refine ⟨L, w1, m1, cp, ?_, ?_, hW, fun j hj => ?_, e2⟩
  · unfold f_X11_looks
    have e1' : f_X11_copies (k_up (u 5) 0 0 0) 1 268 0 3 268 0 = some m1 := e1
    rw [k_lts, e1', k_bds]
  · rw [e2 1 (by decide), k_upc _ _ (by decide)]
    exact pu_W_same hW sm (fun _ _ => rfl)
  · rw [e3, if_pos (by omega), k_upc _ _ (by decide), Nat.zero_add, Nat.sub_zero]
theorem pu_back (m : k_M) (a : Int32) : ∃ m', f_X11_back m a = some (m', a) ∧ (∀ c, c ≠ 1 → m' c = m c) ∧ (∀ j, j < 268 → m' 1 j = m 3 j) := by
  obtain ⟨m1, e1, e2, e3⟩ := pu_rows (q0 := 3) (N0 := 268) (q2 := 1) (N2 := 268) (a := 0) (b := 0) (w := m) (by decide) pu_n268 pu_n268 (by omega) (by omega) (by decide) (by decide)
  refine ⟨m1, ?_, e2, fun j hj => ?_⟩
  · unfold f_X11_back
    have e1' : f_X11_copies m 3 268 0 1 268 0 = some m1 := e1
    rw [e1', k_bds]
  · rw [e3, if_pos (by omega), Nat.zero_add, Nat.sub_zero]
theorem pu_R_look {u u1 : k_U} {m' : k_M} (h : pu_P u) (hu : ∀ k, k ≠ 11 → u1 k = u k) (hm : ∀ c, c ≠ 0 → c ≠ 1 → c ≠ 3 → m' c = u 5 c) (hm0 : ∀ i, i ≠ 0 → m' 0 i = u 5 0 i) (hm1 : ∀ j, j < 268 → m' 1 j = u 5 1 j) : pu_R u1 m' := by
  obtain ⟨⟨L, hW⟩, -⟩ := id h
  refine pu_R_congr h ⟨L, ?_⟩ ?_ (hu 1 (by decide)) (hu 3 (by decide)) (hu 4 (by decide)) ⟨hu 12 (by decide), hu 13 (by decide)⟩ ?_ (fun k a b => hu k (by omega)) (fun i a _ _ _ _ _ _ _ _ => hm0 i a) (fun c hc => hm c (by omega) (by omega) (by omega))
  · rw [hu 10 (by decide)]
    exact pu_W_s hW hm1
  · rw [hu 0 (by decide)]
    exact ⟨rfl, rfl⟩
  · rw [hu 14 (by decide)]
    exact h.2.2.2.2.2.2.2
/-- behind a look: what the reference changed, brought back -/
theorem pu_R_backd {u u1 : k_U} {m1 m2 m' : k_M} (h : pu_P u) (hu : ∀ k, k ≠ 11 → u1 k = u k) (l3 : ∀ j, j < 268 → m1 3 j = u 5 1 j) (lc : ∀ c, c ≠ 3 → m1 c = k_up (u 5) 0 0 0 c) (h2 : ∀ c, c ≠ 0 → c ≠ 1 → m2 c = m1 c) (h20 : ∀ i, i ≠ 0 → m2 0 i = m1 0 i) (b1 : ∀ c, c ≠ 1 → m' c = m2 c) (b2 : ∀ j, j < 268 → m' 1 j = m2 3 j) : pu_R u1 m' :=
  pu_R_look h hu (fun c a b d => by rw [b1 c b, h2 c a b, lc c d, k_upc _ _ a]) (fun i hi => by rw [b1 0 (by decide), h20 i hi, lc 0 (by decide), k_upi _ _ hi]) (fun j hj => by rw [b2 j hj, h2 3 (by decide) (by decide), l3 j hj])
/-- the fall to the ground, foretold -/
theorem pu_fore {u : k_U} (h : pu_P u) : ∃ L w2 m1 m2 v, f_X10_foretellLanding u = some (k_uc u 11 w2, v) ∧ f_X11_looks (u 5) = some m1 ∧ f_X11_seconds m1 3000 0 = some (m2, v) ∧ pu_W L w2 (m2 1) ∧ (∀ j, j < 268 → m1 3 j = u 5 1 j) ∧ (∀ c, c ≠ 3 → m1 c = k_up (u 5) 0 0 0 c) ∧ (∀ c, c ≠ 1 → m2 c = m1 c) := by
  obtain ⟨L, w1, m1, c1, c2, c3, -, c5, c6⟩ := pu_look h
  obtain ⟨w2, m2, v, p1, p2, p3, p4, -⟩ := pu_passW c3 (goal := 0) (by decide) (n := 3000) (by omega)
  refine ⟨L, w2, m1, m2, v, ?_, c2, p2, p3, c5, c6, p4⟩
  unfold f_X10_foretellLanding
  have p1' : f_X9_passUntil w1 0 3000 = some (w2, v) := p1
  rw [c1, k_bds, k_lts, k_uc_s, p1', k_bds, k_lts]
  refine congrArg (fun z => some (z, v)) ?_
  funext k
  unfold k_uc
  split <;> rfl
theorem pu_c21 {u : k_U} (h : pu_P u) (x1 x2 x3 x4 x5 : Int32) : ∃ u', kLsel 21 u x1 x2 x3 x4 x5 = some u' ∧ pu_P u' := by
  obtain ⟨L, w2, m1, m2, v, f1, f2, f3, hW, l3, lc, lm⟩ := pu_fore h
  have hu : ∀ k, k ≠ 11 → k_uc u 11 w2 k = u k := fun k hk => pu_uc _ _ hk
  have hX : f_X10_landIn u = some (k_uc u 11 w2, if w2 0 0 = 0 then v else -1) := by
    unfold f_X10_landIn
    rw [f1, k_bds]
    dsimp only
    rw [k_uc_s, pu_landed, k_bds]
    by_cases c : w2 0 0 = 0
    · rw [if_pos c, if_pos c, if_neg (by decide)]
    · rw [if_neg c, if_neg c, if_pos rfl]
  obtain ⟨m', b1, b2, b3⟩ := pu_back m2 (if w2 0 0 = 0 then v else -1)
  refine pu_okr (x := f_X10_landIn u) (F := f_X11_landIn) (q := m') hX ?_ (pu_R_backd h hu l3 lc (fun c _ b => lm c b) (fun i _ => by rw [lm 0 (by decide)]) b2 b3)
  rw [hu 5 (by decide)]
  unfold f_X11_landIn f_X11_landIn_28
  rw [f2, k_bds, f3, k_bds]
  rw [show ((m2, v).1 : k_M) = m2 from rfl, (pu_rel01 hW).1]
  by_cases c : w2 0 0 = 0
  · rw [if_pos c] at b1
    rw [if_pos c, if_pos c, b1, k_bds]
  · rw [if_neg c] at b1
    rw [if_neg c, if_neg c, b1, k_bds]
theorem pu_lands {L : Nat} {w2 m1 m2 : k_M} {v : Int32} (f3 : f_X11_seconds m1 3000 0 = some (m2, v)) (hW : pu_W L w2 (m2 1)) : f_X11_lands m1 = some (m2, if w2 0 0 = 0 then 1 else 0) := by
  unfold f_X11_lands
  rw [f3, k_bds]
  rw [show ((m2, v).1 : k_M) = m2 from rfl, (pu_rel01 hW).1]
  by_cases c : w2 0 0 = 0
  · rw [if_pos c, if_pos c]
  · rw [if_neg c, if_neg c]
theorem pu_c22 {u : k_U} (h : pu_P u) (x1 x2 x3 x4 x5 : Int32) : ∃ u', kLsel 22 u x1 x2 x3 x4 x5 = some u' ∧ pu_P u' := by
  show ∃ u', (k_bd (k_wrap [3] (f_X10_landAt u)) fun r => k_bd (f_X11_landAt (r.1 5)) fun q => kLck r q) = some u' ∧ _
  obtain ⟨L, w2, m1, m2, v, f1, f2, f3, hW, l3, lc, lm⟩ := pu_fore h
  have hu : ∀ k, k ≠ 11 → k_uc u 11 w2 k = u k := fun k hk => pu_uc _ _ hk
  have h00 : m2 0 0 = 0 := by rw [lm 0 (by decide), lc 0 (by decide), k_ups]
  have f22 : m2 1 2 = w2 0 2 := (pu_F0 hW).1.2.2.1
  by_cases c : w2 0 0 = 0
  · obtain ⟨m', b1, b2, b3⟩ := pu_back m2 (w2 0 2)
    refine pu_okw (F := f_X11_landAt) (u' := k_uc u 11 w2) (v := w2 0 2) (q := m') ?_ ?_ (by rw [b2 0 (by decide), h00]) (pu_R_backd h hu l3 lc (fun c _ b => lm c b) (fun i _ => by rw [lm 0 (by decide)]) b2 b3)
    · unfold f_X10_landAt
      rw [f1, k_bds]
      dsimp only
      rw [k_uc_s, pu_landed, k_bds, if_pos c, if_neg (by decide)]
    · rw [hu 5 (by decide)]
      unfold f_X11_landAt f_X11_landAt_26 f_X11_landAt_41
      rw [f2, k_bds, pu_lands f3 hW, k_bds, k_lts, if_pos c]
      dsimp only
      rw [if_neg (by decide), pu_thr0 h00, k_bds, if_neg (by decide), f22, b1, k_bds]
  · obtain ⟨m', b1, b2, b3⟩ := pu_back (k_up m2 0 0 1) 0
    refine pu_erw (F := f_X11_landAt) (u' := k_uc u 11 w2) (j := 3) (v := 0) (q := m') ?_ (by decide) ?_ (by rw [b2 0 (by decide), k_ups]; rfl) (by decide) (pu_R_backd h hu l3 lc (fun c a b => by rw [k_upc _ _ a]; exact lm c b) (fun i hi => by rw [k_upi _ _ hi, lm 0 (by decide)]) b2 b3)
    · unfold f_X10_landAt
      rw [f1, k_bds]
      dsimp only
      rw [k_uc_s, pu_landed, k_bds, if_neg c, if_pos rfl]
    · rw [hu 5 (by decide)]
      unfold f_X11_landAt f_X11_landAt_26 f_X11_landAt_41
      rw [f2, k_bds, pu_lands f3 hW, k_bds, k_lts, if_neg c]
      dsimp only
      rw [if_pos rfl, pu_thr1 h00 (Or.inl rfl), k_bds, if_pos rfl, b1, k_bds]
theorem pu_c23 {u : k_U} (h : pu_P u) (x1 x2 x3 x4 x5 : Int32) : ∃ u', kLsel 23 u x1 x2 x3 x4 x5 = some u' ∧ pu_P u' := by
  obtain ⟨L, w2, m1, m2, v, f1, f2, f3, hW, l3, lc, lm⟩ := pu_fore h
  have hu : ∀ k, k ≠ 11 → k_uc u 11 w2 k = u k := fun k hk => pu_uc _ _ hk
  have hX : f_X10_landSpeed u = some (k_uc u 11 w2, if w2 0 0 = 0 then w2 0 1 else -1) := by
    unfold f_X10_landSpeed
    rw [f1, k_bds]
    dsimp only
    rw [k_uc_s, pu_landed, k_bds]
    by_cases c : w2 0 0 = 0
    · rw [if_pos c, if_pos c, if_neg (by decide)]
    · rw [if_neg c, if_neg c, if_pos rfl]
  obtain ⟨m', b1, b2, b3⟩ := pu_back m2 (if w2 0 0 = 0 then w2 0 1 else -1)
  refine pu_okr (x := f_X10_landSpeed u) (F := f_X11_landSpeed) (q := m') hX ?_ (pu_R_backd h hu l3 lc (fun c _ b => lm c b) (fun i _ => by rw [lm 0 (by decide)]) b2 b3)
  rw [hu 5 (by decide)]
  unfold f_X11_landSpeed f_X11_landSpeed_22
  rw [f2, k_bds, pu_lands f3 hW, k_bds]
  by_cases c : w2 0 0 = 0
  · rw [if_pos c] at b1
    rw [if_pos c, if_pos c, if_neg (show ¬ (1 : Int32) = 0 by decide)]
    rw [show ((m2, (1 : Int32)).1 : k_M) = m2 from rfl, (pu_rel01 hW).2, b1, k_bds]
  · rw [if_neg c] at b1
    rw [if_neg c, if_neg c, if_pos rfl]
    rw [show ((m2, (0 : Int32)).1 : k_M) = m2 from rfl, b1, k_bds]
theorem pu_resultW {L : Nat} {w m : k_M} (hW : pu_W L w (m 1)) : ∃ r, f_X9_landingResult w = some r ∧ f_X11_result m = some r :=
  pu_result hW.2.2.2.2.2.2.2.1 (pu_F0 hW).1.1 (pu_F0 hW).1.2.1 (pu_F0 hW).1.2.2.1 (pu_pos0 hW)
theorem pu_c24 {u : k_U} (h : pu_P u) (x1 x2 x3 x4 x5 : Int32) : ∃ u', kLsel 24 u x1 x2 x3 x4 x5 = some u' ∧ pu_P u' := by
  obtain ⟨L, w2, m1, m2, v, f1, f2, f3, hW, l3, lc, lm⟩ := pu_fore h
  have hu : ∀ k, k ≠ 11 → k_uc u 11 w2 k = u k := fun k hk => pu_uc _ _ hk
  obtain ⟨r, r1, r2⟩ := pu_resultW hW
  have hX : f_X10_landResult u = some (k_uc u 11 w2, if w2 0 0 = 0 then r else -1) := by
    unfold f_X10_landResult
    rw [f1, k_bds]
    dsimp only
    rw [k_uc_s, pu_landed, k_bds]
    by_cases c : w2 0 0 = 0
    · rw [if_pos c, if_pos c, if_neg (by decide), r1, k_bds]
    · rw [if_neg c, if_neg c, if_pos rfl]
  obtain ⟨m', b1, b2, b3⟩ := pu_back m2 (if w2 0 0 = 0 then r else -1)
  refine pu_okr (x := f_X10_landResult u) (F := f_X11_landResult) (q := m') hX ?_ (pu_R_backd h hu l3 lc (fun c _ b => lm c b) (fun i _ => by rw [lm 0 (by decide)]) b2 b3)
  rw [hu 5 (by decide)]
  unfold f_X11_landResult f_X11_landResult_20
  rw [f2, k_bds, pu_lands f3 hW, k_bds]
  by_cases c : w2 0 0 = 0
  · rw [if_pos c] at b1
    rw [if_pos c, if_pos c, if_neg (show ¬ (1 : Int32) = 0 by decide)]
    rw [show ((m2, (1 : Int32)).1 : k_M) = m2 from rfl, r2, k_bds, b1, k_bds]
  · rw [if_neg c] at b1
    rw [if_neg c, if_neg c, if_pos rfl]
    rw [show ((m2, (0 : Int32)).1 : k_M) = m2 from rfl, b1, k_bds]

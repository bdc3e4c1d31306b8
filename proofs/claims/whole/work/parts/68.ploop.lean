/-! the statements of a setup, one behind the other -/
theorem pu_loopB {u : k_U} {m : k_M} {len : Nat} (h : pu_Bd (u 1) m len) (n : Nat) (x : Int32) : f_X6_readSetup_64 (n + 1) u x = some (u, 0) := by
  have no : ¬ (1 : Int32) = 0 := by decide
  have e94 : f_X6_readSetup_94 u = some (u, 0) := by
    unfold f_X6_readSetup_94
    rw [pu_bH h, k_bds, if_neg no]
  show f_X6_readSetup_64_b _ u x = _
  unfold f_X6_readSetup_64_b f_X4_hasMore
  rw [e94, pu_bH h, k_bds, if_neg no, k_bds, if_pos rfl, ite_self]
theorem pu_Rd_le {r m : k_M} {len nx : Nat} (h : pu_Rd r m len nx) : nx ≤ len ∧ len ≤ 600 := by
  obtain ⟨-, hl, ⟨st, nx', k, a1, a2, a3, -⟩, -⟩ := h
  omega
theorem pu_loop {len : Nat} : ∀ (k : Nat) (u : k_U) (m : k_M) (nx L i n n' : Nat), len ≤ nx + k → i < nx → k + 1 < n → k + 1 < n' → pu_Rd (u 1) m len nx → pu_Dr L (u 14) (m 2) →
    (∃ u' m' L' nx', f_X6_readSetup_64 n u (kn i) = some (u', 1) ∧ f_X11_load_74 n' m 1 = f_X11_load_108 m' 1 ∧ pu_Rd (u' 1) m' len nx' ∧ pu_Dr L' (u' 14) (m' 2) ∧ (∀ k, k ≠ 1 → k ≠ 14 → u' k = u k) ∧ pu_mg m m') ∨
    (∃ u' m', f_X6_readSetup_64 n u (kn i) = some (u', 0) ∧ f_X11_load_74 n' m 1 = f_X11_load_108 m' 0 ∧ pu_Bd (u' 1) m' len ∧ (u' 14 2 6 = 0 ∨ u' 14 2 6 = 1) ∧ (∀ k, k ≠ 1 → k ≠ 14 → u' k = u k) ∧ pu_mg m m') := by
  have no : ¬ (1 : Int32) = 0 := by decide
  intro k
  induction k with
  | zero =>
    intro u m nx L i n n' hk hi hn hn' hR hD
    obtain ⟨l1, l2⟩ := pu_Rd_le hR
    obtain ⟨n, rfl⟩ : ∃ n9, n = n9 + 1 := ⟨n - 1, by omega⟩
    obtain ⟨n', rfl⟩ : ∃ n9, n' = n9 + 1 := ⟨n' - 1, by omega⟩
    have hk0 : u 1 0 5 = 0 := by
      obtain ⟨-, hl, ⟨st, nx', k, a1, a2, a3, -, -, -, -, a8, -, -, a11, -⟩, -⟩ := hR
      have : k = 0 := by
        refine Classical.byContradiction fun c => ?_
        have := a11 c
        omega
      rw [a8, this]
      rfl
    have hm0 : m 0 13 = 0 := (pu_tkind hR.2.2.1 (c := 0) (by decide)).mp hk0
    have hf : f_X4_hasFailed (u 1) = some 0 := if_pos hR.2.2.2.1
    refine Or.inl ⟨u, m, L, nx, ?_, ?_, hR, hD, fun _ _ _ => rfl, fun _ _ _ => rfl, fun _ _ => rfl⟩
    · show f_X6_readSetup_64_b _ u (kn i) = _
      unfold f_X6_readSetup_64_b f_X4_hasMore f_X6_readSetup_94
      rw [hf, k_bds, if_pos rfl, k_bds, if_pos rfl, if_pos hk0, k_bds, if_pos rfl, ite_self]
    · show f_X11_load_74_b _ m 1 = _
      unfold f_X11_load_74_b
      rw [if_neg no, if_pos hm0]
  | succ k ih =>
    intro u m nx L i n n' hk hi hn hn' hR hD
    obtain ⟨l1, l2⟩ := pu_Rd_le hR
    obtain ⟨n, rfl⟩ : ∃ n9, n = n9 + 1 + 1 := ⟨n - 2, by omega⟩
    obtain ⟨n', rfl⟩ : ∃ n9, n' = n9 + 1 + 1 := ⟨n' - 2, by omega⟩
    have hf : f_X4_hasFailed (u 1) = some 0 := if_pos hR.2.2.2.1
    have hkm : u 1 0 5 = 0 ↔ m 0 13 = 0 := pu_tkind hR.2.2.1 (c := 0) (by decide)
    generalize hX : f_X6_readSetup_64 (n + 1 + 1) u (kn i) = X
    have hX : f_X6_readSetup_64_b (f_X6_readSetup_64 (n + 1)) u (kn i) = X := hX
    unfold f_X6_readSetup_64_b f_X4_hasMore at hX
    generalize hY : f_X11_load_74 (n' + 1 + 1) m 1 = Y
    have hY : f_X11_load_74_b (f_X11_load_74 (n' + 1)) m 1 = Y := hY
    unfold f_X11_load_74_b f_X11_load_103 f_X11_load_104 at hY
    rw [if_neg (by rw [kn_lle (by omega) (by omega)]; omega), hf, k_bds, if_pos rfl] at hX
    rw [if_neg no] at hY
    have z0 : ∀ m', f_X11_load_74 (n' + 1) m' 0 = f_X11_load_108 m' 0 := fun m' => by
      show f_X11_load_74_b _ m' 0 = _
      unfold f_X11_load_74_b
      rw [if_pos rfl]
    by_cases c0 : u 1 0 5 = 0
    · rw [if_pos c0, k_bds, if_pos rfl] at hX
      unfold f_X6_readSetup_94 at hX
      rw [hf, k_bds, if_pos rfl] at hX
      rw [if_pos (hkm.mp c0)] at hY
      exact Or.inl ⟨u, m, L, nx, hX.symm, hY.symm, hR, hD, fun _ _ _ => rfl, fun _ _ _ => rfl, fun _ _ => rfl⟩
    · rw [if_neg c0, k_bds, if_neg no] at hX
      rw [if_neg (fun e => c0 (hkm.mpr e))] at hY
      rcases pu_stmt hR hD with ⟨u1, m1, nx2, L1, a1, a2, a3, a4, a5, a6, a7⟩ | ⟨u1, m1, a1, a2, a3, a4, a5, a6⟩
      · rw [a1, k_bds] at hX
        rw [a2, k_bds, if_neg no] at hY
        dsimp only at hY
        rcases pu_takeS a3 with ⟨r2, m2, nx3, b1, b2, b3, b4, b5⟩ | ⟨r2, m2, b1, b2, b3, b4⟩
        · rw [b1, k_bds, k_lts, k_lts, show kn i + 1 = kn (i + 1) from kn_addl i 1] at hX
          rw [b2, k_bds, if_neg no] at hY
          dsimp only at hY
          have hk2 : ∀ j, j ≠ 1 → j ≠ 14 → k_uc u1 1 r2 j = u j := fun j x y => by rw [pu_uc _ _ x, a6 j x y]
          have hm2 : pu_mg m m2 := pu_mg_tr a7 (pu_mg_mf b5)
          rcases ih (k_uc u1 1 r2) m2 nx3 L1 (i + 1) (n + 1) (n' + 1) (by omega) (by omega) (by omega) (by omega) (by rw [k_uc_s]; exact b3) (by rw [pu_uc _ _ (show 14 ≠ 1 by decide), b5.1 2 (by decide)]; exact a5) with ⟨u', m', L', nx', c1, c2, c3, c4, c5, c6⟩ | ⟨u', m', c1, c2, c3, c4, c5, c6⟩
          · exact Or.inl ⟨u', m', L', nx', hX.symm.trans c1, hY.symm.trans c2, c3, c4, fun j x y => (c5 j x y).trans (hk2 j x y), pu_mg_tr hm2 c6⟩
          · exact Or.inr ⟨u', m', hX.symm.trans c1, hY.symm.trans c2, c3, c4, fun j x y => (c5 j x y).trans (hk2 j x y), pu_mg_tr hm2 c6⟩
        · rw [b1, k_bds, k_lts, k_lts, pu_loopB (m := m2) (len := len) (by rw [k_uc_s]; exact b3)] at hX
          rw [b2, k_bds, if_pos rfl] at hY
          dsimp only at hY
          rw [z0] at hY
          refine Or.inr ⟨_, m2, hX.symm, hY.symm, by rw [k_uc_s]; exact b3, ?_, fun j x y => by rw [pu_uc _ _ x, a6 j x y], pu_mg_tr a7 (pu_mg_mf b4)⟩
          rw [pu_uc _ _ (show 14 ≠ 1 by decide)]
          exact a5.1.2.1.2.2
      · rw [a1, k_bds, pu_bS a3, k_bds, k_lts, k_lts, pu_ue, pu_loopB a3] at hX
        rw [a2, k_bds, if_pos rfl] at hY
        dsimp only at hY
        rw [z0] at hY
        exact Or.inr ⟨u1, m1, hX.symm, hY.symm, a3, a4, a5, a6⟩

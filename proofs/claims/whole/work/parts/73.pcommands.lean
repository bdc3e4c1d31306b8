/-! a script's reading: command by command -/
theorem pu_Rd_c {r m m' : k_M} {len nx : Nat} (h : pu_Rd r m len nx) (h0 : ∀ i, 10 ≤ i → i ≤ 16 → m' 0 i = m 0 i) (h9 : m' 9 = m 9) : pu_Rd r m' len nx := by
  obtain ⟨hX, hl, hT, h3, h15, h4, h16⟩ := h
  exact ⟨pu_Xl_c hX rfl rfl rfl (h0 10 (by decide) (by decide)) h9, hl, pu_Tk_c hT (fun _ _ => rfl) rfl (fun x hx => h0 x (by omega) (by omega)), h3, by rw [h0 15 (by decide) (by decide), h15], h4, by rw [h0 16 (by decide) (by decide), h16]⟩
def pu_Sc (u : k_U) (m : k_M) (N L nC : Nat) : Prop := N ≤ 40 ∧ u 2 0 2 = kn N ∧ m 0 19 = kn N ∧ ∀ j, j < N → pu_cm L nC (u 2 1 j) (u 2 2 j) (m 18 (2 * j)) (m 18 (2 * j + 1))
theorem pu_command {u : k_U} {m : k_M} {len nx N L : Nat} (h : pu_Rd (u 1) m len nx) (hW : pu_W L (u 10) (m 1)) (hS : pu_Sc u m N L (pu_n L (u 10))) :
    (∃ u' m1 m' nx2, f_X5_readCommand u (kn L) (kn (pu_n L (u 10))) = some u' ∧ f_X11_readCommand m = some (m1, 1) ∧ f_X11_stop m1 = some (m', 1) ∧ pu_Rd (u' 1) m' len nx2 ∧ nx < nx2 ∧ pu_Sc u' m' (N + 1) L (pu_n L (u 10)) ∧ (∀ k, k ≠ 1 → k ≠ 2 → u' k = u k) ∧ pu_mh m m') ∨
    (∃ u' m', f_X5_readCommand u (kn L) (kn (pu_n L (u 10))) = some u' ∧ (f_X11_readCommand m = some (m', 0) ∨ ∃ m1, f_X11_readCommand m = some (m1, 1) ∧ f_X11_stop m1 = some (m', 0)) ∧ pu_Bd (u' 1) m' len ∧ (∀ k, k ≠ 1 → k ≠ 2 → u' k = u k) ∧ pu_mh m m') := by
  have no : ¬ (1 : Int32) = 0 := by decide
  have hL : L ≤ 8 := hW.1.1
  have hnr := pu_n_r (L := L) (w := u 10)
  obtain ⟨hN, s2, s19, hj⟩ := hS
  generalize hnC : pu_n L (u 10) = nC at *
  generalize hX : f_X5_readCommand u (kn L) (kn nC) = X
  unfold f_X5_readCommand at hX
  generalize hY : f_X11_readCommand m = Y
  unfold f_X11_readCommand at hY
  rcases pu_kind h with ⟨kd, r1, m1, nx1, k6, a1, a2, a3, a4, a5, a6, a7⟩ | ⟨r', m', a1, a2, a3, a4, a5⟩
  · rw [a1, k_bds] at hX
    dsimp only at hX
    have hs2 : k_uc u 1 r1 2 0 2 = kn N := by rw [pu_uc _ _ (show 2 ≠ 1 by decide), s2]
    rw [a2, k_bds, if_neg (by rw [kn_neg1 (by omega)]; exact fun h => h), s19] at hY
    by_cases c40 : N < 40
    · rw [if_pos (show k_uc u 1 r1 2 0 2 < 40 by rw [hs2, kn_ltl (by omega) (by omega)]; exact c40)] at hX
      unfold f_X5_readCommand_21 at hX
      rw [if_neg (by rw [kn_lle (by omega) (by omega)]; omega)] at hY
      unfold f_X11_readCommand_32 f_X11_goesOn at hY
      rw [if_neg no, a3, k_bds, k_bds, if_neg no] at hY
      dsimp only at hY
      rw [k_lts] at hY
      have w1 : k_up m1 0 17 0 1 = m 1 := by rw [k_upc _ _ (by decide), a6.1 1 (by decide)]
      have hc : f_X11_chutes (k_up m1 0 17 0) = some (kn nC) := by
        have := pu_chutesM (L := L) (w := u 10) (m := k_up m1 0 17 0) (by rw [w1]; exact hW)
        rw [hnC] at this
        exact this
      rcases pu_arg (u := u) (kd := kd) (L := L) (nC := nC) (pu_Rd17 0 a4) (k_ups _ _ _ _) (by rw [w1]; exact hW.1.2.2) hc hL (by omega) k6 with ⟨r2, m2, nx2, v, b1, b2, b3, b4, b5, b6, b7⟩ | ⟨r2, m2, b1, b2, b3, b4⟩
      · have hY2 := b2.symm.trans hY
        have m19 : m2 0 19 = kn N := by rw [b6.2 19 (by decide), k_upi _ _ (by decide), a6.2 19 (by decide), s19]
        unfold f_X11_readCommand_143 f_X11_readCommand_148 at hY2
        rw [if_neg no, m19, show (2 : Int32) * kn N = kn (2 * N) from kn_lmul N 2, k_ckn (show 2 * N < 80 by omega) (by decide), kn_nat (by omega), k_lts, k_upc _ _ (show 0 ≠ 18 by decide), m19, show (2 : Int32) * kn N = kn (2 * N) from kn_lmul N 2, show kn (2 * N) + 1 = kn (2 * N + 1) from kn_addl _ 1, k_ckn (show 2 * N + 1 < 80 by omega) (by decide), kn_nat (by omega), b3, k_lts, k_upc _ _ (show 0 ≠ 18 by decide), k_upc _ _ (show 0 ≠ 18 by decide), m19, k_lts, show kn N + 1 = kn (N + 1) from kn_addl N 1] at hY2
        have hR3 : pu_Rd r2 (k_up (k_up (k_up m2 18 (2 * N) (kn kd)) 18 (2 * N + 1) v) 0 19 (kn (N + 1))) len nx2 := pu_Rd_c b4 (fun i h1 h2 => by rw [k_upi _ _ (by omega), k_upc _ _ (by decide), k_upc _ _ (by decide)]) (by rw [k_upc _ _ (by decide), k_upc _ _ (by decide), k_upc _ _ (by decide)])
        have mh2 : pu_mh m m2 := pu_mh_tr (pu_mh_mf a6) (pu_mh_tr (pu_mh_mf (pu_mf17 m1 0)) (pu_mh_mf b6))
        have mh3 : pu_mh m (k_up (k_up (k_up m2 18 (2 * N) (kn kd)) 18 (2 * N + 1) v) 0 19 (kn (N + 1))) := pu_mh_tr mh2 ⟨fun c h0 h18 => by rw [k_upc _ _ h0, k_upc _ _ h18, k_upc _ _ h18], fun i hi h19 => by rw [k_upi _ _ h19, k_upc _ _ (by decide), k_upc _ _ (by decide)]⟩
        have m18 : m2 18 = m 18 := by rw [b6.1 18 (by decide), k_upc _ _ (by decide), a6.1 18 (by decide)]
        rw [b1, k_bds] at hX
        dsimp only at hX
        rw [k_uc_s] at hX
        rcases pu_takeS hR3 with ⟨r3, m4, nx3, c1, c2, c3, c4, c5⟩ | ⟨r3, m4, c1, c2, c3, c4⟩
        · have hf : f_X4_hasFailed r3 = some 0 := if_pos c3.2.2.2.1
          rw [c1, k_bds, k_lts, pu_ucc, k_uc_s, hf, k_bds, if_pos rfl, pu_uc _ _ (show 2 ≠ 1 by decide), s2, if_neg (by rw [kn_lle (by omega) (by omega)]; omega), k_ckn c40 (by decide), kn_nat (by omega), k_lts, k_uc_s, k_upc _ _ (show 0 ≠ 1 by decide), s2, k_ckn c40 (by decide), kn_nat (by omega), k_lts, k_uc_s, k_upc _ _ (show 0 ≠ 2 by decide), k_upc _ _ (show 0 ≠ 1 by decide), s2, k_lts, pu_ucc, pu_ucc, show kn N + 1 = kn (N + 1) from kn_addl N 1] at hX
          refine Or.inl ⟨_, _, m4, nx3, hX.symm, hY2.symm, c2, ?_, by omega, ⟨by omega, ?_, ?_, fun j hj2 => ?_⟩, fun k x y => by rw [pu_uc _ _ y, pu_uc _ _ x], pu_mh_tr mh3 (pu_mh_mf c5)⟩
          · rw [pu_uc _ _ (show 1 ≠ 2 by decide), k_uc_s]
            exact c3
          · rw [k_uc_s, k_ups]
          · rw [c5.2 19 (by decide), k_ups]
          · rw [k_uc_s, k_upc _ _ (show 1 ≠ 0 by decide), k_upc _ _ (show 1 ≠ 2 by decide), k_upc _ _ (show 2 ≠ 0 by decide), c5.1 18 (by decide), k_upc _ _ (show 18 ≠ 0 by decide)]
            by_cases cj : j = N
            · subst cj
              rw [k_ups, k_ups, k_upi _ _ (show 2 * j ≠ 2 * j + 1 by omega), k_ups, k_ups]
              exact b7
            · rw [k_upi _ _ cj, k_upi _ _ cj, k_upc _ _ (show 2 ≠ 1 by decide), k_upi _ _ (show 2 * j ≠ 2 * N + 1 by omega), k_upi _ _ (show 2 * j ≠ 2 * N by omega), k_upi _ _ (show 2 * j + 1 ≠ 2 * N + 1 by omega), k_upi _ _ (show 2 * j + 1 ≠ 2 * N by omega), m18]
              exact hj j (by omega)
        · rw [c1, k_bds, k_lts, pu_ucc, k_uc_s, pu_bH c3, k_bds, if_neg no] at hX
          exact Or.inr ⟨_, m4, hX.symm, Or.inr ⟨_, hY2.symm, c2⟩, by rw [k_uc_s]; exact c3, fun k x y => pu_uc _ _ x, pu_mh_tr mh3 (pu_mh_mf c4)⟩
      · have hY2 := b2.symm.trans hY
        rw [b1, k_bds] at hX
        dsimp only at hX
        rw [k_uc_s, pu_bS b3, k_bds, k_lts, pu_ucc, k_uc_s, pu_bH b3, k_bds, if_neg no] at hX
        exact Or.inr ⟨_, m2, hX.symm, Or.inl hY2.symm, by rw [k_uc_s]; exact b3, fun k x y => pu_uc _ _ x, pu_mh_tr (pu_mh_mf a6) (pu_mh_tr (pu_mh_mf (pu_mf17 m1 0)) (pu_mh_mf b4))⟩
    · obtain ⟨r', m', e1, e2, e3, e4⟩ := pu_failT h a4 a7 (c := 4) (by decide)
      rw [if_neg (show ¬ k_uc u 1 r1 2 0 2 < 40 by rw [hs2, kn_ltl (by omega) (by omega)]; exact c40), k_uc_s, e1, k_bds, k_lts, pu_ucc, pu_b21 (m := m') (len := len) (by rw [k_uc_s]; exact e3)] at hX
      rw [if_pos (by rw [kn_lle (by omega) (by omega)]; omega)] at hY
      unfold f_X11_readCommand_32 f_X11_goesOn at hY
      rw [if_pos rfl, e2, k_bds, k_ckp (Or.inl rfl), k_bds, if_pos rfl] at hY
      exact Or.inr ⟨_, m', hX.symm, Or.inl hY.symm, by rw [k_uc_s]; exact e3, fun k x y => pu_uc _ _ x, pu_mh_mf e4⟩
  · rw [a1, k_bds] at hX
    dsimp only at hX
    rw [k_uc_s, pu_bT a4, k_bds, k_lts, pu_ucc, pu_b21 (m := m') (len := len) (by rw [k_uc_s]; exact a4), ite_self] at hX
    rw [a2, k_bds, if_pos rfl, a3, k_bds, k_ckp (Or.inl rfl)] at hY
    exact Or.inr ⟨_, m', hX.symm, Or.inl hY.symm, by rw [k_uc_s]; exact a4, fun k x y => pu_uc _ _ x, pu_mh_mf a5⟩
theorem pu_cmdsB {u : k_U} {m : k_M} {len : Nat} (h : pu_Bd (u 1) m len) (n : Nat) (a b x : Int32) : f_X5_readCommands_12 (n + 1) u a b x = some (u, 0) := by
  have no : ¬ (1 : Int32) = 0 := by decide
  have e94 : f_X5_readCommands_40 u a b = some (u, 0) := by
    unfold f_X5_readCommands_40
    rw [pu_bH h, k_bds, if_neg no]
  show f_X5_readCommands_12_b _ u a b x = _
  unfold f_X5_readCommands_12_b f_X4_hasMore
  rw [e94, pu_bH h, k_bds, if_neg no, k_bds, if_pos rfl, ite_self]
theorem pu_cmds {len L : Nat} : ∀ (k : Nat) (u : k_U) (m : k_M) (nx N i n n' : Nat), len ≤ nx + k → i ≤ nx → k + 1 < n → k + 1 < n' → pu_Rd (u 1) m len nx → pu_W L (u 10) (m 1) → pu_Sc u m N L (pu_n L (u 10)) →
    (∃ u' m' N' nx', f_X5_readCommands_12 n u (kn L) (kn (pu_n L (u 10))) (kn i) = some (u', 1) ∧ f_X11_play_16 n' m 1 = f_X11_play_50 m' 1 ∧ pu_Rd (u' 1) m' len nx' ∧ pu_Sc u' m' N' L (pu_n L (u 10)) ∧ (∀ k, k ≠ 1 → k ≠ 2 → u' k = u k) ∧ pu_mh m m') ∨
    (∃ u' m', f_X5_readCommands_12 n u (kn L) (kn (pu_n L (u 10))) (kn i) = some (u', 0) ∧ f_X11_play_16 n' m 1 = f_X11_play_50 m' 0 ∧ pu_Bd (u' 1) m' len ∧ (∀ k, k ≠ 1 → k ≠ 2 → u' k = u k) ∧ pu_mh m m') := by
  have no : ¬ (1 : Int32) = 0 := by decide
  have fin : ∀ (u : k_U) (m : k_M) (nx N i n n' : Nat), 0 < n → 0 < n' → u 1 0 5 = 0 → pu_Rd (u 1) m len nx → pu_Sc u m N L (pu_n L (u 10)) → (∃ u' m' N' nx', f_X5_readCommands_12 n u (kn L) (kn (pu_n L (u 10))) (kn i) = some (u', 1) ∧ f_X11_play_16 n' m 1 = f_X11_play_50 m' 1 ∧ pu_Rd (u' 1) m' len nx' ∧ pu_Sc u' m' N' L (pu_n L (u 10)) ∧ (∀ k, k ≠ 1 → k ≠ 2 → u' k = u k) ∧ pu_mh m m') := by
    intro u m nx N i n n' hn hn' hk0 hR hS
    obtain ⟨n, rfl⟩ : ∃ n9, n = n9 + 1 := ⟨n - 1, by omega⟩
    obtain ⟨n', rfl⟩ : ∃ n9, n' = n9 + 1 := ⟨n' - 1, by omega⟩
    have hm0 : m 0 13 = 0 := (pu_tkind hR.2.2.1 (c := 0) (by decide)).mp hk0
    have hf : f_X4_hasFailed (u 1) = some 0 := if_pos hR.2.2.2.1
    refine ⟨u, m, N, nx, ?_, ?_, hR, hS, fun _ _ _ => rfl, fun _ _ _ => rfl, fun _ _ _ => rfl⟩
    · show f_X5_readCommands_12_b _ u (kn L) (kn (pu_n L (u 10))) (kn i) = _
      unfold f_X5_readCommands_12_b f_X4_hasMore f_X5_readCommands_40
      rw [hf, k_bds, if_pos rfl, k_bds, if_pos rfl, if_pos hk0, k_bds, if_pos rfl, ite_self]
    · show f_X11_play_16_b _ m 1 = _
      unfold f_X11_play_16_b
      rw [if_neg no, if_pos hm0]
  intro k
  induction k with
  | zero =>
    intro u m nx N i n n' hk hi hn hn' hR hW hS
    refine Or.inl (fin u m nx N i n n' (by omega) (by omega) ?_ hR hS)
    obtain ⟨-, hl, ⟨st, nx', k, a1, a2, a3, -, -, -, -, a8, -, -, a11, -⟩, -⟩ := hR
    have : k = 0 := by
      refine Classical.byContradiction fun c => ?_
      have := a11 c
      omega
    rw [a8, this]
    rfl
  | succ k ih =>
    intro u m nx N i n n' hk hi hn hn' hR hW hS
    by_cases c0 : u 1 0 5 = 0
    · exact Or.inl (fin u m nx N i n n' (by omega) (by omega) c0 hR hS)
    have hlt : nx < len ∧ len ≤ 600 := by
      obtain ⟨-, hl, ⟨st, nx', k, a1, a2, a3, -, -, -, -, a8, -, -, a11, -⟩, -⟩ := hR
      have : ¬ k = 0 := fun e => c0 (by rw [a8, e]; rfl)
      have := a11 this
      omega
    obtain ⟨n, rfl⟩ : ∃ n9, n = n9 + 1 + 1 := ⟨n - 2, by omega⟩
    obtain ⟨n', rfl⟩ : ∃ n9, n' = n9 + 1 + 1 := ⟨n' - 2, by omega⟩
    have hf : f_X4_hasFailed (u 1) = some 0 := if_pos hR.2.2.2.1
    have hkm : u 1 0 5 = 0 ↔ m 0 13 = 0 := pu_tkind hR.2.2.1 (c := 0) (by decide)
    have z0 : ∀ m', f_X11_play_16 (n' + 1) m' 0 = f_X11_play_50 m' 0 := fun m' => by
      show f_X11_play_16_b _ m' 0 = _
      unfold f_X11_play_16_b
      rw [if_pos rfl]
    generalize hX : f_X5_readCommands_12 (n + 1 + 1) u (kn L) (kn (pu_n L (u 10))) (kn i) = X
    have hX : f_X5_readCommands_12_b (f_X5_readCommands_12 (n + 1)) u (kn L) (kn (pu_n L (u 10))) (kn i) = X := hX
    unfold f_X5_readCommands_12_b f_X4_hasMore at hX
    generalize hY : f_X11_play_16 (n' + 1 + 1) m 1 = Y
    have hY : f_X11_play_16_b (f_X11_play_16 (n' + 1)) m 1 = Y := hY
    unfold f_X11_play_16_b f_X11_play_45 f_X11_play_46 at hY
    rw [if_neg (by rw [kn_lle (by omega) (by omega)]; omega), hf, k_bds, if_pos rfl, if_neg c0, k_bds, if_neg no] at hX
    rw [if_neg no, if_neg (fun e => c0 (hkm.mpr e))] at hY
    rcases pu_command hR hW hS with ⟨u1, m1, m2, nx2, a1, a2, a3, a4, a5, a6, a7, a8⟩ | ⟨u1, m2, a1, a2, a3, a4, a5⟩
    · rw [a1, k_bds, k_lts, show kn i + 1 = kn (i + 1) from kn_addl i 1] at hX
      rw [a2, k_bds, if_neg no] at hY
      dsimp only at hY
      rw [a3, k_bds, if_neg no] at hY
      dsimp only at hY
      have e10 : u1 10 = u 10 := a7 10 (by decide) (by decide)
      rcases ih u1 m2 nx2 (N + 1) (i + 1) (n + 1) (n' + 1) (by omega) (by omega) (by omega) (by omega) a4 (by rw [e10, a8.1 1 (by decide) (by decide)]; exact hW) (by rw [e10]; exact a6) with ⟨u', m', N', nx', c1, c2, c3, c4, c5, c6⟩ | ⟨u', m', c1, c2, c3, c4, c5⟩
      · rw [e10] at c1 c4
        exact Or.inl ⟨u', m', N', nx', hX.symm.trans c1, hY.symm.trans c2, c3, c4, fun j x y => (c5 j x y).trans (a7 j x y), pu_mh_tr a8 c6⟩
      · rw [e10] at c1
        exact Or.inr ⟨u', m', hX.symm.trans c1, hY.symm.trans c2, c3, fun j x y => (c4 j x y).trans (a7 j x y), pu_mh_tr a8 c5⟩
    · rw [a1, k_bds, k_lts, pu_cmdsB a3] at hX
      have hY0 : Y = f_X11_play_50 m2 0 := by
        rw [← hY]
        rcases a2 with a2 | ⟨m1, a2, a2'⟩
        · rw [a2, k_bds, if_pos rfl]
          exact z0 m2
        · rw [a2, k_bds, if_neg no]
          dsimp only
          rw [a2', k_bds, if_pos rfl]
          exact z0 m2
      exact Or.inr ⟨u1, m2, hX.symm, hY0, a3, a4, a5⟩

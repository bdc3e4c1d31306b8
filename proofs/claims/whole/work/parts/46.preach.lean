/-! reachable -/
theorem pu_rj : ∀ j : Nat, j < 20 → ((9 : Int32) < kn j - 9 ↔ 18 < j) ∧ ((10 : Int32) ≤ kn j - 9 ↔ 18 < j) := by decide +kernel
theorem pu_rn : ∀ j : Nat, j < 20 → kn j - 9 + 1 = kn (j + 1) - 9 := by decide +kernel
theorem pu_or0 (x : Int32) : x ||| 0 = x := by simp
theorem pu_rin {L N : Nat} {w w2 m2 : k_M} {s0 : Nat → Int32} (hW : pu_W L w s0) (hW2 : pu_W L w2 (m2 1)) (hN : w 9 3 = kn N) (hN8 : N ≤ 8) (hkp : pu_ks w w2) (hm : m2 1 12 = kn N) (K9 : k_M → Int32 → Int32 → Option (k_M × Int32)) (a b : Int32) : ∀ (k i f f' : Nat) (c : Int32), i + k = N → k < f → k < f' → ∃ C, f_X8_allWith_4 f w (w2 0 2) c (kn i) = some C ∧ f_X11_reachable_43 K9 f' m2 (a ||| c) b 1 (kn i) = K9 m2 (a ||| C) (b + 1) := by
  intro k
  induction k with
  | zero =>
    intro i f f' c hi hf hf'
    obtain ⟨f, rfl⟩ : ∃ n9, f = n9 + 1 := ⟨f - 1, by omega⟩
    obtain ⟨f', rfl⟩ : ∃ n9, f' = n9 + 1 := ⟨f' - 1, by omega⟩
    refine ⟨c, ?_, ?_⟩
    · show f_X8_allWith_4_b _ w (w2 0 2) c (kn i) = _
      unfold f_X8_allWith_4_b
      rw [hN, if_pos (by rw [kn_le (by omega) (by omega)]; omega)]
    · show f_X11_reachable_43_b K9 _ m2 (a ||| c) b 1 (kn i) = _
      unfold f_X11_reachable_43_b
      rw [hm, if_pos (by rw [kn_le (by omega) (by omega)]; omega), k_lts]
  | succ k ih =>
    intro i f f' c hi hf hf'
    obtain ⟨f, rfl⟩ : ∃ n9, f = n9 + 1 := ⟨f - 1, by omega⟩
    obtain ⟨f', rfl⟩ : ∃ n9, f' = n9 + 1 := ⟨f' - 1, by omega⟩
    obtain ⟨d, d1, d2⟩ := pu_farS hW hW2 hN hN8 (show i < N by omega) hkp
    have hX : f_X8_allWith_4 (f + 1) w (w2 0 2) c (kn i) = (if d = 0 then f_X8_allWith_4 f w (w2 0 2) (c ||| (1 <<< (kn i &&& 31))) (kn (i + 1)) else f_X8_allWith_4 f w (w2 0 2) c (kn (i + 1))) := by
      show f_X8_allWith_4_b _ w (w2 0 2) c (kn i) = _
      unfold f_X8_allWith_4_b f_X8_allWith_27
      rw [hN, if_neg (by rw [kn_le (by omega) (by omega)]; omega), d1, k_bds, k_lts, k_lts, k_lts, show kn i + 1 = kn (i + 1) from kn_addl i 1]
    have hY : f_X11_reachable_43 K9 (f' + 1) m2 (a ||| c) b 1 (kn i) = (if d = 0 then f_X11_reachable_43 K9 f' m2 ((a ||| c) ||| (1 <<< (kn i &&& 31))) b 1 (kn (i + 1)) else f_X11_reachable_43 K9 f' m2 ((a ||| c) ||| 0) b 1 (kn (i + 1))) := by
      show f_X11_reachable_43_b K9 _ m2 (a ||| c) b 1 (kn i) = _
      unfold f_X11_reachable_43_b f_X11_reachable_76 f_X11_reachable_77
      rw [hm, if_neg (by rw [kn_le (by omega) (by omega)]; omega), if_neg (by decide), d2, k_bds, k_lts, k_lts, k_lts, k_lts, show kn i + 1 = kn (i + 1) from kn_addl i 1]
    rw [hX, hY]
    by_cases c1 : d = 0
    · rw [if_pos c1, if_pos c1]
      obtain ⟨C, t1, t2⟩ := ih (i + 1) f f' (c ||| (1 <<< (kn i &&& 31))) (by omega) (by omega) (by omega)
      refine ⟨C, t1, ?_⟩
      rw [Int32.or_assoc]
      exact t2
    · rw [if_neg c1, if_neg c1, pu_or0]
      exact ih (i + 1) f f' c (by omega) (by omega) (by omega)
theorem pu_rout {N : Nat} {m2 : k_M} (hN8 : N ≤ 8) (hm : m2 1 12 = kn N) (K9 : k_M → Int32 → Int32 → Option (k_M × Int32)) (a b : Int32) : ∀ (k i f' : Nat), i + k = N → k < f' → f_X11_reachable_43 K9 f' m2 a b 0 (kn i) = K9 m2 a (b + 1) := by
  intro k
  induction k with
  | zero =>
    intro i f' hi hf'
    obtain ⟨f', rfl⟩ : ∃ n9, f' = n9 + 1 := ⟨f' - 1, by omega⟩
    show f_X11_reachable_43_b K9 _ m2 a b 0 (kn i) = _
    unfold f_X11_reachable_43_b
    rw [hm, if_pos (by rw [kn_le (by omega) (by omega)]; omega), k_lts]
  | succ k ih =>
    intro i f' hi hf'
    obtain ⟨f', rfl⟩ : ∃ n9, f' = n9 + 1 := ⟨f' - 1, by omega⟩
    show f_X11_reachable_43_b K9 _ m2 a b 0 (kn i) = _
    unfold f_X11_reachable_43_b f_X11_reachable_76 f_X11_reachable_77
    rw [hm, if_neg (by rw [kn_le (by omega) (by omega)]; omega), if_pos rfl, k_lts, k_lts, pu_or0, show kn i + 1 = kn (i + 1) from kn_addl i 1]
    exact ih (i + 1) f' (by omega) (by omega)
theorem pu_rea0 {L N : Nat} {w : k_M} {s0 : Nat → Int32} (hW : pu_W L w s0) (hN : w 9 3 = kn N) (hN8 : N ≤ 8) : ∀ (k j f f' : Nat) (u : k_U) (m : k_M) (a : Int32), j + k = 19 → k < f → k < f' → u 10 = w → (∀ j, j < 268 → m 3 j = s0 j) → ∃ u' m' v, f_X10_reachable_5 f u a (kn j - 9) = some (u', v) ∧ f_X11_reachable_9 f' m a (kn j - 9) = k_bd (f_X11_back m' v) (fun r => some (r.1, r.2)) ∧ (∀ k, k ≠ 11 → u' k = u k) ∧ (∀ c, c ≠ 1 → m' c = m c) := by
  intro k
  induction k with
  | zero =>
    intro j f f' u m a hj hf hf' hu h3
    obtain ⟨f, rfl⟩ : ∃ n9, f = n9 + 1 := ⟨f - 1, by omega⟩
    obtain ⟨f', rfl⟩ : ∃ n9, f' = n9 + 1 := ⟨f' - 1, by omega⟩
    have hr := pu_rj j (by omega)
    refine ⟨u, m, a, ?_, ?_, fun _ _ => rfl, fun _ _ => rfl⟩
    · show f_X10_reachable_5_b _ u a (kn j - 9) = _
      unfold f_X10_reachable_5_b
      rw [if_pos (hr.1.mpr (by omega))]
    · show f_X11_reachable_9_b _ m a (kn j - 9) = _
      unfold f_X11_reachable_9_b
      rw [if_pos (hr.2.mpr (by omega))]
  | succ k ih =>
    intro j f f' u m a hj hf hf' hu h3
    obtain ⟨f, rfl⟩ : ∃ n9, f = n9 + 1 := ⟨f - 1, by omega⟩
    obtain ⟨f', rfl⟩ : ∃ n9, f' = n9 + 1 := ⟨f' - 1, by omega⟩
    have hr := pu_rj j (by omega)
    obtain ⟨w2, r, m2, s1, s2, s3, s4, s5, s6⟩ := pu_slipFore (u := u) (m := m) (by rw [hu]; exact hW) h3 (kn j - 9)
    rw [hu] at s6
    have hm12 : m2 1 12 = kn N := by
      obtain ⟨n, hn, q1, q2, q3⟩ := s4.2.2.2.2.2.2.2.1
      have := q1.symm.trans (s6.1.trans hN)
      rw [q2]
      exact this
    have nxt : ∀ a1 : Int32, ∃ u' m' v, f_X10_reachable_5 f (k_uc u 11 w2) a1 (kn j - 9 + 1) = some (u', v) ∧ f_X11_reachable_9 f' m2 a1 (kn j - 9 + 1) = k_bd (f_X11_back m' v) (fun r => some (r.1, r.2)) ∧ (∀ k, k ≠ 11 → u' k = u k) ∧ (∀ c, c ≠ 1 → m' c = m c) := by
      intro a1
      rw [pu_rn j (by omega)]
      obtain ⟨u', m', v, t1, t2, t3, t4⟩ := ih (j + 1) f f' (k_uc u 11 w2) m2 a1 (by omega) (by omega) (by omega) (by rw [pu_uc _ _ (by decide), hu]) (fun i hi => by rw [s5 3 (by decide), h3 i hi])
      exact ⟨u', m', v, t1, t2, fun k hk => by rw [t3 k hk, pu_uc _ _ hk], fun c hc => by rw [t4 c hc, s5 c hc]⟩
    have hX : f_X10_reachable_5 (f + 1) u a (kn j - 9) = f_X10_reachable_5_b (f_X10_reachable_5 f) u a (kn j - 9) := rfl
    have hY : f_X11_reachable_9 (f' + 1) m a (kn j - 9) = f_X11_reachable_9_b (f_X11_reachable_9 f') m a (kn j - 9) := rfl
    unfold f_X10_reachable_5_b f_X10_reachable_46 at hX
    unfold f_X11_reachable_9_b at hY
    rw [if_neg (fun e => absurd (hr.1.mp e) (by omega)), s1, k_bds, k_uc_s, pu_landed, k_bds, pu_uc _ _ (show 10 ≠ 11 by decide), hu, k_lts] at hX
    rw [if_neg (fun e => absurd (hr.2.mp e) (by omega)), s2, k_bds, k_lts, s3, k_bds] at hY
    dsimp only at hY
    by_cases c1 : w2 0 0 = 0
    · rw [if_pos c1, if_neg (by decide)] at hX
      rw [if_pos c1] at hY
      obtain ⟨C, t1, t2⟩ := pu_rin hW s4 hN hN8 s6 hm12 (f_X11_reachable_9 f') a (kn j - 9) N 0 k_N k_N 0 (by omega) (by unfold k_N; omega) (by unfold k_N; omega)
      rw [pu_or0] at t2
      have t1' : f_X8_allWith w (w2 0 2) = some C := t1
      rw [t1', k_bds, k_lts, k_lts] at hX
      rw [hX, hY.trans t2]
      exact nxt (a ||| C)
    · rw [if_neg c1, if_pos rfl] at hX
      rw [if_neg c1] at hY
      rw [hX, hY.trans (pu_rout hN8 hm12 (f_X11_reachable_9 f') a (kn j - 9) N 0 k_N (by omega) (by unfold k_N; omega))]
      exact nxt a
theorem pu_c29 {u : k_U} (h : pu_P u) (x1 x2 x3 x4 x5 : Int32) : ∃ u', kLsel 29 u x1 x2 x3 x4 x5 = some u' ∧ pu_P u' := by
  obtain ⟨L, w1, m1, c1, c2, hW1, hW, l3, lc⟩ := pu_look h
  obtain ⟨N, hN, q1, q2, q3⟩ := hW.2.2.2.2.2.2.2.1
  obtain ⟨u', m2, v, r1, r2, r3, r4⟩ := pu_rea0 hW q1 hN 19 0 k_N k_N u m1 0 (by omega) (by unfold k_N; omega) (by unfold k_N; omega) rfl l3
  obtain ⟨m', b1, b2, b3⟩ := pu_back m2 v
  refine pu_okr (x := f_X10_reachable u) (F := f_X11_reachable) (u' := u') (v := v) (q := m') ?_ ?_ (pu_R_backd h r3 l3 lc (fun c _ b => r4 c b) (fun i _ => by rw [r4 0 (by decide)]) b2 b3)
  · exact r1
  · rw [r3 5 (by decide)]
    unfold f_X11_reachable
    rw [c2, k_bds]
    refine r2.trans ?_
    rw [b1, k_bds]

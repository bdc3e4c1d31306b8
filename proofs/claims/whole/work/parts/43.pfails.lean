/-! failsIn, reserveIn, hottest -/
theorem pu_failM {L i : Nat} {w m : k_M} (hW : pu_W L w (m 1)) (hi : i < pu_n L w) : m 1 (65 + pu_p L i) = w (pu_q L i) 5 := pu_state hW hi
theorem pu_hasF (w : k_M) (q : Nat) : f_X0_hasFailed w q = some (if w q 5 = 2 ∨ w q 5 = 3 then 1 else 0) := by
  unfold f_X0_hasFailed
  by_cases h2 : w q 5 = 2
  · rw [if_pos h2, if_pos (Or.inl h2)]
  · rw [if_neg h2]
    by_cases h3 : w q 5 = 3
    · rw [if_pos h3, if_pos (Or.inr h3)]
    · rw [if_neg h3, if_neg (fun h => h.elim h2 h3)]
theorem pu_le0 {L : Nat} {w m : k_M} (hW : pu_W L w (m 1)) : (m 1 0 ≤ 0) ↔ w 0 0 = 0 := by
  obtain ⟨h, v, he, b1, b2, b3, w0, w1, w4, s4, hair⟩ := pu_airM hW
  rw [(pu_rel01 hW).1, w0, kn_lel (by omega) (by omega), kn_eql (by omega) (by omega)]
  show h ≤ 0 ↔ h = 0
  omega
theorem pu_fails0 {L i : Nat} (x y : Int32) : ∀ (k j f f' : Nat) (u : k_U) (m : k_M), j + k = 3000 → k < f → k < f' → pu_W L (u 11) (m 1) → i < pu_n L (u 11) → ∃ u' m' v, f_X10_failsIn_43 f u x (pu_q L i) (kn j) = some (u', .inl v) ∧ f_X11_failsIn_22 f' m y (kn (pu_p L i)) (kn j) = k_bd (f_X11_back m' v) (fun r => some (r.1, r.2)) ∧ (∀ k, k ≠ 11 → u' k = u k) ∧ (∀ c, c ≠ 1 → m' c = m c) := by
  intro k
  induction k with
  | zero =>
    intro j f f' u m hj hf hf' hW hi
    obtain ⟨f, rfl⟩ : ∃ n9, f = n9 + 1 := ⟨f - 1, by omega⟩
    obtain ⟨f', rfl⟩ : ∃ n9, f' = n9 + 1 := ⟨f' - 1, by omega⟩
    have hp := pu_p_r (i := i) hW.1.1
    refine ⟨u, m, if u 11 (pu_q L i) 5 = 2 ∨ u 11 (pu_q L i) 5 = 3 then kn j else -1, ?_, ?_, fun _ _ => rfl, fun _ _ => rfl⟩
    · show f_X10_failsIn_43_b _ u x (pu_q L i) (kn j) = _
      unfold f_X10_failsIn_43_b f_X10_failsIn_80
      rw [pu_hasF, k_bds, k_bds, pu_landed, k_bds, if_pos (show (3000 : Int32) ≤ kn j by rw [kn_lle (by omega) (by omega)]; omega)]
      by_cases h : u 11 (pu_q L i) 5 = 2 ∨ u 11 (pu_q L i) 5 = 3
      · rw [if_pos h, if_pos h, if_neg (by decide), if_neg (by decide)]
      · rw [if_neg h, if_neg h, if_pos rfl, if_pos rfl, ite_self]
    · show f_X11_failsIn_22_b _ m y (kn (pu_p L i)) (kn j) = _
      unfold f_X11_failsIn_22_b f_X11_failsIn_74 f_X11_failsIn_101 f_X11_failsIn_106
      rw [if_pos (show (3000 : Int32) ≤ kn j by rw [kn_lle (by omega) (by omega)]; omega), kn_ladd, k_ckn (by omega) (by decide), k_ckn (by omega) (by decide), kn_nat (by omega)]
      rw [show (OfNat.ofNat 65 : Nat) + pu_p L i = 65 + pu_p L i from rfl, pu_state hW hi]
      by_cases h2 : u 11 (pu_q L i) 5 = 2
      · rw [if_pos h2, if_pos (Or.inl h2)]
      · rw [if_neg h2]
        by_cases h3 : u 11 (pu_q L i) 5 = 3
        · rw [if_pos h3, if_pos (Or.inr h3)]
        · rw [if_neg h3, if_neg (fun h => h.elim h2 h3)]
  | succ k ih =>
    intro j f f' u m hj hf hf' hW hi
    obtain ⟨f, rfl⟩ : ∃ n9, f = n9 + 1 := ⟨f - 1, by omega⟩
    obtain ⟨f', rfl⟩ : ∃ n9, f' = n9 + 1 := ⟨f' - 1, by omega⟩
    have hp := pu_p_r (i := i) hW.1.1
    have hX : f_X10_failsIn_43 (f + 1) u x (pu_q L i) (kn j) = f_X10_failsIn_43_b (f_X10_failsIn_43 f) u x (pu_q L i) (kn j) := rfl
    have hY : f_X11_failsIn_22 (f' + 1) m y (kn (pu_p L i)) (kn j) = f_X11_failsIn_22_b (f_X11_failsIn_22 f') m y (kn (pu_p L i)) (kn j) := rfl
    unfold f_X10_failsIn_43_b f_X10_failsIn_80 at hX
    unfold f_X11_failsIn_22_b f_X11_failsIn_74 f_X11_failsIn_101 f_X11_failsIn_106 at hY
    rw [pu_hasF, k_bds, k_bds, pu_landed, k_bds, if_neg (show ¬ (3000 : Int32) ≤ kn j by rw [kn_lle (by omega) (by omega)]; omega)] at hX
    rw [if_neg (show ¬ (3000 : Int32) ≤ kn j by rw [kn_lle (by omega) (by omega)]; omega), kn_ladd, k_ckn (by omega) (by decide), k_ckn (by omega) (by decide), k_ckn (by omega) (by decide), k_ckn (by omega) (by decide), kn_nat (by omega)] at hY
    rw [show (OfNat.ofNat 65 : Nat) + pu_p L i = 65 + pu_p L i from rfl, pu_state hW hi] at hY
    by_cases h : u 11 (pu_q L i) 5 = 2 ∨ u 11 (pu_q L i) 5 = 3
    · rw [if_pos h, if_neg (by decide), if_neg (by decide)] at hX
      refine ⟨u, m, kn j, hX, ?_, fun _ _ => rfl, fun _ _ => rfl⟩
      rw [hY]
      by_cases h2 : u 11 (pu_q L i) 5 = 2
      · rw [if_pos h2, if_pos h2, ite_self]
      · rw [if_neg h2, if_neg h2]
        have h3 := h.resolve_left h2
        rw [if_pos h3, if_pos h3, ite_self]
    · have h2 : ¬ u 11 (pu_q L i) 5 = 2 := fun e => h (Or.inl e)
      have h3 : ¬ u 11 (pu_q L i) 5 = 3 := fun e => h (Or.inr e)
      rw [if_neg h, if_pos rfl, if_pos rfl] at hX
      rw [if_neg h2, if_neg h3, if_neg h2, if_neg h3] at hY
      by_cases hl : u 11 0 0 = 0
      · rw [if_pos hl, if_neg (by decide)] at hX
        rw [if_pos ((pu_le0 hW).mpr hl)] at hY
        exact ⟨u, m, -1, hX, hY, fun _ _ => rfl, fun _ _ => rfl⟩
      · rw [if_neg hl, if_pos rfl] at hX
        rw [if_neg (fun e => hl ((pu_le0 hW).mp e))] at hY
        obtain ⟨w', m', s1, s2, s3, s4, s5, -⟩ := pu_second hW hl
        rw [s1, k_bds, k_lts, k_lts, show kn j + 1 = kn (j + 1) from kn_addl j 1] at hX
        rw [s2, k_bds, k_lts, show kn j + 1 = kn (j + 1) from kn_addl j 1] at hY
        have hn : pu_n L w' = pu_n L (u 11) := pu_n_congr s5
        obtain ⟨u2, m2, v, r1, r2, r3, r4⟩ := ih (j + 1) f f' (k_uc u 11 w') m' (by omega) (by omega) (by omega) (by rw [k_uc_s]; exact s3) (by rw [k_uc_s, hn]; exact hi)
        exact ⟨u2, m2, v, hX.trans r1, hY.trans r2, fun k hk => by rw [r3 k hk, pu_uc _ _ hk], fun c hc => by rw [r4 c hc, s4 c hc]⟩
theorem pu_c25 {u : k_U} (h : pu_P u) (x1 x2 x3 x4 x5 : Int32) : ∃ u', kLsel 25 u x1 x2 x3 x4 x5 = some u' ∧ pu_P u' := by
  show ∃ u', (k_bd (k_wrap [2] (f_X10_failsIn u x1)) fun r => k_bd (f_X11_failsIn (r.1 5) x1) fun q => kLck r q) = some u' ∧ _
  obtain ⟨L, w1, m1, c1, c2, hW1, hW, l3, lc⟩ := pu_look h
  have hL : L ≤ 8 := hW.1.1
  have hnr := pu_n_r (L := L) (w := u 10)
  have h00 : m1 0 0 = 0 := by rw [lc 0 (by decide), k_ups]
  have e1 : m1 1 = u 5 1 := by rw [lc 1 (by decide), k_upc _ _ (by decide)]
  have hW0 : pu_W L (u 10) (m1 1) := by rw [e1]; exact hW
  have hn : pu_n L w1 = pu_n L (u 10) := by
    refine pu_n_congr ?_
    rw [← hW1.2.1.2.1, hW0.2.1.2.1]
  have em : f_X11_noChute m1 x1 = _ := pu_noChute (n := pu_n L (u 10)) (by omega) h00 (pu_chutesM hW0) x1
  by_cases hb : 0 ≤ x1 ∧ x1 < kn (pu_n L (u 10))
  · obtain ⟨i, hi, rfl⟩ := kn_ofm hb.1 hb.2 (by omega)
    rw [if_pos hb] at em
    have hq := pu_q_r (i := i) hL
    obtain ⟨u', m2, v, r1, r2, r3, r4⟩ := pu_fails0 (L := L) (i := i) (kn i) (kn i) 3000 0 k_N k_N (k_uc u 11 w1) m1 (by omega) (by unfold k_N; omega) (by unfold k_N; omega) (by rw [k_uc_s]; exact hW1) (by rw [k_uc_s, hn]; exact hi)
    obtain ⟨m', b1, b2, b3⟩ := pu_back m2 v
    have hu : ∀ k, k ≠ 11 → u' k = u k := fun k hk => by rw [r3 k hk, pu_uc _ _ hk]
    refine pu_okw (F := fun m => f_X11_failsIn m (kn i)) (u' := u') (v := v) (q := m') ?_ ?_ (by rw [b2 0 (by decide), r4 0 (by decide), h00]) (pu_R_backd h hu l3 lc (fun c _ b => r4 c b) (fun i _ => by rw [r4 0 (by decide)]) b2 b3)
    · unfold f_X10_failsIn
      rw [pu_hasCI hL hW.1.2.1, if_pos hb, k_bds, if_neg (by decide), c1, k_bds, k_lts, k_uc_s, pu_at hL hW1.1.2.1 (by omega), k_bds, k_ckp hq]
      exact r1
    · show f_X11_failsIn (u' 5) (kn i) = _
      rw [hu 5 (by decide)]
      unfold f_X11_failsIn
      rw [c2, k_bds, em, k_bds, if_pos rfl]
      dsimp only
      rw [pu_placeM hL hW0.1.2.2 (by omega), k_bds]
      refine r2.trans ?_
      rw [b1, k_bds]
  · rw [if_neg hb] at em
    refine pu_erw (F := fun m => f_X11_failsIn m x1) (u' := u) (j := 2) (v := 0) (q := k_up m1 0 0 1) ?_ (by decide) ?_ (by rw [k_ups]; rfl) (by decide) (pu_R_look h (fun _ _ => rfl) (fun c a b d => by rw [k_upc _ _ a, lc c d, k_upc _ _ a]) (fun i hi => by rw [k_upi _ _ hi, lc 0 (by decide), k_upi _ _ hi]) (fun j hj => by rw [k_upc _ _ (by decide), e1]))
    · unfold f_X10_failsIn
      rw [pu_hasCI hL hW.1.2.1, if_neg hb, k_bds, if_pos rfl]
    · show f_X11_failsIn (u 5) x1 = _
      unfold f_X11_failsIn
      rw [c2, k_bds, em, k_bds, if_neg (show ¬ (1 : Int32) = 0 by decide)]

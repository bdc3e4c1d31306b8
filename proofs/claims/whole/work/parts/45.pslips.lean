/-! bestSlip, reachable -/
def pu_ks (w w' : k_M) : Prop := w' 9 3 = w 9 3 ∧ ∀ i, i < 8 → w' 10 i = w 10 i ∧ w' 11 i = w 11 i
theorem pu_slipFore {L : Nat} {u : k_U} {m : k_M} {s0 : Nat → Int32} (hW : pu_W L (u 10) s0) (h3 : ∀ j, j < 268 → m 3 j = s0 j) (a : Int32) : ∃ w2 r m2, f_X10_foretellLandingWithSlip u a = some (k_uc u 11 w2) ∧ f_X11_copies m 3 268 0 1 268 0 = some r ∧ f_X11_lands (k_up r 1 5 a) = some (m2, if w2 0 0 = 0 then 1 else 0) ∧ pu_W L w2 (m2 1) ∧ (∀ c, c ≠ 1 → m2 c = m c) ∧ pu_ks (u 10) w2 := by
  obtain ⟨w1, cp, sm⟩ := pu_copyOk (w := u 11) hW
  obtain ⟨r, e1, e2, e3⟩ := pu_rows (q0 := 3) (N0 := 268) (q2 := 1) (N2 := 268) (a := 0) (b := 0) (w := m) (by decide) pu_n268 pu_n268 (by omega) (by omega) (by decide) (by decide)
  have e1' : f_X11_copies m 3 268 0 1 268 0 = some r := e1
  have hW1 : pu_W L w1 (r 1) := pu_W_same hW sm (fun j hj => by rw [e3, if_pos (by omega), Nat.zero_add, Nat.sub_zero, h3 j hj])
  have hW2 : pu_W L (k_up w1 0 5 a) ((k_up r 1 5 a) 1) := pu_slipW hW1 (k_ups _ _ _ _) (fun j hj => k_upi _ _ hj)
  obtain ⟨w2, m2, v, p1, p2, p3, p4, p5⟩ := pu_passW hW2 (goal := 0) (by decide) (n := 3000) (by omega)
  have p1' : f_X9_passUntil (k_up w1 0 5 a) 0 3000 = some (w2, v) := p1
  refine ⟨w2, r, m2, ?_, e1', pu_lands p2 p3, p3, fun c hc => by rw [p4 c hc, k_upc _ _ hc, e2 c hc], ?_⟩
  · unfold f_X10_foretellLandingWithSlip
    rw [cp, k_bds, k_lts, k_uc_s, k_lts, k_uc_s, p1', k_bds, k_lts]
    refine congrArg some ?_
    funext k
    unfold k_uc
    split <;> rfl
  · have q : ∀ c, 3 ≤ c → c < 13 → w2 c = w1 c := fun c x y => (p5 c x y).trans (k_upc _ _ (by omega))
    refine ⟨by rw [q 9 (by decide) (by decide)]; exact sm.2.2.2.1.2.2.1, fun i hi => ⟨?_, ?_⟩⟩
    · rw [q 10 (by decide) (by decide)]
      exact sm.2.2.2.2.1 10 (by omega) i hi
    · rw [q 11 (by decide) (by decide)]
      exact sm.2.2.2.2.1 11 (by omega) i hi
/-- the distance to a spot -/
theorem pu_farS {L N k : Nat} {w w2 m2 : k_M} {s0 : Nat → Int32} (hW : pu_W L w s0) (hW2 : pu_W L w2 (m2 1)) (hN : w 9 3 = kn N) (hN8 : N ≤ 8) (hk : k < N) (hkp : pu_ks w w2) : ∃ d, f_X8_distanceTo w (kn k) (w2 0 2) = some d ∧ f_X11_far m2 (kn k) = some d := by
  obtain ⟨n, hn, q1, q2, q3⟩ := hW2.2.2.2.2.2.2.2.1
  have e9 : w2 9 3 = w 9 3 := hkp.1
  have hnN : n = N := by
    have := q1.symm.trans (e9.trans hN)
    rw [kn_inj (by omega) (by omega)] at this
    exact this
  subst hnN
  obtain ⟨a0, a1, a2⟩ := q3 k hk
  rw [(hkp.2 k (by omega)).1] at a0
  rw [(hkp.2 k (by omega)).2] at a1
  have f2 : m2 1 2 = w2 0 2 := (pu_F0 hW2).1.2.2.1
  have hX : f_X8_distanceTo w (kn k) (w2 0 2) = (if w 10 k ≤ w2 0 2 then (if w2 0 2 ≤ w 11 k then some 0 else some (w2 0 2 - w 11 k)) else some (w 10 k - w2 0 2)) := by
    unfold f_X8_distanceTo
    rw [k_ckn (by omega) (by decide), k_ckn (by omega) (by decide), k_ckn (by omega) (by decide), k_ckn (by omega) (by decide), kn_nat (by omega)]
  have hY : f_X11_far m2 (kn k) = (if w 10 k ≤ w2 0 2 then (if w2 0 2 ≤ w 11 k then some 0 else some (w2 0 2 - w 11 k)) else some (w 10 k - w2 0 2)) := by
    unfold f_X11_far
    rw [kn_lmul, kn_ladd, k_ckn (by omega) (by decide), kn_nat (by omega), k_lts, kn_addl, k_ckn (by omega) (by decide), kn_nat (by omega), k_lts, f2]
    rw [show (OfNat.ofNat 124 : Nat) + (OfNat.ofNat 3 : Nat) * k = 124 + 3 * k from rfl, show 124 + 3 * k + (OfNat.ofNat 1 : Nat) = 124 + 3 * k + 1 from rfl, a0, a1]
  rw [hX, hY]
  by_cases c1 : w 10 k ≤ w2 0 2
  · rw [if_pos c1]
    by_cases c2 : w2 0 2 ≤ w 11 k
    · rw [if_pos c2]
      exact ⟨_, rfl, rfl⟩
    · rw [if_neg c2]
      exact ⟨_, rfl, rfl⟩
  · rw [if_neg c1]
    exact ⟨_, rfl, rfl⟩
theorem pu_slipOf : ∀ a : Nat, a < 19 → (if (kn a - kn a / 2 * 2) = 0 then kn a / 2 else (-(kn a + 1)) / 2) = (if (kn a - kn a / 2 * 2) = 1 then (-(kn a + 1)) / 2 else kn a / 2) := by decide +kernel
theorem pu_best0 {L N k0 : Nat} {w : k_M} {s0 : Nat → Int32} (hW : pu_W L w s0) (hN : w 9 3 = kn N) (hN8 : N ≤ 8) (hk : k0 < N) : ∀ (k j f f' : Nat) (u : k_U) (m : k_M) (a b : Int32), j + k = 19 → k < f → k < f' → u 10 = w → (∀ j, j < 268 → m 3 j = s0 j) → ∃ u' m' v, f_X10_bestSlip_32 f u (kn k0) a b (kn j) = some (u', .inl v) ∧ f_X11_bestSlip_21 f' m (kn k0) a b (kn j) = k_bd (f_X11_back m' v) (fun r => some (r.1, r.2)) ∧ (∀ k, k ≠ 11 → u' k = u k) ∧ (∀ c, c ≠ 1 → m' c = m c) := by
  intro k
  induction k with
  | zero =>
    intro j f f' u m a b hj hf hf' hu h3
    obtain ⟨f, rfl⟩ : ∃ n9, f = n9 + 1 := ⟨f - 1, by omega⟩
    obtain ⟨f', rfl⟩ : ∃ n9, f' = n9 + 1 := ⟨f' - 1, by omega⟩
    refine ⟨u, m, a, ?_, ?_, fun _ _ => rfl, fun _ _ => rfl⟩
    · show f_X10_bestSlip_32_b _ u (kn k0) a b (kn j) = _
      unfold f_X10_bestSlip_32_b
      rw [if_pos (by rw [kn_llt (by omega) (by omega)]; omega)]
    · show f_X11_bestSlip_21_b _ m (kn k0) a b (kn j) = _
      unfold f_X11_bestSlip_21_b
      rw [if_pos (by rw [kn_lle (by omega) (by omega)]; omega)]
  | succ k ih =>
    intro j f f' u m a b hj hf hf' hu h3
    obtain ⟨f, rfl⟩ : ∃ n9, f = n9 + 1 := ⟨f - 1, by omega⟩
    obtain ⟨f', rfl⟩ : ∃ n9, f' = n9 + 1 := ⟨f' - 1, by omega⟩
    generalize hsl : (if (kn j - kn j / 2 * 2) = 0 then kn j / 2 else (-(kn j + 1)) / 2) = sl
    have hsl2 := (pu_slipOf j (by omega)).symm.trans hsl
    obtain ⟨w2, r, m2, s1, s2, s3, s4, s5, s6⟩ := pu_slipFore (u := u) (m := m) (by rw [hu]; exact hW) h3 sl
    rw [hu] at s6
    obtain ⟨d, d1, d2⟩ := pu_farS hW s4 hN hN8 hk s6
    have hX : f_X10_bestSlip_32 (f + 1) u (kn k0) a b (kn j) = f_X10_bestSlip_60 (f_X10_bestSlip_32 f) u (kn k0) a b (kn j) sl := by
      show f_X10_bestSlip_32_b _ u (kn k0) a b (kn j) = _
      unfold f_X10_bestSlip_32_b
      rw [if_neg (by rw [kn_llt (by omega) (by omega)]; omega), ← hsl]
      by_cases c : kn j - kn j / 2 * 2 = 0
      · rw [if_pos c, if_pos c]
      · rw [if_neg c, if_neg c]
    have hY : f_X11_bestSlip_21 (f' + 1) m (kn k0) a b (kn j) = f_X11_bestSlip_50 (f_X11_bestSlip_21 f') m (kn k0) a b (kn j) sl := by
      show f_X11_bestSlip_21_b _ m (kn k0) a b (kn j) = _
      unfold f_X11_bestSlip_21_b
      rw [if_neg (by rw [kn_lle (by omega) (by omega)]; omega), ← hsl2]
      by_cases c : kn j - kn j / 2 * 2 = 1
      · rw [if_pos c, if_pos c]
      · rw [if_neg c, if_neg c]
    have nxt : ∀ a1 b1 : Int32, ∃ u' m' v, f_X10_bestSlip_118 (f_X10_bestSlip_32 f) (k_uc u 11 w2) (kn k0) a1 b1 (kn j) = some (u', .inl v) ∧ f_X11_bestSlip_106 (f_X11_bestSlip_21 f') m2 (kn k0) a1 b1 (kn j) = k_bd (f_X11_back m' v) (fun r => some (r.1, r.2)) ∧ (∀ k, k ≠ 11 → u' k = u k) ∧ (∀ c, c ≠ 1 → m' c = m c) := by
      intro a1 b1
      obtain ⟨u', m', v, t1, t2, t3, t4⟩ := ih (j + 1) f f' (k_uc u 11 w2) m2 a1 b1 (by omega) (by omega) (by omega) (by rw [pu_uc _ _ (by decide), hu]) (fun i hi => by rw [s5 3 (by decide), h3 i hi])
      refine ⟨u', m', v, ?_, ?_, fun k hk => by rw [t3 k hk, pu_uc _ _ hk], fun c hc => by rw [t4 c hc, s5 c hc]⟩
      · unfold f_X10_bestSlip_118
        rw [k_lts, show kn j + 1 = kn (j + 1) from kn_addl j 1]
        exact t1
      · unfold f_X11_bestSlip_106
        rw [k_lts, show kn j + 1 = kn (j + 1) from kn_addl j 1]
        exact t2
    unfold f_X10_bestSlip_60 f_X10_bestSlip_109 at hX
    unfold f_X11_bestSlip_50 f_X11_bestSlip_94 at hY
    rw [s1, k_bds, pu_uc _ _ (show 10 ≠ 11 by decide), hu, k_uc_s, d1, k_bds, pu_landed, k_bds, k_lts] at hX
    rw [s2, k_bds, k_lts, s3, k_bds] at hY
    dsimp only at hY
    rw [d2, k_bds, k_lts, k_bds] at hY
    rw [hX, hY]
    by_cases c1 : w2 0 0 = 0
    · rw [if_pos c1, if_neg (show ¬ (1 : Int32) = 0 by decide), if_neg (show ¬ (1 : Int32) = 0 by decide)]
      by_cases c2 : a = -1
      · rw [if_pos c2, if_pos c2]
        exact nxt (sl + 9) d
      · rw [if_neg c2, if_neg c2]
        by_cases c3 : b ≤ d
        · rw [if_pos c3, if_pos c3]
          exact nxt a b
        · rw [if_neg c3, if_neg c3]
          exact nxt (sl + 9) d
    · rw [if_neg c1, if_pos rfl, if_pos rfl]
      exact nxt a b
theorem pu_c28 {u : k_U} (h : pu_P u) (x1 x2 x3 x4 x5 : Int32) : ∃ u', kLsel 28 u x1 x2 x3 x4 x5 = some u' ∧ pu_P u' := by
  show ∃ u', (k_bd (k_wrap [2] (f_X10_bestSlip u x1)) fun r => k_bd (f_X11_bestSlip (r.1 5) x1) fun q => kLck r q) = some u' ∧ _
  obtain ⟨L, w1, m1, c1, c2, hW1, hW, l3, lc⟩ := pu_look h
  have h00 : m1 0 0 = 0 := by rw [lc 0 (by decide), k_ups]
  have e1 : m1 1 = u 5 1 := by rw [lc 1 (by decide), k_upc _ _ (by decide)]
  obtain ⟨N, hN, q1, q2, q3⟩ := hW.2.2.2.2.2.2.2.1
  have em : f_X11_noSpot m1 x1 = _ := pu_noSpot (n := N) (by omega) h00 (by rw [e1]; exact q2) x1
  have eh : f_X8_has (u 10) x1 = some (if 0 ≤ x1 ∧ x1 < kn N then 1 else 0) := by
    unfold f_X8_has
    rw [q1]
    by_cases h1 : x1 < 0
    · rw [if_pos h1, if_neg (by grind)]
    · rw [if_neg h1]
      by_cases h2 : kn N ≤ x1
      · rw [if_pos h2, if_neg (by grind)]
      · rw [if_neg h2, if_pos (by grind)]
  by_cases hb : 0 ≤ x1 ∧ x1 < kn N
  · obtain ⟨i, hi, rfl⟩ := kn_ofm hb.1 hb.2 (by omega)
    rw [if_pos hb] at em eh
    obtain ⟨u', m2, v, r1, r2, r3, r4⟩ := pu_best0 hW q1 hN hi 19 0 k_N k_N u m1 (-1) 0 (by omega) (by unfold k_N; omega) (by unfold k_N; omega) rfl l3
    obtain ⟨m', b1, b2, b3⟩ := pu_back m2 v
    refine pu_okw (F := fun m => f_X11_bestSlip m (kn i)) (u' := u') (v := v) (q := m') ?_ ?_ (by rw [b2 0 (by decide), r4 0 (by decide), h00]) (pu_R_backd h r3 l3 lc (fun c _ b => r4 c b) (fun i _ => by rw [r4 0 (by decide)]) b2 b3)
    · unfold f_X10_bestSlip
      rw [eh, k_bds, if_neg (by decide)]
      exact r1
    · show f_X11_bestSlip (u' 5) (kn i) = _
      rw [r3 5 (by decide)]
      unfold f_X11_bestSlip
      rw [c2, k_bds, em, k_bds, if_pos rfl]
      refine r2.trans ?_
      rw [b1, k_bds]
  · rw [if_neg hb] at em eh
    refine pu_erw (F := fun m => f_X11_bestSlip m x1) (u' := u) (j := 2) (v := 0) (q := k_up m1 0 0 1) ?_ (by decide) ?_ (by rw [k_ups]; rfl) (by decide) (pu_R_look h (fun _ _ => rfl) (fun c a b d => by rw [k_upc _ _ a, lc c d, k_upc _ _ a]) (fun i hi => by rw [k_upi _ _ hi, lc 0 (by decide), k_upi _ _ hi]) (fun j hj => by rw [k_upc _ _ (by decide), e1]))
    · unfold f_X10_bestSlip
      rw [eh, k_bds, if_pos rfl]
    · show f_X11_bestSlip (u 5) x1 = _
      unfold f_X11_bestSlip
      rw [c2, k_bds, em, k_bds, if_neg (show ¬ (1 : Int32) = 0 by decide)]

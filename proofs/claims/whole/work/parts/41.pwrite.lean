/-! write -/
def pu_Om (s m : k_M) (n : Nat) : Prop := s 0 1 = kn n ∧ m 0 21 = kn n ∧ ∀ i, i < n → s 1 i = m 20 i
def pu_fr (m m' : k_M) : Prop := (∀ i, i ≠ 21 → m' 0 i = m 0 i) ∧ (∀ c, c ≠ 0 → c ≠ 20 → m' c = m c)
theorem pu_fr_tr {a b c : k_M} (h1 : pu_fr a b) (h2 : pu_fr b c) : pu_fr a c := ⟨fun i hi => (h2.1 i hi).trans (h1.1 i hi), fun k a b => (h2.2 k a b).trans (h1.2 k a b)⟩
theorem pu_fr1 {a b : k_M} (h : pu_fr a b) : b 1 = a 1 := h.2 1 (by decide) (by decide)
theorem pu_puts {s m : k_M} {n : Nat} (h : pu_Om s m n) (hn : n < 60) (a : Int32) : ∃ s' m', f_X7_put s a = some s' ∧ f_X11_writes m a = some m' ∧ pu_Om s' m' (n + 1) ∧ pu_fr m m' := by
  obtain ⟨h1, h2, h3⟩ := h
  refine ⟨k_up (k_up s 1 n a) 0 1 (kn (n + 1)), k_up (k_up m 20 n a) 0 21 (kn (n + 1)), ?_, ?_, ⟨k_ups _ _ _ _, k_ups _ _ _ _, fun i hi => ?_⟩, fun i hi => ?_, fun c a b => ?_⟩
  · unfold f_X7_put
    rw [h1, if_neg (by rw [kn_lle (by omega) (by omega)]; omega), k_ckn (by omega) (by decide), kn_nat (by omega), k_lts, k_upc _ _ (by decide), h1, k_lts]
    rw [show kn n + 1 = kn (n + 1) from kn_addl n 1]
  · unfold f_X11_writes
    rw [h2, k_ckn (by omega) (by decide), kn_nat (by omega), k_lts, k_upc _ _ (by decide), h2, k_lts]
    rw [show kn n + 1 = kn (n + 1) from kn_addl n 1]
  · rw [k_upc (k_up s 1 n a) _ (show 1 ≠ 0 by decide), k_upc (k_up m 20 n a) _ (show 20 ≠ 0 by decide)]
    by_cases hi2 : i = n
    · subst hi2
      rw [k_ups, k_ups]
    · rw [k_upi _ _ hi2, k_upi _ _ hi2]
      exact h3 i (by omega)
  · rw [k_upi _ _ hi, k_upc _ _ (by decide)]
  · rw [k_upc _ _ a, k_upc _ _ b]
theorem pu_dig0 : ∀ x : Nat, x < 13 → ((48 + (kn x - kn x / 10 * 10)).toUInt32 % 65536).toInt32 = 48 + (kn x - kn x / 10 * 10) := by decide +kernel
theorem pu_dig1 : ∀ x : Nat, x < 13 → 10 ≤ x → ((48 + ((kn x / 10) - (kn x / 10) / 10 * 10)).toUInt32 % 65536).toInt32 = 49 := by decide +kernel
theorem pu_num {s m : k_M} {n x : Nat} (h : pu_Om s m n) (hn : n + 2 ≤ 60) (hx : x ≤ 12) (p : Int32) : ∃ s' m' n', f_X7_putNumber s (kn x) = some s' ∧ (if kn x ≤ 9 then f_X11_writesChute_102 m p (kn x) else k_bd (f_X11_writes m 49) fun r99 => f_X11_writesChute_102 r99 p (kn x)) = some m' ∧ pu_Om s' m' n' ∧ n' ≤ n + 2 ∧ pu_fr m m' := by
  unfold f_X7_putNumber f_X7_putNumber_21 f_X11_writesChute_102
  by_cases h1 : x < 10
  · obtain ⟨s', m', r1, r2, r3, r4⟩ := pu_puts h (by omega) (48 + (kn x - kn x / 10 * 10))
    refine ⟨s', m', n + 1, ?_, ?_, r3, by omega, r4⟩
    · rw [if_pos (by rw [kn_ltl (by omega) (by omega)]; exact h1), pu_dig0 x (by omega), r1, k_bds]
    · rw [if_pos (by rw [kn_lel (by omega) (by omega)]; omega), r2, k_bds]
  · obtain ⟨s1, m1, r1, r2, r3, r4⟩ := pu_puts h (by omega) 49
    obtain ⟨s', m', t1, t2, t3, t4⟩ := pu_puts r3 (by omega) (48 + (kn x - kn x / 10 * 10))
    refine ⟨s', m', n + 1 + 1, ?_, ?_, t3, by omega, pu_fr_tr r4 t4⟩
    · rw [if_neg (by rw [kn_ltl (by omega) (by omega)]; exact h1), pu_dig1 x (by omega) (by omega), r1, k_bds, pu_dig0 x (by omega), t1, k_bds]
    · rw [if_neg (by rw [kn_lel (by omega) (by omega)]; omega), r2, k_bds, t2, k_bds]
def pu_let (v : Int32) : Int32 := if v = 0 then 80 else (if v = 1 then 79 else (if v = 2 then 84 else (if v = 3 then 74 else 67)))
theorem pu_letC (w : k_M) (q : Nat) : f_X0_letter w q = some (pu_let (w q 5)) := by
  unfold f_X0_letter pu_let
  split
  · rfl
  split
  · rfl
  split
  · rfl
  split <;> rfl
theorem pu_letM (m : k_M) (p v : Int32) : f_X11_writesChute_22 m p v = f_X11_writesChute_64 m p v (pu_let v) := by
  unfold f_X11_writesChute_22 pu_let
  by_cases h0 : v = 0
  · rw [if_pos h0, if_pos h0]
  rw [if_neg h0, if_neg h0]
  by_cases h1 : v = 1
  · rw [if_pos h1, if_pos h1]
  rw [if_neg h1, if_neg h1]
  by_cases h2 : v = 2
  · rw [if_pos h2, if_pos h2]
  rw [if_neg h2, if_neg h2]
  by_cases h3 : v = 3
  · rw [if_pos h3, if_pos h3]
  rw [if_neg h3, if_neg h3]
/-- one chute: behind the space -/
theorem pu_wr1 {L i : Nat} {w : k_M} {s : Nat → Int32} (hW : pu_W L w s) (hi : i < pu_n L w) {u : k_U} {m : k_M} {n : Nat} (hu : u 10 = w) (hm : m 1 = s) (hO : pu_Om (u 3) m n) (hn : n + 4 ≤ 60) (K : k_U → Int32 → Int32 → Option (k_U × Int32)) (K' : k_M → Int32 → Option (k_M × Int32)) (a1 : Int32) : ∃ u' m' n', f_X10_write_35 K u a1 (kn i) = K u' a1 (kn (i + 1)) ∧ f_X11_write_30 K' m (kn i) = K' m' (kn (i + 1)) ∧ (∀ k, k ≠ 3 → u' k = u k) ∧ pu_Om (u' 3) m' n' ∧ n' ≤ n + 4 ∧ pu_fr m m' := by
  have hL : L ≤ 8 := hW.1.1
  have hnr := pu_n_r (L := L) (w := w)
  have hp := pu_p_r (i := i) hL
  have hq := pu_q_r (i := i) hL
  have hp8 : (kn (pu_p L i) = 8) = (i = L) := by
    rw [kn_eql (by omega) (by decide)]
    unfold pu_p
    by_cases h : i < L
    · rw [if_pos h]
      exact propext ⟨fun h9 => absurd (show i = 8 from h9) (by omega), fun h9 => by omega⟩
    · rw [if_neg h]
      exact propext ⟨fun _ => by omega, fun _ => rfl⟩
  have hiL : (kn i = kn L) = (i = L) := kn_inj (by omega) (by omega)
  obtain ⟨ar, li, st, t, -, hli, -, ht, ⟨k0, k1, k2, k7⟩, -, hop, g8, ⟨q0, q1, q2, q3, q4, q5, q6, q7⟩⟩ := hW.2.2.1 i hi
  -- behind the R
  have tail : ∀ (u1 : k_U) (m1 : k_M) (n1 : Nat), u1 10 = w → m1 1 = s → pu_Om (u1 3) m1 n1 → n1 + 3 ≤ 60 → ∃ u' m' n', f_X10_write_55 K u1 a1 (kn i) = K u' a1 (kn (i + 1)) ∧ f_X11_writesChute_22 m1 (kn (pu_p L i)) (w (pu_q L i) 5) = some m' ∧ (∀ k, k ≠ 3 → u' k = u1 k) ∧ pu_Om (u' 3) m' n' ∧ n' ≤ n1 + 3 ∧ pu_fr m1 m' := by
    intro u1 m1 n1 hu1 hm1 hO1 hn1
    obtain ⟨s2, m2, r1, r2, r3, r4⟩ := pu_puts hO1 (by omega) (pu_let (w (pu_q L i) 5))
    have num : ∀ K1 : Option (k_U × Int32), (w (pu_q L i) 5 = 0 ∨ w (pu_q L i) 5 = 1) → K1 = f_X10_write_90 K (k_uc u1 3 s2) a1 (kn i) (pu_q L i) → ∃ u' m' n', K1 = K u' a1 (kn (i + 1)) ∧ f_X11_writesChute_77 m2 (kn (pu_p L i)) = some m' ∧ (∀ k, k ≠ 3 → u' k = u1 k) ∧ pu_Om (u' 3) m' n' ∧ n' ≤ n1 + 3 ∧ pu_fr m1 m' := by
      intro K1 _ hK1
      obtain ⟨s3, m3, n3, t1, t2, t3, t4, t5⟩ := pu_num (s := s2) (m := m2) (x := li - t) r3 (by omega) (by omega) (kn (pu_p L i))
      refine ⟨k_uc (k_uc u1 3 s2) 3 s3, m3, n3, ?_, ?_, fun k hk => by rw [pu_uc _ _ hk, pu_uc _ _ hk], by rw [k_uc_s]; exact t3, by omega, pu_fr_tr r4 t5⟩
      · rw [hK1]
        unfold f_X10_write_90 f_X0_linesThere f_X10_write_101
        rw [k_bds, pu_uc _ _ (show 10 ≠ 3 by decide), hu1, k1, k7, kn_sub ht, k_uc_s, t1, k_bds, k_lts, k_lts]
        rw [show kn i + 1 = kn (i + 1) from kn_addl i 1]
      · unfold f_X11_writesChute_77
        rw [kn_ladd, k_ckn (by omega) (by decide), kn_nat (by omega), pu_fr1 r4, hm1]
        rw [show (OfNat.ofNat 74 : Nat) + pu_p L i = 74 + pu_p L i from rfl, q6, kmask_bits li (by omega) t (by omega), k_bds]
        exact t2
    unfold f_X10_write_55
    rw [pu_letM]
    unfold f_X11_writesChute_64
    rw [hu1, pu_at hL hW.1.2.1 (by omega), k_bds, k_ckp hq, pu_letC, k_bds, r1, k_bds, k_lts, pu_uc _ _ (show 10 ≠ 3 by decide), hu1, r2, k_bds]
    by_cases c0 : w (pu_q L i) 5 = 0
    · rw [if_pos c0, if_pos c0]
      exact num _ (Or.inl c0) rfl
    rw [if_neg c0, if_neg c0]
    by_cases c1 : w (pu_q L i) 5 = 1
    · rw [if_pos c1, if_pos c1]
      exact num _ (Or.inr c1) rfl
    rw [if_neg c1, if_neg c1]
    refine ⟨k_uc u1 3 s2, m2, n1 + 1, ?_, rfl, fun k hk => pu_uc _ _ hk, by rw [k_uc_s]; exact r3, by omega, r4⟩
    unfold f_X10_write_101
    rw [k_lts]
    rw [show kn i + 1 = kn (i + 1) from kn_addl i 1]
  have hM : ∀ m9 : k_M, f_X11_writesChute m (kn (pu_p L i)) = some m9 → f_X11_write_30 K' m (kn i) = K' m9 (kn (i + 1)) := by
    intro m9 h9
    unfold f_X11_write_30
    rw [pu_placeM hL (by rw [hm]; exact hW.1.2.2) (by omega), k_bds, h9, k_bds, k_lts]
    rw [show kn i + 1 = kn (i + 1) from kn_addl i 1]
  have hWC : f_X11_writesChute m (kn (pu_p L i)) = (if kn (pu_p L i) = 8 then k_bd (f_X11_writes m 82) fun r19 => f_X11_writesChute_22 r19 (kn (pu_p L i)) (w (pu_q L i) 5) else f_X11_writesChute_22 m (kn (pu_p L i)) (w (pu_q L i) 5)) := by
    unfold f_X11_writesChute
    rw [kn_ladd, k_ckn (by omega) (by decide), kn_nat (by omega), hm]
    rw [show (OfNat.ofNat 65 : Nat) + pu_p L i = 65 + pu_p L i from rfl, q5, k_lts]
  unfold f_X10_write_35
  rw [hu, hW.1.2.1]
  by_cases c : i = L
  · rw [if_pos (by rw [hp8]; exact c)] at hWC
    rw [if_pos (by rw [hiL]; exact c)]
    obtain ⟨s2, m2, r1, r2, r3, r4⟩ := pu_puts hO (by omega) 82
    obtain ⟨u', m', n', t1, t2, t3, t4, t5, t6⟩ := tail (k_uc u 3 s2) m2 (n + 1) (by rw [pu_uc _ _ (by decide), hu]) (by rw [pu_fr1 r4, hm]) (by rw [k_uc_s]; exact r3) (by omega)
    refine ⟨u', m', n', ?_, hM m' ?_, fun k hk => by rw [t3 k hk, pu_uc _ _ hk], t4, by omega, pu_fr_tr r4 t6⟩
    · rw [r1, k_bds, k_lts]
      exact t1
    · rw [hWC, r2, k_bds]
      exact t2
  · rw [if_neg (by rw [hp8]; exact c)] at hWC
    rw [if_neg (by rw [hiL]; exact c)]
    obtain ⟨u', m', n', t1, t2, t3, t4, t5, t6⟩ := tail u m n hu hm hO (by omega)
    exact ⟨u', m', n', t1, hM m' (hWC.trans t2), t3, t4, by omega, t6⟩
theorem pu_wr0 {L : Nat} {w : k_M} {s : Nat → Int32} (hW : pu_W L w s) : ∀ (k i f f' : Nat) (u : k_U) (m : k_M) (n : Nat), i + k = pu_n L w → k < f → k < f' → u 10 = w → m 1 = s → pu_Om (u 3) m n → n ≤ 5 * i → ∃ u' m' n', f_X10_write_17 f u (kn (pu_n L w)) (kn i) = some (u', kn n') ∧ f_X11_write_12 f' m (kn i) = some (m', kn n') ∧ (∀ k, k ≠ 3 → u' k = u k) ∧ pu_Om (u' 3) m' n' ∧ n' ≤ 60 ∧ pu_fr m m' := by
  have hL : L ≤ 8 := hW.1.1
  have hnr := pu_n_r (L := L) (w := w)
  intro k
  induction k with
  | zero =>
    intro i f f' u m n hi hf hf' hu hm hO hn
    obtain ⟨f, rfl⟩ : ∃ n9, f = n9 + 1 := ⟨f - 1, by omega⟩
    obtain ⟨f', rfl⟩ : ∃ n9, f' = n9 + 1 := ⟨f' - 1, by omega⟩
    refine ⟨u, m, n, ?_, ?_, fun _ _ => rfl, hO, by omega, ⟨fun _ _ => rfl, fun _ _ _ => rfl⟩⟩
    · show f_X10_write_17_b _ u (kn (pu_n L w)) (kn i) = _
      unfold f_X10_write_17_b
      rw [if_pos (by rw [kn_le (by omega) (by omega)]; omega), hO.1]
    · show f_X11_write_12_b _ m (kn i) = _
      unfold f_X11_write_12_b
      rw [pu_chutesM (w := w) (m := m) (by rw [hm]; exact hW), k_bds, if_pos (by rw [kn_le (by omega) (by omega)]; omega), hO.2.1]
  | succ k ih =>
    intro i f f' u m n hi hf hf' hu hm hO hn
    obtain ⟨f, rfl⟩ : ∃ n9, f = n9 + 1 := ⟨f - 1, by omega⟩
    obtain ⟨f', rfl⟩ : ∃ n9, f' = n9 + 1 := ⟨f' - 1, by omega⟩
    have step : ∀ (u1 : k_U) (m1 : k_M) (n1 : Nat), u1 10 = w → m1 1 = s → pu_Om (u1 3) m1 n1 → n1 ≤ 5 * i + 1 → ∃ u' m' n', f_X10_write_35 (f_X10_write_17 f) u1 (kn (pu_n L w)) (kn i) = some (u', kn n') ∧ f_X11_write_30 (f_X11_write_12 f') m1 (kn i) = some (m', kn n') ∧ (∀ k, k ≠ 3 → u' k = u1 k) ∧ pu_Om (u' 3) m' n' ∧ n' ≤ 60 ∧ pu_fr m1 m' := by
      intro u1 m1 n1 h1 h2 h3 h4
      obtain ⟨u2, m2, n2, t1, t2, t3, t4, t5, t6⟩ := pu_wr1 hW (show i < pu_n L w by omega) h1 h2 h3 (by omega) (f_X10_write_17 f) (f_X11_write_12 f') (kn (pu_n L w))
      obtain ⟨u', m', n', v1, v2, v3, v4, v5, v6⟩ := ih (i + 1) f f' u2 m2 n2 (by omega) (by omega) (by omega) (by rw [t3 10 (by decide), h1]) (by rw [pu_fr1 t6, h2]) t4 (by omega)
      exact ⟨u', m', n', t1.trans v1, t2.trans v2, fun k hk => (v3 k hk).trans (t3 k hk), v4, v5, pu_fr_tr t6 v6⟩
    have e1 : f_X10_write_17 (f + 1) u (kn (pu_n L w)) (kn i) = (if kn i ≤ 0 then f_X10_write_35 (f_X10_write_17 f) u (kn (pu_n L w)) (kn i) else k_bd (f_X7_put (u 3) 32) fun r32 => k_lt (k_uc u 3 r32) fun u32 => f_X10_write_35 (f_X10_write_17 f) u32 (kn (pu_n L w)) (kn i)) := by
      show f_X10_write_17_b _ u (kn (pu_n L w)) (kn i) = _
      unfold f_X10_write_17_b
      rw [if_neg (by rw [kn_le (by omega) (by omega)]; omega)]
    have e2 : f_X11_write_12 (f' + 1) m (kn i) = (if kn i ≤ 0 then f_X11_write_30 (f_X11_write_12 f') m (kn i) else k_bd (f_X11_writes m 32) fun r27 => f_X11_write_30 (f_X11_write_12 f') r27 (kn i)) := by
      show f_X11_write_12_b _ m (kn i) = _
      unfold f_X11_write_12_b
      rw [pu_chutesM (w := w) (m := m) (by rw [hm]; exact hW), k_bds, if_neg (by rw [kn_le (by omega) (by omega)]; omega)]
    by_cases c : kn i ≤ 0
    · rw [if_pos c] at e1 e2
      rw [e1, e2]
      exact step u m n hu hm hO (by omega)
    · rw [if_neg c] at e1 e2
      obtain ⟨s2, m2, r1, r2, r3, r4⟩ := pu_puts hO (by omega) 32
      rw [r1, k_bds, k_lts] at e1
      rw [r2, k_bds] at e2
      obtain ⟨u', m', n', v1, v2, v3, v4, v5, v6⟩ := step (k_uc u 3 s2) m2 (n + 1) (by rw [pu_uc _ _ (by decide), hu]) (by rw [pu_fr1 r4, hm]) (by rw [k_uc_s]; exact r3) (by omega)
      exact ⟨u', m', n', e1.trans v1, e2.trans v2, fun k hk => by rw [v3 k hk, pu_uc _ _ hk], v4, v5, pu_fr_tr r4 v6⟩
theorem pu_c38 {u : k_U} (h : pu_P u) (x1 x2 x3 x4 x5 : Int32) : ∃ u', kLsel 38 u x1 x2 x3 x4 x5 = some u' ∧ pu_P u' := by
  show ∃ u', (k_bd (f_X10_write u) fun r => k_bd (f_X11_write (r.1 5)) fun q => k_ck (r.2 = q.2) (some (k_uc r.1 5 q.1))) = some u' ∧ _
  have hw0 : pu_R u (k_up (u 5) 0 0 0) := pu_R_th 0 h
  obtain ⟨⟨L, hW⟩, hA, ⟨hn, c, b1, b2, b3, b4, b5, b6⟩, hV, ⟨len, t1, t2, t3, t4⟩, ⟨ec, ep⟩, -, hD⟩ := id hw0
  have hL : L ≤ 8 := hW.1.1
  have hnr := pu_n_r (L := L) (w := u 10)
  obtain ⟨u', m', n', v1, v2, v3, v4, v5, v6⟩ := pu_wr0 hW (pu_n L (u 10)) 0 k_N k_N (k_uc u 3 (k_up (u 3) 0 1 0)) (k_up (k_up (u 5) 0 0 0) 0 21 0) 0 (by omega) (by unfold k_N; omega) (by unfold k_N; omega) (pu_uc _ _ (by decide)) (k_upc _ _ (by decide)) ⟨by rw [k_uc_s, k_ups]; rfl, k_ups _ _ _ _, fun i hi => absurd hi (by omega)⟩ (by omega)
  have g : ∀ k, k ≠ 3 → u' k = u k := fun k hk => by rw [v3 k hk, pu_uc _ _ hk]
  have f0 : ∀ i, i ≠ 21 → m' 0 i = k_up (u 5) 0 0 0 0 i := fun i hi => by rw [v6.1 i hi, k_upi _ _ hi]
  have f : ∀ c, c ≠ 0 → c ≠ 20 → m' c = k_up (u 5) 0 0 0 c := fun c a b => by rw [v6.2 c a b, k_upc _ _ a]
  refine pu_okr (x := f_X10_write u) (F := f_X11_write) (u' := u') (v := kn n') (q := m') ?_ ?_ ?_
  · unfold f_X10_write f_X7_wipe
    rw [k_lts, k_bds, k_lts, pu_uc _ _ (show 10 ≠ 3 by decide), pu_count hW.1.2.1, k_bds]
    exact v1
  · rw [g 5 (by decide)]
    unfold f_X11_write
    rw [k_lts, k_lts]
    exact v2
  · refine ⟨⟨L, ?_⟩, fun i hi => ?_, ⟨hn, c, b1, b2, ?_, ?_, ?_, fun j hj => ?_⟩, fun j hj => ?_, ⟨len, t1, ?_, ?_, ?_⟩, ⟨?_, ?_⟩, ⟨n', v5, v4.1, v4.2.1, v4.2.2⟩, ?_⟩
    · rw [g 10 (by decide), f 1 (by decide) (by decide)]
      exact hW
    · rw [g 0 (by decide), f 7 (by decide) (by decide)]
      exact hA i hi
    · rw [g 4 (by decide), b3]
    · rw [g 4 (by decide), b4]
    · rw [f0 8 (by decide), b5]
    · rw [g _ (by omega), f 4 (by decide) (by decide)]
      exact b6 j hj
    · rw [g 0 (by decide), g _ (by omega), f 6 (by decide) (by decide), f 5 (by decide) (by decide)]
      exact hV j hj
    · rw [g 1 (by decide), t2]
    · rw [f0 10 (by decide), t3]
    · rw [g 1 (by decide), f 9 (by decide) (by decide)]
      exact t4
    · rw [g 1 (by decide), f0 15 (by decide), ec]
    · rw [g 1 (by decide), f0 16 (by decide), ep]
    · rw [g 14 (by decide)]
      exact hD

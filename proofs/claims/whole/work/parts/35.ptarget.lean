/-! the acts: setTarget, jam -/
def pu_ix (f : Nat → Int32) (x : Int32) : Nat → Nat → Nat
  | i, 0 => i
  | i, k + 1 => if f i = x then i else pu_ix f x (i + 1) k
theorem pu_ix_r {f : Nat → Int32} {x : Int32} : ∀ (k i : Nat), i ≤ pu_ix f x i k ∧ pu_ix f x i k ≤ i + k := by
  intro k
  induction k with
  | zero => intro i; exact ⟨Nat.le_refl i, Nat.le_refl i⟩
  | succ k ih =>
    intro i
    unfold pu_ix
    have := ih (i + 1)
    split <;> omega
theorem pu_ix_congr {f g : Nat → Int32} {x : Int32} : ∀ (k i : Nat), (∀ j, i ≤ j → j < i + k → f j = g j) → pu_ix f x i k = pu_ix g x i k := by
  intro k
  induction k with
  | zero => intro i _; rfl
  | succ k ih =>
    intro i h
    unfold pu_ix
    rw [h i (by omega) (by omega), ih (i + 1) (fun j a b => h j (by omega) (by omega))]
theorem pu_plc0 {w : k_M} {tc N : Nat} (hN : N ≤ 8) (hw : w tc 2 = kn N) (x : Int32) : ∀ (k i n : Nat), i + k = N → k < n → f_X2_placeOf_2 n w tc x (kn i) = some (if pu_ix (w (tc + 1)) x i k = N then -1 else kn (pu_ix (w (tc + 1)) x i k)) := by
  intro k
  induction k with
  | zero =>
    intro i n hi hn
    obtain ⟨n, rfl⟩ : ∃ n9, n = n9 + 1 := ⟨n - 1, by omega⟩
    show f_X2_placeOf_2_b _ w tc x (kn i) = _
    unfold f_X2_placeOf_2_b
    rw [hw, if_pos (by rw [kn_le (by omega) (by omega)]; omega), if_pos (show pu_ix (w (tc + 1)) x i 0 = N by unfold pu_ix; omega)]
  | succ k ih =>
    intro i n hi hn
    obtain ⟨n, rfl⟩ : ∃ n9, n = n9 + 1 := ⟨n - 1, by omega⟩
    show f_X2_placeOf_2_b _ w tc x (kn i) = _
    unfold f_X2_placeOf_2_b
    rw [hw, if_neg (by rw [kn_le (by omega) (by omega)]; omega), k_ckn (by omega) (by decide), kn_nat (by omega)]
    by_cases h : w (tc + 1) i = x
    · have e : pu_ix (w (tc + 1)) x i (k + 1) = i := if_pos h
      rw [if_pos h, e, if_neg (by omega)]
    · have e : pu_ix (w (tc + 1)) x i (k + 1) = pu_ix (w (tc + 1)) x (i + 1) k := if_neg h
      rw [if_neg h, e, k_lts, kn_addl]
      exact ih (i + 1) n (by omega) (by omega)
theorem pu_plc {w : k_M} {tc N : Nat} (hN : N ≤ 8) (hw : w tc 2 = kn N) (x : Int32) : f_X2_placeOf w tc x = some (if pu_ix (w (tc + 1)) x 0 N = N then -1 else kn (pu_ix (w (tc + 1)) x 0 N)) := pu_plc0 hN hw x N 0 k_N (by omega) (by unfold k_N; omega)
theorem pu_hasPlace {w : k_M} {tc N : Nat} (hN : N ≤ 8) (hw : w tc 2 = kn N) (x : Int32) : f_X2_hasPlaceFor w tc x = some (if pu_ix (w (tc + 1)) x 0 N = 8 then 0 else 1) := by
  unfold f_X2_hasPlaceFor
  have hr := pu_ix_r (f := w (tc + 1)) (x := x) N 0
  rw [hw, pu_plc hN hw]
  by_cases h : N = 8
  · subst h
    rw [if_neg (by rw [kn_ltl (by omega) (by omega)]; omega), k_bds]
    by_cases h2 : pu_ix (w (tc + 1)) x 0 8 = 8
    · rw [if_pos h2, if_pos rfl, if_pos h2]
    · rw [if_neg h2, if_neg h2, if_neg (by rw [kn_neg1 (by omega)]; exact fun h => h)]
  · rw [if_pos (by rw [kn_ltl (by omega) (by omega)]; omega), if_neg (by omega)]
/-- put: at its place, or behind the last -/
theorem pu_put {w : k_M} {tc N : Nat} (hN : N ≤ 8) (hw : w tc 2 = kn N) (x y : Int32) (h8 : ¬ pu_ix (w (tc + 1)) x 0 N = 8) : ∃ w', f_X2_put w tc x y = some w' ∧ w' tc 2 = kn (if pu_ix (w (tc + 1)) x 0 N = N then N + 1 else N) ∧ (∀ c, c ≠ tc → c ≠ tc + 1 → c ≠ tc + 2 → w' c = w c) ∧ (∀ i, w' (tc + 1) i = if i = pu_ix (w (tc + 1)) x 0 N then x else w (tc + 1) i) ∧ (∀ i, w' (tc + 2) i = if i = pu_ix (w (tc + 1)) x 0 N then y else w (tc + 2) i) ∧ (∀ i, i ≠ 2 → w' tc i = w tc i) := by
  have hr := pu_ix_r (f := w (tc + 1)) (x := x) N 0
  unfold f_X2_put f_X2_put_35
  rw [pu_plc hN hw, k_bds, hw]
  generalize hj : pu_ix (w (tc + 1)) x 0 N = j at *
  have hj8 : j < 8 := by omega
  by_cases h : j = N
  · refine ⟨k_up (k_up (k_up w tc 2 (kn (N + 1))) (tc + 1) j x) (tc + 2) j y, ?_, ?_, fun c a b d => ?_, fun i => ?_, fun i => ?_, fun i hi => ?_⟩
    · rw [if_pos h, if_pos rfl, if_neg (by rw [kn_lle (by omega) (by omega)]; omega), k_lts, k_lts, if_neg (by rw [kn_neg1 (by omega)]; exact fun h => h), ← h, k_ckn hj8 (by decide), kn_nat (by omega), k_lts, k_ckn hj8 (by decide), k_lts]
      rw [show kn j + 1 = kn (j + 1) from kn_addl j 1]
    · rw [k_upc _ _ (by omega), k_upc _ _ (by omega), k_ups, if_pos h]
    · rw [k_upc _ _ d, k_upc _ _ b, k_upc _ _ a]
    · rw [k_upc _ _ (by omega)]
      by_cases hi : i = j
      · subst hi
        rw [k_ups, if_pos rfl]
      · rw [k_upi _ _ hi, if_neg hi, k_upc _ _ (by omega)]
    · by_cases hi : i = j
      · subst hi
        rw [k_ups, if_pos rfl]
      · rw [k_upi _ _ hi, if_neg hi, k_upc _ _ (by omega), k_upc _ _ (by omega)]
    · rw [k_upc _ _ (by omega), k_upc _ _ (by omega), k_upi _ _ hi]
  · refine ⟨k_up (k_up w (tc + 1) j x) (tc + 2) j y, ?_, ?_, fun c a b d => ?_, fun i => ?_, fun i => ?_, fun i hi => ?_⟩
    · rw [if_neg h, if_neg (by rw [kn_neg1 (by omega)]; exact fun h => h), if_neg (by rw [kn_neg1 (by omega)]; exact fun h => h), k_ckn hj8 (by decide), kn_nat (by omega), k_lts, k_ckn hj8 (by decide), k_lts]
    · rw [k_upc _ _ (by omega), k_upc _ _ (by omega), if_neg h, hw]
    · rw [k_upc _ _ d, k_upc _ _ b]
    · rw [k_upc _ _ (by omega)]
      by_cases hi : i = j
      · subst hi
        rw [k_ups, if_pos rfl]
      · rw [k_upi _ _ hi, if_neg hi]
    · by_cases hi : i = j
      · subst hi
        rw [k_ups, if_pos rfl]
      · rw [k_upi _ _ hi, if_neg hi, k_upc _ _ (by omega)]
    · rw [k_upc _ _ (by omega), k_upc _ _ (by omega)]
/-- targets alone change -/
theorem pu_W_tgt {L : Nat} {w w1 : k_M} {s s1 : Nat → Int32} (hW : pu_W L w s) (hw : ∀ c, c ≠ 3 → c ≠ 4 → c ≠ 5 → w1 c = w c) (hs : ∀ j, j ≠ 10 → (j < 92 ∨ 108 ≤ j) → s1 j = s j) (hT : pu_T w1 s1 3 10 92) : pu_W L w1 s1 := by
  obtain ⟨⟨hL, a10, b8⟩, ⟨hR, b9, hJ⟩, hCh, hlo, hF, -, hWi, hS, hE⟩ := hW
  have h0 : w1 0 = w 0 := hw 0 (by decide) (by decide) (by decide)
  have hn : pu_n L w1 = pu_n L w := pu_n_congr (by rw [h0])
  have hq := fun i => pu_q_r (i := i) hL
  refine ⟨⟨hL, by rw [h0]; exact a10, by rw [hs 8 (by omega) (by omega)]; exact b8⟩, ⟨by rw [h0]; exact hR, by rw [hs 9 (by omega) (by omega), h0]; exact b9, by rw [hw 2 (by decide) (by decide) (by decide)]; exact hJ⟩, fun i hi => ?_, ?_, ?_, hT, ?_, ?_, ?_⟩
  · have := hq i
    have hp := pu_p_r (i := i) hL
    rw [hn] at hi
    exact pu_C_congr (hCh i hi) (hw _ (by omega) (by omega) (by omega)) (fun d hd => hs _ (by omega) (by omega))
  · rw [hs 15 (by omega) (by omega), hlo]
    unfold pu_lost
    rw [hn]
    refine pu_sf_congr _ _ fun j _ _ => ?_
    have := hq j
    rw [hw (pu_q L j) (by omega) (by omega) (by omega)]
  · exact pu_F_congr hF (fun i _ => by rw [h0]) (fun j hj => hs j (by omega) (by omega))
  · exact pu_T_congr hWi (by rw [hw 6 (by omega) (by omega) (by omega)]) (fun i _ => by rw [hw _ (by omega) (by omega) (by omega)]) (fun i _ => by rw [hw _ (by omega) (by omega) (by omega)]) (hs 11 (by omega) (by omega)) (fun j h1 h2 => hs j (by omega) (by omega))
  · exact pu_S_congr hS (by rw [hw 9 (by omega) (by omega) (by omega)]) (fun i _ => by rw [hw _ (by omega) (by omega) (by omega)]) (fun i _ => by rw [hw _ (by omega) (by omega) (by omega)]) (fun i _ => by rw [hw _ (by omega) (by omega) (by omega)]) (hs 12 (by omega) (by omega)) (fun j h1 h2 => hs j (by omega) (by omega))
  · exact pu_E_congr hE (by rw [hw 13 (by omega) (by omega) (by omega)]) (by rw [hw 13 (by omega) (by omega) (by omega)]) (fun i _ => by rw [hw 14 (by omega) (by omega) (by omega)]) (hs 16 (by omega) (by omega)) (fun j h1 h2 => hs j (by omega) (by omega))
theorem pu_tgt44 {m : k_M} {N : Nat} (hN : N ≤ 8) (hw : m 1 10 = kn N) (x y : Int32) : ∀ (k i n : Nat), i + k = N → k < n → f_X11_setTarget_44 n m x y (kn i) = f_X11_setTarget_76 m x y (kn (pu_ix (fun j => m 1 (92 + 2 * j)) x i k)) := by
  intro k
  induction k with
  | zero =>
    intro i n hi hn
    obtain ⟨n, rfl⟩ : ∃ n9, n = n9 + 1 := ⟨n - 1, by omega⟩
    show f_X11_setTarget_44_b _ m x y (kn i) = _
    unfold f_X11_setTarget_44_b
    rw [hw, if_pos (by rw [kn_le (by omega) (by omega)]; omega)]
    rfl
  | succ k ih =>
    intro i n hi hn
    obtain ⟨n, rfl⟩ : ∃ n9, n = n9 + 1 := ⟨n - 1, by omega⟩
    show f_X11_setTarget_44_b _ m x y (kn i) = _
    unfold f_X11_setTarget_44_b
    rw [hw, if_neg (by rw [kn_le (by omega) (by omega)]; omega), kn_lmul, kn_ladd, k_ckn (by omega) (by decide), kn_nat (by omega)]
    rw [show (OfNat.ofNat 92 : Nat) + (OfNat.ofNat 2 : Nat) * i = 92 + 2 * i from rfl]
    by_cases h : m 1 (92 + 2 * i) = x
    · have e : pu_ix (fun j => m 1 (92 + 2 * j)) x i (k + 1) = i := if_pos h
      rw [if_pos h, e]
    · have e : pu_ix (fun j => m 1 (92 + 2 * j)) x i (k + 1) = pu_ix (fun j => m 1 (92 + 2 * j)) x (i + 1) k := if_neg h
      rw [if_neg h, e, k_lts, kn_addl]
      exact ih (i + 1) n (by omega) (by omega)
theorem pu_maxj {a b : Nat} (ha : a < 4000) (hb : b < 4000) : k_maxi (kn a) (kn b) = kn (if a < b then b else a) := by
  unfold k_maxi
  by_cases h : a < b
  · rw [if_pos (by rw [kn_lt (by omega) (by omega)]; exact h), if_pos h]
  · rw [if_neg (by rw [kn_lt (by omega) (by omega)]; exact h), if_neg h]
theorem pu_c36 {u : k_U} (h : pu_P u) (x1 x2 x3 x4 x5 : Int32) : ∃ u', kLsel 36 u x1 x2 x3 x4 x5 = some u' ∧ pu_P u' := by
  show ∃ u', (k_bd (k_wrap [1] (f_X10_setTarget u x1 x2)) fun r => k_bd (f_X11_setTarget (r.1 5) x1 x2) fun q => kLck r q) = some u' ∧ _
  obtain ⟨⟨L, hW⟩, -⟩ := id h
  have hw0 : pu_R u (k_up (u 5) 0 0 0) := pu_R_th 0 h
  have e1 : k_up (u 5) 0 0 0 1 = u 5 1 := k_upc _ _ (by decide)
  have hW0 : pu_W L (u 10) (k_up (u 5) 0 0 0 1) := by rw [e1]; exact hW
  by_cases hb : (1 ≤ x1 ∧ x1 ≤ 30000) ∧ (1 ≤ x2 ∧ x2 ≤ 400)
  · obtain ⟨hb1, hb2⟩ := hb
    obtain ⟨N, hN, t1, t2, t3⟩ := hW.2.2.2.2.2.1
    have hix : pu_ix (fun j => k_up (u 5) 0 0 0 1 (92 + 2 * j)) x1 0 N = pu_ix (u 10 4) x1 0 N := by
      rw [e1]
      exact pu_ix_congr _ _ (fun j _ hj => (t3 j (by omega)).1)
    have hr := pu_ix_r (f := u 10 4) (x := x1) N 0
    have em : f_X11_setTarget (u 5) x1 x2 = f_X11_setTarget_76 (k_up (u 5) 0 0 0) x1 x2 (kn (pu_ix (u 10 4) x1 0 N)) := by
      unfold f_X11_setTarget f_X11_setTarget_33
      rw [k_lts, pu_in, k_bds, if_pos hb1, if_neg (by decide), pu_in, k_bds, if_pos hb2, if_neg (by decide), pu_thr0 (pu_up00 0), k_bds, if_pos rfl, ← hix]
      exact pu_tgt44 hN (by show k_up (u 5) 0 0 0 1 10 = kn N; rw [e1]; exact t2) x1 x2 N 0 k_N (by omega) (by unfold k_N; omega)
    unfold f_X11_setTarget_76 at em
    generalize hX : f_X10_setTarget u x1 x2 = X
    unfold f_X10_setTarget at hX
    rw [if_neg (by grind), if_pos hb1.2, if_neg (by grind), if_pos hb2.2, pu_hasPlace hN t1, k_bds] at hX
    rw [show (3 + 1 : Nat) = 4 from rfl] at hX
    by_cases c1 : pu_ix (u 10 4) x1 0 N = 8
    · rw [c1, if_pos (by rfl)] at em
      rw [if_pos c1, if_pos rfl] at hX
      obtain ⟨u1, m1, r1, r2, r3, r4, r5⟩ := pu_refuseI hw0 (a := 9) (by decide) (by decide)
      refine pu_okw (F := fun m => f_X11_setTarget m x1 x2) (u' := u1) (v := -9) (q := m1) ?_ ?_ (by rw [r4, k_ups]) r3
      · rw [← hX, r1, k_bds]
      · show f_X11_setTarget (u1 5) x1 x2 = _
        rw [r5, em, r2, k_bds]
    · rw [if_neg (by rw [kn_eql (by omega) (by omega)]; exact c1)] at em
      rw [if_neg c1, if_neg (by decide)] at hX
      obtain ⟨u1, m1, r1, r2, r3, r4, r5, r6, r7⟩ := pu_begin hw0
      have hW1 : pu_W L (u1 10) (m1 1) := by
        rw [r4, r5, e1]
        exact hW
      obtain ⟨w', p1, p2, p3, p4, p5, p6⟩ := pu_put (w := u1 10) (tc := 3) hN (by rw [r4]; exact t1) x1 x2 (by rw [r4]; exact c1)
      rw [r4] at p1 p2 p4 p5
      rw [show (3 + 1 : Nat) = 4 from rfl] at p2 p4 p5
      rw [show (3 + 2 : Nat) = 5 from rfl] at p5
      generalize hj : pu_ix (u 10 4) x1 0 N = j at *
      have hcnt : k_maxi (kn N) (kn (j + 1)) = kn (if j = N then N + 1 else N) := by
        rw [pu_maxj (by omega) (by omega)]
        by_cases hjn : j = N
        · subst hjn
          rw [if_pos (by omega), if_pos rfl]
        · rw [if_neg (by omega), if_neg hjn]
      generalize hC : (if j = N then N + 1 else N) = C at *
      have hCr : C ≤ 8 ∧ j < C ∧ N ≤ C ∧ (∀ k, k < C → k ≠ j → k < N) := by
        rw [← hC]
        split
        · exact ⟨by omega, by omega, by omega, fun k a b => by omega⟩
        · exact ⟨by omega, by omega, by omega, fun k a b => by omega⟩
      generalize hm' : k_up (k_up (k_up m1 1 (92 + 2 * j) x1) 1 (92 + 2 * j + 1) x2) 1 10 (kn C) = m'
      have hm10 : m' 1 10 = kn C := by rw [← hm', k_ups]
      have hma : m' 1 (92 + 2 * j) = x1 := by rw [← hm', k_upi _ _ (by omega), k_upi _ _ (by omega), k_ups]
      have hmb : m' 1 (92 + 2 * j + 1) = x2 := by rw [← hm', k_upi _ _ (by omega), k_ups]
      have hmx : ∀ i, i ≠ 10 → i ≠ 92 + 2 * j → i ≠ 92 + 2 * j + 1 → m' 1 i = m1 1 i := fun i a b d => by rw [← hm', k_upi _ _ a, k_upi _ _ d, k_upi _ _ b]
      have hmc : ∀ c, c ≠ 1 → m' c = m1 c := fun c hc => by rw [← hm', k_upc _ _ hc, k_upc _ _ hc, k_upc _ _ hc]
      have hW2 : pu_W L w' (m' 1) := by
        refine pu_W_tgt hW1 p3 (fun i a b => hmx i a (by omega) (by omega)) ⟨C, hCr.1, p2, hm10, fun k hk => ?_⟩
        rw [show (3 + 1 : Nat) = 4 from rfl, show (3 + 2 : Nat) = 5 from rfl, p4, p5]
        by_cases hkj : k = j
        · subst hkj
          rw [if_pos rfl, if_pos rfl]
          exact ⟨hma, hmb⟩
        · rw [if_neg hkj, if_neg hkj, hmx _ (by omega) (by omega) (by omega), hmx _ (by omega) (by omega) (by omega), r5, e1]
          exact t3 k (hCr.2.2.2 k hk hkj)
      refine pu_okw (F := fun m => f_X11_setTarget m x1 x2) (u' := k_uc u1 10 w') (v := kn C) (q := m') ?_ ?_ (by rw [hmc 0 (by decide), r6, k_ups]) (pu_R_w r3 hW2 hmc)
      · rw [← hX, r1, k_bds, r4, p1, k_bds, k_lts, k_uc_s, p2]
      · show f_X11_setTarget (k_uc u1 10 w' 5) x1 x2 = _
        rw [pu_uc _ _ (by decide), r7, em, r2, k_bds, kn_lmul, kn_ladd, k_ckn (by omega) (by decide), kn_nat (by omega), k_lts, kn_addl, k_ckn (by omega) (by decide), kn_nat (by omega), k_lts, kn_addl]
        rw [show (OfNat.ofNat 92 : Nat) + (OfNat.ofNat 2 : Nat) * j = 92 + 2 * j from rfl, show 92 + 2 * j + (OfNat.ofNat 1 : Nat) = 92 + 2 * j + 1 from rfl, show j + (OfNat.ofNat 1 : Nat) = j + 1 from rfl]
        rw [k_upi _ _ (show 10 ≠ 92 + 2 * j + 1 by omega), k_upi _ _ (show 10 ≠ 92 + 2 * j by omega), show m1 1 10 = kn N by rw [r5, e1]; exact t2, hcnt, k_lts, hm', hm10]
  · refine pu_erw (F := fun m => f_X11_setTarget m x1 x2) (u' := u) (j := 1) (v := 0) (q := k_up (k_up (u 5) 0 0 0) 0 0 1) ?_ (by decide) ?_ (by rw [k_ups]; rfl) (by decide) (pu_R_th 1 hw0)
    · unfold f_X10_setTarget f_X10_setTarget_12 f_X10_setTarget_35
      by_cases h1 : x1 < 1
      · rw [if_pos h1]
      · rw [if_neg h1]
        by_cases h2 : x1 ≤ 30000
        · rw [if_pos h2]
          by_cases h3 : x2 < 1
          · rw [if_pos h3]
          · rw [if_neg h3, if_neg (by grind)]
        · rw [if_neg h2]
    · show f_X11_setTarget (u 5) x1 x2 = _
      unfold f_X11_setTarget f_X11_setTarget_28 f_X11_setTarget_33
      rw [k_lts, pu_in, k_bds, pu_thr1 (pu_up00 0) (Or.inl rfl), k_bds, if_neg (show ¬ (1 : Int32) = 0 by decide)]
      by_cases h1 : 1 ≤ x1 ∧ x1 ≤ 30000
      · rw [if_pos h1, if_neg (by decide), pu_in, k_bds, if_neg (fun h2 => hb ⟨h1, h2⟩), if_pos rfl]
      · rw [if_neg h1, if_pos rfl]
/-! jam -/
theorem pu_jam60 {L : Nat} {w m : k_M} (hW : pu_W L w (m 1)) (x y : Int32) : ∀ (k i n : Nat) (acc : Int32), i + k = L → k < n → f_X11_jam_60 n m x y acc (kn i) = some (m, acc + pu_sf (pu_fj w) i k) := by
  have hL : L ≤ 8 := hW.1.1
  intro k
  induction k with
  | zero =>
    intro i n acc hi hn
    obtain ⟨n, rfl⟩ : ∃ n9, n = n9 + 1 := ⟨n - 1, by omega⟩
    show f_X11_jam_60_b _ m x y acc (kn i) = _
    unfold f_X11_jam_60_b
    rw [hW.1.2.2, if_pos (by rw [kn_le (by omega) (by omega)]; omega)]
    exact congrArg (fun z => some (m, z)) (Int32.add_zero acc).symm
  | succ k ih =>
    intro i n acc hi hn
    obtain ⟨n, rfl⟩ : ∃ n9, n = n9 + 1 := ⟨n - 1, by omega⟩
    have hr := pu_rel65 hW i (by omega)
    have es : pu_sf (pu_fj w) i (k + 1) = pu_fj w i + pu_sf (pu_fj w) (i + 1) k := rfl
    have efj : pu_fj w i = if w (15 + i) 5 = 0 then w (15 + i) 6 else 0 := rfl
    show f_X11_jam_60_b _ m x y acc (kn i) = _
    unfold f_X11_jam_60_b f_X11_jam_100
    rw [hW.1.2.2, if_neg (by rw [kn_le (by omega) (by omega)]; omega), kn_ladd, kn_ladd, k_ckn (by omega) (by decide), k_ckn (by omega) (by decide), kn_nat (by omega), kn_nat (by omega)]
    rw [show (OfNat.ofNat 65 : Nat) + i = 65 + i from rfl, show (OfNat.ofNat 83 : Nat) + i = 83 + i from rfl, hr.1, hr.2.2.2.2, k_lts, k_lts, k_lts, k_lts, kn_addl, es, efj]
    by_cases h : w (15 + i) 5 = 0
    · rw [if_pos h, if_pos h]
      refine (ih (i + 1) n _ (by omega) (by omega)).trans ?_
      rw [Int32.add_assoc]
    · rw [if_neg h, if_neg h]
      refine (ih (i + 1) n _ (by omega) (by omega)).trans ?_
      rw [Int32.add_assoc]
theorem pu_jamW {L i : Nat} {w m : k_M} (hW : pu_W L w (m 1)) (hi : i < L) {v : Int32} (hv : v = 0 ∨ v = 1) (h5 : w (15 + i) 5 = 0) : pu_W L (k_up w (15 + i) 6 v) ((k_up m 1 (83 + i) v) 1) := by
  have hL : L ≤ 8 := hW.1.1
  have hin : i < pu_n L w := pu_n_L hi
  have hC := hW.2.2.1 i hin
  have hlo := hW.2.2.2.1
  have hE := hW.2.2.2.2.2.2.2.2
  rw [pu_q_l hi, pu_p_l hi] at hC
  refine pu_W_chg hW hin (fun c a _ _ => by rw [pu_q_l hi] at a; exact k_upc _ _ a) (fun j h1 h2 h3 h4 h5 h6 => by rw [pu_p_l hi] at h6; exact k_upi _ _ h6) ?_ ?_ ?_
  · rw [pu_q_l hi, pu_p_l hi]
    obtain ⟨ar, li, st, t, g1, g2, g3, g4, ⟨k0, k1, k2, k7⟩, g6, g7, g8, ⟨q0, q1, q2, q3, q4, q5, q6, q7⟩⟩ := hC
    have hx : ∀ j, j ≠ 6 → k_up w (15 + i) 6 v (15 + i) j = w (15 + i) j := fun j hj => k_upi _ _ hj
    have hy : ∀ j, j ≠ 83 + i → k_up m 1 (83 + i) v 1 j = m 1 j := fun j hj => k_upi _ _ hj
    refine ⟨ar, li, st, t, ⟨g1.1, g1.2.1, by rw [hx 5 (by omega)]; exact g1.2.2⟩, g2, g3, g4, ⟨by rw [hx 0 (by omega)]; exact k0, by rw [hx 1 (by omega)]; exact k1, by rw [hx 2 (by omega)]; exact k2, by rw [hx 7 (by omega)]; exact k7⟩, by rw [hx 5 (by omega)]; exact g6, by rw [hx 5 (by omega)]; exact g7, by rw [k_ups]; exact hv, ⟨by rw [hy _ (by omega)]; exact q0, by rw [hy _ (by omega)]; exact q1, by rw [hy _ (by omega)]; exact q2, by rw [hy _ (by omega), hx 3 (by omega)]; exact q3, by rw [hy _ (by omega), hx 4 (by omega)]; exact q4, by rw [hy _ (by omega), hx 5 (by omega)]; exact q5, by rw [hy _ (by omega)]; exact q6, by rw [k_ups, k_ups]⟩⟩
  · exact pu_E_congr hE (by rw [k_upc _ _ (by omega)]) (by rw [k_upc _ _ (by omega)]) (fun i _ => by rw [k_upc _ _ (by omega)]) (k_upi _ _ (by omega)) (fun j h1 h2 => k_upi _ _ (by omega))
  · rw [k_upi _ _ (by omega), hlo, pu_lost_keep (w := w) (w1 := k_up w (15 + i) 6 v) hL hin (by rw [k_upc _ _ (by omega)]) (fun c h1 h2 => by rw [pu_q_l hi] at h1; exact k_upc _ _ h1) (by rw [pu_q_l hi, h5]; decide) (by rw [pu_q_l hi, k_upi _ _ (by decide), h5]; decide)]
theorem pu_c37 {u : k_U} (h : pu_P u) (x1 x2 x3 x4 x5 : Int32) : ∃ u', kLsel 37 u x1 x2 x3 x4 x5 = some u' ∧ pu_P u' := by
  show ∃ u', (k_bd (k_wrap [2] (f_X10_jam u x1 (if x2 = 0 then 0 else 1))) fun r => k_bd (f_X11_jam (r.1 5) x1 (if x2 = 0 then 0 else 1)) fun q => kLck r q) = some u' ∧ _
  have hv : ((if x2 = 0 then 0 else 1 : Int32) = 0) ∨ ((if x2 = 0 then 0 else 1 : Int32) = 1) := by
    by_cases h9 : x2 = 0
    · rw [if_pos h9]
      exact Or.inl rfl
    · rw [if_neg h9]
      exact Or.inr rfl
  generalize (if x2 = 0 then 0 else 1 : Int32) = v at hv ⊢
  obtain ⟨⟨L, hW⟩, -⟩ := id h
  have hw0 : pu_R u (k_up (u 5) 0 0 0) := pu_R_th 0 h
  have hL : L ≤ 8 := hW.1.1
  have e1 : k_up (u 5) 0 0 0 1 = u 5 1 := k_upc _ _ (by decide)
  have em : f_X11_noLayer (k_up (u 5) 0 0 0) x1 = _ := pu_noLayer (L := L) (by omega) (pu_up00 0) (by rw [e1]; exact hW.1.2.2) x1
  by_cases hb : 0 ≤ x1 ∧ x1 < kn L
  · obtain ⟨i, hi, rfl⟩ := kn_ofm hb.1 hb.2 (by omega)
    rw [if_pos hb] at em
    have hrel := pu_rel65 hW i hi
    have em2 : f_X11_jam (u 5) (kn i) v = _ := rfl
    conv at em2 => rhs; unfold f_X11_jam
    rw [k_lts, em, k_bds, if_pos rfl, kn_ladd, kn_ladd, k_ckn (by omega) (by decide), kn_nat (by omega)] at em2
    rw [show (OfNat.ofNat 65 : Nat) + i = 65 + i from rfl, show (OfNat.ofNat 83 : Nat) + i = 83 + i from rfl] at em2
    rw [show (k_up (u 5) 0 0 0, (0 : Int32)).1 = k_up (u 5) 0 0 0 from rfl, e1, hrel.1] at em2
    generalize hX : f_X10_jam u (kn i) v = X
    unfold f_X10_jam at hX
    rw [pu_hasI hL hW.1.2.1, if_pos hb, k_bds, if_neg (by decide), pu_at hL hW.1.2.1 (by omega), k_bds, pu_q_l hi, k_ckp (by omega)] at hX
    by_cases c1 : u 10 (15 + i) 5 = 0
    · rw [if_pos c1] at em2 hX
      obtain ⟨u1, m1, r1, r2, r3, r4, r5, r6, r7⟩ := pu_begin hw0
      have hW1 : pu_W L (u1 10) (m1 1) := by
        rw [r4, r5, e1]
        exact hW
      have hW2 := pu_jamW hW1 hi hv (by rw [r4]; exact c1)
      refine pu_okw (F := fun m => f_X11_jam m (kn i) v) (u' := k_uc u1 10 (k_up (u1 10) (15 + i) 6 v)) (v := pu_sf (pu_fj (k_up (u1 10) (15 + i) 6 v)) 0 L) (q := k_up m1 1 (83 + i) v) ?_ ?_ (by rw [k_upc _ _ (by decide), r6, k_ups]) (pu_R_w r3 hW2 (fun c hc => k_upc _ _ hc))
      · rw [← hX, r1, k_bds, k_ckp hv, k_lts, k_uc_s, pu_jam_c hL hW2.1.2.1 (fun j hj => (pu_rel65 hW2 j hj).2.2.2.1), k_bds]
      · show f_X11_jam (k_uc u1 10 (k_up (u1 10) (15 + i) 6 v) 5) (kn i) v = _
        have hl := pu_jam60 hW2 (kn i) v L 0 k_N 0 (by omega) (by unfold k_N; omega)
        rw [Int32.zero_add] at hl
        have h54 : f_X11_jam_54 m1 (kn i) v v (kn (83 + i)) = some (k_up m1 1 (83 + i) v, pu_sf (pu_fj (k_up (u1 10) (15 + i) 6 v)) 0 L) := by
          unfold f_X11_jam_54
          rw [k_ckn (by omega) (by decide), kn_nat (by omega), k_lts]
          exact hl
        rw [pu_uc _ _ (by decide), r7, em2, r2, k_bds, ← h54]
        rcases hv with hv | hv
        · rw [hv, if_pos rfl]
        · rw [hv, if_neg (by decide)]
    · rw [if_neg c1] at em2 hX
      obtain ⟨u1, m1, r1, r2, r3, r4, r5⟩ := pu_refuseI hw0 (a := 3) (by decide) (by decide)
      refine pu_okw (F := fun m => f_X11_jam m (kn i) v) (u' := u1) (v := -3) (q := m1) ?_ ?_ (by rw [r4, k_ups]) r3
      · rw [← hX, r1, k_bds]
      · show f_X11_jam (u1 5) (kn i) v = _
        rw [r5, em2, r2, k_bds]
  · rw [if_neg hb] at em
    refine pu_erw (F := fun m => f_X11_jam m x1 v) (u' := u) (j := 2) (v := 0) (q := k_up (k_up (u 5) 0 0 0) 0 0 1) ?_ (by decide) ?_ (by rw [k_ups]; rfl) (by decide) (pu_R_th 1 hw0)
    · unfold f_X10_jam
      rw [pu_hasI hL hW.1.2.1, if_neg hb, k_bds, if_pos rfl]
    · show f_X11_jam (u 5) x1 v = _
      unfold f_X11_jam
      rw [k_lts, em, k_bds, if_neg (show ¬ (1 : Int32) = 0 by decide)]

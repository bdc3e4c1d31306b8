/-! the end of a second, many seconds -/
theorem pu_maxi (a b : Nat) (ha : a < 2147483648) (hb : b < 2147483648) : k_maxi (kn a) (kn b) = kn (max a b) := by
  unfold k_maxi
  simp only [kn_lt ha hb]
  by_cases h : a < b
  · rw [if_pos h, Nat.max_eq_right (by omega)]
  · rw [if_neg h, Nat.max_eq_left (by omega)]
theorem pu_mini (a b : Nat) (ha : a < 2147483648) (hb : b < 2147483648) : k_mini (kn a) (kn b) = kn (min a b) := by
  unfold k_mini
  simp only [kn_lt hb ha]
  by_cases h : b < a
  · rw [if_pos h, Nat.min_eq_right (by omega)]
  · rw [if_neg h, Nat.min_eq_left (by omega)]
theorem pu_maxl (a b : Nat) (ha : a < 2147483648) (hb : b < 2147483648) : k_maxl (ln a) (ln b) = ln (max a b) := by
  unfold k_maxl
  have e : (ln b < ln a) = (b < a) := by
    rw [Int64.lt_iff_toInt_lt, ln_int (by omega), ln_int (by omega)]
    exact propext (by omega)
  simp only [e]
  by_cases h : b < a
  · rw [if_pos h, Nat.max_eq_left (by omega)]
  · rw [if_neg h, Nat.max_eq_right (by omega)]
theorem ln_kn (n : Nat) : (ln n).toInt32 = kn n := Int64.toInt32_ofNat'
theorem ln_sub {a b : Nat} (h : b ≤ a) : ln a - ln b = ln (a - b) := by
  have e : ln a = ln (a - b) + ln b := by
    refine Eq.trans ?_ (Int64.ofNat_add (a - b) b)
    rw [Nat.sub_add_cancel h]
    rfl
  rw [e]
  exact Int64.add_sub_cancel _ _
theorem pu_speed {v B ma : Nat} (hv : v ≤ 900) (hB : B ≤ 9000000) (hm : 1 ≤ ma ∧ ma ≤ 99) : (∃ V, 1 ≤ V ∧ V ≤ v + 10 ∧ k_maxi (k_maxi (((kn v + 10).toInt64 - (ln B / (kn ma).toInt64)).toInt32) (kn v / 2)) 1 = kn V ∧ (k_maxl (1 : Int64) (k_maxl ((kn v + 10).toInt64 - (ln B / (kn ma).toInt64)) ((kn v / 2).toInt64))).toInt32 = kn V) ∧ ¬ (kn ma).toInt64 = 0 := by
  have hD : B / ma ≤ B := Nat.div_le_self B ma
  rw [kn_ln (n := ma) (by omega)]
  refine ⟨?_, ln_ne0 (by omega) (by omega)⟩
  rw [ln_div (by omega) (by omega) (by omega), kn_addl, kn_ln (by omega), kn_divl (by omega) (by omega), kn_ln (by omega)]
  generalize B / ma = D at hD
  by_cases h : D ≤ v + 10
  · rw [ln_sub h, ln_kn]
    refine ⟨max (max (v + 10 - D) (v / 2)) 1, by omega, by omega, ?_, ?_⟩
    · rw [pu_maxi _ _ (by omega) (by omega), show (1 : Int32) = kn 1 from rfl, pu_maxi _ _ (by omega) (by omega)]
    · rw [pu_maxl _ _ (by omega) (by omega), show (1 : Int64) = ln 1 from rfl, pu_maxl _ _ (by omega) (by omega), ln_kn]
      congr 1
      omega
  · refine ⟨max (v / 2) 1, by omega, by omega, ?_, ?_⟩
    · have e : (ln (v + 10) - ln D).toInt32 < kn (v / 2) := by
        rw [Int64.toInt32_sub, ln_kn, ln_kn, Int32.lt_iff_toInt_lt, Int32.toInt_sub, kn_int (by omega), kn_int (by omega), kn_int (by omega), Int.bmod_eq_of_le (by omega) (by omega)]
        omega
      rw [show k_maxi (ln (v + 10) - ln D).toInt32 (kn (v / 2)) = kn (v / 2) by unfold k_maxi; rw [if_pos e], show (1 : Int32) = kn 1 from rfl, pu_maxi _ _ (by omega) (by omega)]
    · have e : ¬ ln (v / 2) < ln (v + 10) - ln D := by
        rw [Int64.lt_iff_toInt_lt, Int64.toInt_sub, ln_int (by omega), ln_int (by omega), ln_int (by omega), Int.bmod_eq_of_le (by omega) (by omega)]
        omega
      rw [show k_maxl (ln (v + 10) - ln D) (ln (v / 2)) = ln (v / 2) by unfold k_maxl; rw [if_neg e], show (1 : Int64) = ln 1 from rfl, pu_maxl _ _ (by omega) (by omega), ln_kn, Nat.max_comm]
theorem pu_heat (z : Int32) : k_mini (k_maxi z 0) 999 = k_mini 999 (k_maxi 0 z) ∧ ∃ n : Nat, n ≤ 999 ∧ k_mini 999 (k_maxi 0 z) = kn n := by
  refine ⟨?_, ?_⟩
  · unfold k_mini k_maxi
    grind
  · have h1 : 0 ≤ k_mini 999 (k_maxi 0 z) := by
      unfold k_mini k_maxi
      grind
    have h2 : k_mini 999 (k_maxi 0 z) < kn 1000 := by
      show k_mini 999 (k_maxi 0 z) < 1000
      unfold k_mini k_maxi
      grind
    obtain ⟨n, hn, e⟩ := kn_ofm h1 h2 (by omega)
    exact ⟨n, by omega, e⟩
theorem pu_energy {h v V : Nat} (hh : 0 < h) (he : 20 * h + v * v + 10 * v ≤ 764000) (hV : V ≤ v + 10) (hV1 : 1 ≤ V) : V ≤ 900 ∧ (V < h → 20 * (h - V) + V * V + 10 * V ≤ 764000) := by
  have hv : v ≤ 869 := by
    refine Nat.le_of_not_lt fun h9 => ?_
    have : 870 * 870 ≤ v * v := Nat.mul_le_mul h9 h9
    omega
  refine ⟨by omega, fun hlt => ?_⟩
  have h1 : V * V ≤ V * (v + 10) := Nat.mul_le_mul (Nat.le_refl V) hV
  have h2 : V * v ≤ (v + 10) * v := Nat.mul_le_mul hV (Nat.le_refl v)
  rw [Nat.mul_add] at h1
  rw [Nat.add_mul] at h2
  omega
/-- the capsule's numbers alone change -/
theorem pu_W_scal {L : Nat} {w w1 : k_M} {s s1 : Nat → Int32} (hW : pu_W L w s) (hw : ∀ c, c ≠ 0 → w1 c = w c) (h10 : w1 0 10 = w 0 10) (h11 : w1 0 11 = w 0 11) (hs : ∀ j, 8 ≤ j → j ≠ 13 → j ≠ 14 → s1 j = s j) (hF : pu_F w1 s1) : pu_W L w1 s1 := by
  obtain ⟨⟨hL, a10, b8⟩, ⟨hR, b9, hJ⟩, hCh, hlo, -, hT, hWi, hS, hE⟩ := hW
  have hn : pu_n L w1 = pu_n L w := pu_n_congr h11
  have hq := fun i => pu_q_r (i := i) hL
  refine ⟨⟨hL, by rw [h10]; exact a10, by rw [hs 8 (by omega) (by omega) (by omega)]; exact b8⟩, ⟨by rw [h11]; exact hR, by rw [hs 9 (by omega) (by omega) (by omega), h11]; exact b9, by rw [hw 2 (by omega)]; exact hJ⟩, fun i hi => ?_, ?_, hF, ?_, ?_, ?_, ?_⟩
  · rw [hn] at hi
    have := hq i
    exact pu_C_congr (hCh i hi) (hw _ (by omega)) (fun d hd => hs _ (by omega) (by omega) (by omega))
  · rw [hs 15 (by omega) (by omega) (by omega), hlo]
    unfold pu_lost
    rw [hn]
    refine pu_sf_congr _ _ fun j _ _ => ?_
    have := hq j
    rw [hw _ (by omega)]
  · exact pu_T_congr hT (by rw [hw 3 (by omega)]) (fun i _ => by rw [hw _ (by omega)]) (fun i _ => by rw [hw _ (by omega)]) (hs 10 (by omega) (by omega) (by omega)) (fun j h1 h2 => hs j (by omega) (by omega) (by omega))
  · exact pu_T_congr hWi (by rw [hw 6 (by omega)]) (fun i _ => by rw [hw _ (by omega)]) (fun i _ => by rw [hw _ (by omega)]) (hs 11 (by omega) (by omega) (by omega)) (fun j h1 h2 => hs j (by omega) (by omega) (by omega))
  · exact pu_S_congr hS (by rw [hw 9 (by omega)]) (fun i _ => by rw [hw _ (by omega)]) (fun i _ => by rw [hw _ (by omega)]) (fun i _ => by rw [hw _ (by omega)]) (hs 12 (by omega) (by omega) (by omega)) (fun j h1 h2 => hs j (by omega) (by omega) (by omega))
  · exact pu_E_congr hE (by rw [hw 13 (by omega)]) (by rw [hw 13 (by omega)]) (fun i _ => by rw [hw 14 (by omega)]) (hs 16 (by omega) (by omega) (by omega)) (fun j h1 h2 => hs j (by omega) (by omega) (by omega))
/-- events alone change -/
theorem pu_W_ev {L : Nat} {w w1 : k_M} {s s1 : Nat → Int32} (hW : pu_W L w s) (hw : ∀ c, c ≠ 13 → c ≠ 14 → w1 c = w c) (hs : ∀ j, j < 148 → j ≠ 16 → s1 j = s j) (hE : pu_E w1 s1) : pu_W L w1 s1 := by
  obtain ⟨⟨hL, a10, b8⟩, ⟨hR, b9, hJ⟩, hCh, hlo, hF, hT, hWi, hS, -⟩ := hW
  have h0 : w1 0 = w 0 := hw 0 (by omega) (by omega)
  have hn : pu_n L w1 = pu_n L w := pu_n_congr (by rw [h0])
  have hq := fun i => pu_q_r (i := i) hL
  refine ⟨⟨hL, by rw [h0]; exact a10, by rw [hs 8 (by omega) (by omega)]; exact b8⟩, ⟨by rw [h0]; exact hR, by rw [hs 9 (by omega) (by omega), h0]; exact b9, by rw [hw 2 (by omega) (by omega)]; exact hJ⟩, fun i hi => ?_, ?_, ?_, ?_, ?_, ?_, hE⟩
  · rw [hn] at hi
    have := hq i
    have hp := pu_p_r (i := i) hL
    exact pu_C_congr (hCh i hi) (hw _ (by omega) (by omega)) (fun d hd => hs _ (by omega) (by omega))
  · rw [hs 15 (by omega) (by omega), hlo]
    unfold pu_lost
    rw [hn]
    refine pu_sf_congr _ _ fun j _ _ => ?_
    have := hq j
    rw [hw _ (by omega) (by omega)]
  · exact pu_F_congr hF (fun i _ => by rw [h0]) (fun j hj => hs j (by omega) (by omega))
  · exact pu_T_congr hT (by rw [hw 3 (by omega) (by omega)]) (fun i _ => by rw [hw _ (by omega) (by omega)]) (fun i _ => by rw [hw _ (by omega) (by omega)]) (hs 10 (by omega) (by omega)) (fun j h1 h2 => hs j (by omega) (by omega))
  · exact pu_T_congr hWi (by rw [hw 6 (by omega) (by omega)]) (fun i _ => by rw [hw _ (by omega) (by omega)]) (fun i _ => by rw [hw _ (by omega) (by omega)]) (hs 11 (by omega) (by omega)) (fun j h1 h2 => hs j (by omega) (by omega))
  · exact pu_S_congr hS (by rw [hw 9 (by omega) (by omega)]) (fun i _ => by rw [hw _ (by omega) (by omega)]) (fun i _ => by rw [hw _ (by omega) (by omega)]) (fun i _ => by rw [hw _ (by omega) (by omega)]) (hs 12 (by omega) (by omega)) (fun j h1 h2 => hs j (by omega) (by omega))
/-- TIME becomes one more -/
theorem pu_time {L : Nat} {w m : k_M} (hW : pu_W L w (m 1)) : pu_W L (k_up w 0 6 (w 0 6 + 1)) ((k_up m 1 6 (m 1 6 + 1)) 1) := by
  obtain ⟨h, v, he, ma, h1, h2, ⟨a0, a1, a4, a3⟩, ⟨b0, b1, b4, b3⟩, c2, c5, c6, c7, c13, c14⟩ := id hW.2.2.2.2.1
  have x : ∀ j, j ≠ 6 → (k_up w 0 6 (w 0 6 + 1)) 0 j = w 0 j := fun j hj => k_upi _ _ hj
  have y : ∀ j, j ≠ 6 → (k_up m 1 6 (m 1 6 + 1)) 1 j = m 1 j := fun j hj => k_upi _ _ hj
  refine pu_W_scal hW (fun c hc => k_upc _ _ hc) (x 10 (by omega)) (x 11 (by omega)) (fun j h1 h2 h3 => y j (by omega)) ⟨h, v, he, ma, h1, h2, ⟨by rw [x 0 (by omega)]; exact a0, by rw [x 1 (by omega)]; exact a1, by rw [x 4 (by omega)]; exact a4, by rw [x 3 (by omega)]; exact a3⟩, ⟨by rw [y 0 (by omega)]; exact b0, by rw [y 1 (by omega)]; exact b1, by rw [y 4 (by omega)]; exact b4, by rw [y 3 (by omega)]; exact b3⟩, by rw [y 2 (by omega), x 2 (by omega)]; exact c2, by rw [y 5 (by omega), x 5 (by omega)]; exact c5, by rw [k_ups, k_ups, c6], by rw [y 7 (by omega), x 7 (by omega)]; exact c7, by rw [y 13 (by omega), x 8 (by omega)]; exact c13, by rw [y 14 (by omega), x 9 (by omega)]; exact c14⟩
theorem pu_end2 {L h V HE ma : Nat} {w0 w1 m0 m1 : k_M} (hW : pu_W L w0 (m0 1)) (hw : ∀ c, c ≠ 0 → w1 c = w0 c) (g10 : w1 0 10 = w0 0 10) (g11 : w1 0 11 = w0 0 11) (hs : ∀ j, 8 ≤ j → j ≠ 13 → j ≠ 14 → m1 1 j = m0 1 j) (hh : 0 < h ∧ h ≤ 30000) (hV : 1 ≤ V ∧ V ≤ 900) (hHE : HE ≤ 999) (hma : 1 ≤ ma ∧ ma ≤ 99) (hen : V < h → 20 * (h - V) + V * V + 10 * V ≤ 764000)
    (a0 : w1 0 0 = kn h) (a1 : w1 0 1 = kn V) (a4 : w1 0 4 = kn HE) (a3 : w1 0 3 = kn ma) (b0 : m1 1 0 = kn h) (b1 : m1 1 1 = kn V) (b4 : m1 1 4 = kn HE) (b3 : m1 1 3 = kn ma) (c2 : m1 1 2 = w1 0 2) (c5 : m1 1 5 = w1 0 5) (c6 : m1 1 6 = w1 0 6) (c7 : m1 1 7 = w1 0 7) (c13 : m1 1 13 = w1 0 8) (c14 : m1 1 14 = w1 0 9) :
    ∃ w' m', f_X9_passSecond_166 w1 = some w' ∧ f_X11_second_279 m1 = some m' ∧ pu_W L w' (m' 1) ∧ (∀ c, c ≠ 1 → m' c = m1 c) ∧ w' 0 11 = w0 0 11 ∧ pu_kp w0 w' := by
  unfold f_X9_passSecond_166 f_X11_second_279
  have em : k_mini (kn V) (kn h) = kn (min V h) := pu_mini V h (by omega) (by omega)
  have em2 : k_mini (kn h) (kn V) = kn (min V h) := by rw [pu_mini h V (by omega) (by omega), Nat.min_comm]
  have ef := c13
  rw [a0, a1, b0, b1, em, em2]
  simp only [k_lts]
  rw [kn_sub (Nat.min_le_right V h), k_upi w1 (c := 0) (i := 0) (i' := 8) _ (by omega), k_upi m1 (c := 1) (i := 0) (i' := 13) _ (by omega), ef]
  generalize hw2e : k_up (k_up w1 0 0 (kn (h - min V h))) 0 8 (w1 0 8 + kn (min V h)) = w2
  generalize hm2e : k_up (k_up m1 1 0 (kn (h - min V h))) 1 13 (w1 0 8 + kn (min V h)) = m2
  have x : ∀ j, j ≠ 0 → j ≠ 8 → w2 0 j = w1 0 j := fun j h1 h2 => by rw [← hw2e, k_upi _ _ h2, k_upi _ _ h1]
  have x0 : w2 0 0 = kn (h - min V h) := by rw [← hw2e, k_upi _ _ (by omega), k_ups]
  have x8 : w2 0 8 = w1 0 8 + kn (min V h) := by rw [← hw2e, k_ups]
  have xc : ∀ c, c ≠ 0 → w2 c = w1 c := fun c hc => by rw [← hw2e, k_upc _ _ hc, k_upc _ _ hc]
  have y : ∀ j, j ≠ 0 → j ≠ 13 → m2 1 j = m1 1 j := fun j h1 h2 => by rw [← hm2e, k_upi _ _ h2, k_upi _ _ h1]
  have y0 : m2 1 0 = kn (h - min V h) := by rw [← hm2e, k_upi _ _ (by omega), k_ups]
  have y13 : m2 1 13 = w1 0 8 + kn (min V h) := by rw [← hm2e, k_ups]
  have yc : ∀ c, c ≠ 1 → m2 c = m1 c := fun c hc => by rw [← hm2e, k_upc _ _ hc, k_upc _ _ hc]
  have hW2 : pu_W L w2 (m2 1) := by
    refine pu_W_scal hW (fun c hc => by rw [xc c hc, hw c hc]) (by rw [x 10 (by omega) (by omega), g10]) (by rw [x 11 (by omega) (by omega), g11]) (fun j h1 h2 h3 => by rw [y j (by omega) h2, hs j h1 h2 h3]) ⟨h - min V h, V, HE, ma, ⟨by omega, hV.2, hHE, hma.1, hma.2⟩, fun hp => ?_, ⟨x0, by rw [x 1 (by omega) (by omega)]; exact a1, by rw [x 4 (by omega) (by omega)]; exact a4, by rw [x 3 (by omega) (by omega)]; exact a3⟩, ⟨y0, by rw [y 1 (by omega) (by omega)]; exact b1, by rw [y 4 (by omega) (by omega)]; exact b4, by rw [y 3 (by omega) (by omega)]; exact b3⟩, by rw [y 2 (by omega) (by omega), x 2 (by omega) (by omega)]; exact c2, by rw [y 5 (by omega) (by omega), x 5 (by omega) (by omega)]; exact c5, by rw [y 6 (by omega) (by omega), x 6 (by omega) (by omega)]; exact c6, by rw [y 7 (by omega) (by omega), x 7 (by omega) (by omega)]; exact c7, by rw [y13, x8], by rw [y 14 (by omega) (by omega), x 9 (by omega) (by omega)]; exact c14⟩
    have : min V h = V := Nat.min_eq_left (by omega)
    rw [this]
    exact hen (by omega)
  unfold f_X9_hasLanded
  rw [x0, y0]
  simp (disch := omega) only [kn_eql]
  by_cases hz : h - min V h = 0
  · rw [if_pos hz, k_bds, if_neg (show ¬ (1 : Int32) = 0 by decide), if_pos hz]
    obtain ⟨q0, q1⟩ := pu_rel01 hW2
    obtain ⟨-, -, -, -, -, -, -, -, k2, -, k6, -⟩ := id hW2.2.2.2.2.1
    obtain ⟨r, r1, r2⟩ := pu_result hW2.2.2.2.2.2.2.2.1 q0 q1 k2 (by rw [x0, kn_lle (by omega) (by omega)]; omega)
    obtain ⟨w3, m3, e1, e2, e3, e4, e5, e6⟩ := pu_tells hW2.2.2.2.2.2.2.2.2 k6 6 (-1) r
    rw [r1, r2, k_bds, k_bds, e1, e2, k_bds, k_bds]
    have hW3 := pu_W_ev hW2 e3 e5 e6
    exact ⟨_, _, rfl, rfl, pu_time hW3, fun c hc => by rw [k_upc _ _ hc, e4 c hc, yc c hc], by rw [k_upi _ _ (by omega), e3 0 (by omega) (by omega), x 11 (by omega) (by omega), g11], fun c a b => by rw [k_upc _ _ (by omega), e3 c (by omega) (by omega), xc c (by omega), hw c (by omega)]⟩
  · rw [if_neg hz, k_bds, if_pos rfl, if_neg hz]
    exact ⟨_, _, rfl, rfl, pu_time hW2, fun c hc => by rw [k_upc _ _ hc, yc c hc], by rw [k_upi _ _ (by omega), x 11 (by omega) (by omega), g11], fun c a b => by rw [k_upc _ _ (by omega), xc c (by omega), hw c (by omega)]⟩
/-- how many are open, as a number -/
theorem pu_cnt {L : Nat} {w : k_M} {st : Int32} : ∀ (k i : Nat), k < 100 → ∃ c : Nat, c ≤ k ∧ pu_sf (pu_fs L w st) i k = kn c ∧ (c = 0 ↔ ∀ j, i ≤ j → j < i + k → ¬ w (pu_q L j) 5 = st) := by
  intro k
  induction k with
  | zero => intro i _; exact ⟨0, Nat.le_refl _, rfl, fun _ j h1 h2 => by omega, fun _ => rfl⟩
  | succ k ih =>
    intro i hk
    obtain ⟨c, c1, c2, c3⟩ := ih (i + 1) (by omega)
    by_cases h : w (pu_q L i) 5 = st
    · refine ⟨c + 1, by omega, ?_, fun h9 => by omega, fun h9 => absurd h (h9 i (Nat.le_refl _) (by omega))⟩
      show pu_fs L w st i + pu_sf (pu_fs L w st) (i + 1) k = _
      rw [c2, show pu_fs L w st i = 1 from if_pos h, kn_ladd, Nat.add_comm]
    · refine ⟨c, by omega, ?_, ?_⟩
      · show pu_fs L w st i + pu_sf (pu_fs L w st) (i + 1) k = _
        rw [c2, show pu_fs L w st i = 0 from if_neg h, Int32.zero_add]
      · rw [c3]
        refine ⟨fun h1 j h2 h3 => ?_, fun h1 j h2 h3 => h1 j (by omega) (by omega)⟩
        by_cases hj : j = i
        · subst hj
          exact h
        · exact h1 j (by omega) (by omega)
theorem pu_second {L : Nat} {w m : k_M} (hW : pu_W L w (m 1)) (hpos : ¬ w 0 0 = 0) : ∃ w' m', f_X9_passSecond w = some w' ∧ f_X11_second m = some m' ∧ pu_W L w' (m' 1) ∧ (∀ c, c ≠ 1 → m' c = m c) ∧ w' 0 11 = w 0 11 ∧ pu_kp w w' := by
  obtain ⟨h, v, he, ma, ⟨hh, hv, -, -, -⟩, hen, ⟨w0, w1, -, -⟩, ⟨s0, s1, -, -⟩, -⟩ := id hW.2.2.2.2.1
  have hh0 : 0 < h := by
    refine Nat.pos_of_ne_zero fun e => hpos ?_
    rw [w0, e]
    rfl
  obtain ⟨r0, r1⟩ := pu_rel01 hW
  obtain ⟨ra, ra1, ra2, ra3⟩ := pu_asks hW.2.2.2.2.2.1 r0 r1
  unfold f_X9_passSecond f_X11_second f_X9_air f_X11_air
  rw [s0, w0, pu_air0 hh, k_bds, k_bds, ra1, ra2, k_bds, k_bds]
  have key : ∀ (wa ma' : k_M), pu_W L wa (ma' 1) → (∀ c, c ≠ 1 → ma' c = m c) → wa 0 = w 0 → pu_kp w wa → ∃ w' m', f_X9_passSecond_16 wa (kn (100 - h / 400)) = some w' ∧ f_X11_second_21 ma' (kn (100 - h / 400)) = some m' ∧ pu_W L w' (m' 1) ∧ (∀ c, c ≠ 1 → m' c = m c) ∧ w' 0 11 = w 0 11 ∧ pu_kp w w' := by
    intro wa ma1 hWa hma hwa hka
    obtain ⟨wb, mb, B, o, b1, ⟨nf, b2⟩, b3, b4, b5, b6, b7, b8⟩ := pu_brakeAll hh hv hWa (by rw [hwa]; exact w0) (by rw [hwa]; exact w1)
    obtain ⟨h', v', he', mass, ⟨-, -, -, hm1, hm2⟩, -, ⟨x0, x1, x4, x3⟩, ⟨y0, y1, y4, y3⟩, c2, c5, c6, c7, c13, c14⟩ := id b3.2.2.2.2.1
    have z0 : wb 0 0 = kn h := by rw [b5, hwa]; exact w0
    have z1 : wb 0 1 = kn v := by rw [b5, hwa]; exact w1
    have t0 : mb 1 0 = kn h := y0.trans (x0.symm.trans z0)
    have t1 : mb 1 1 = kn v := y1.trans (x1.symm.trans z1)
    obtain ⟨⟨V, hV1, hV2, V1, V2⟩, hmz⟩ := pu_speed hv b6 ⟨hm1, hm2⟩
    have hE := pu_energy hh0 (hen hh0) hV2 hV1
    unfold f_X9_passSecond_16
    rw [b1, b2, k_bds, if_neg (show ¬ wb 0 3 ≤ 0 by rw [x3, kn_lel (by omega) (by omega)]; omega)]
    unfold f_X11_second_54_b
    rw [if_pos (by rw [kn_lle (by omega) (by omega)]; omega)]
    dsimp only
    rw [k_ckp (show ¬ (wb 0 3).toInt64 = 0 by rw [x3]; exact hmz), k_ckp (show ¬ (mb 1 3).toInt64 = 0 by rw [y3]; exact hmz)]
    unfold f_X9_passSecond_40
    rw [x3, z1, y3, t1]
    simp only [k_lts]
    rw [V1, V2, k_ups, k_ups]
    generalize hg : (((((kn V).toInt64 * (kn V).toInt64) * (kn (100 - h / 400)).toInt64) / (100000 : Int64)).toInt32) = g
    rw [k_upi wb (c := 0) (i := 1) (i' := 9) _ (by omega), k_upi mb (c := 1) (i := 1) (i' := 14) _ (by omega), c14]
    have q4 : (k_up (k_up wb 0 1 (kn V)) 0 9 (wb 0 9 + g)) 0 4 = kn he' := by rw [k_upi _ _ (by omega), k_upi _ _ (by omega)]; exact x4
    have q7 : (k_up (k_up wb 0 1 (kn V)) 0 9 (wb 0 9 + g)) 0 7 = wb 0 7 := by rw [k_upi _ _ (by omega), k_upi _ _ (by omega)]
    have p4 : (k_up (k_up mb 1 1 (kn V)) 1 14 (wb 0 9 + g)) 1 4 = kn he' := by rw [k_upi _ _ (by omega), k_upi _ _ (by omega)]; exact y4
    have p7 : (k_up (k_up mb 1 1 (kn V)) 1 14 (wb 0 9 + g)) 1 7 = wb 0 7 := by rw [k_upi _ _ (by omega), k_upi _ _ (by omega)]; exact c7
    obtain ⟨hh1, HE, hHE, hh2⟩ := pu_heat ((kn he' + g) - wb 0 7)
    rw [q4, q7, p4, p7, hh1, hh2]
    generalize hwc : k_up (k_up (k_up wb 0 1 (kn V)) 0 9 (wb 0 9 + g)) 0 4 (kn HE) = wc
    generalize hmc : k_up (k_up (k_up mb 1 1 (kn V)) 1 14 (wb 0 9 + g)) 1 4 (kn HE) = mc
    have X : ∀ j, j ≠ 1 → j ≠ 9 → j ≠ 4 → wc 0 j = wb 0 j := fun j h1 h2 h3 => by rw [← hwc, k_upi _ _ h3, k_upi _ _ h2, k_upi _ _ h1]
    have X1 : wc 0 1 = kn V := by rw [← hwc, k_upi _ _ (by omega), k_upi _ _ (by omega), k_ups]
    have X9 : wc 0 9 = wb 0 9 + g := by rw [← hwc, k_upi _ _ (by omega), k_ups]
    have X4 : wc 0 4 = kn HE := by rw [← hwc, k_ups]
    have XC : ∀ c, c ≠ 0 → wc c = wb c := fun c hc => by rw [← hwc, k_upc _ _ hc, k_upc _ _ hc, k_upc _ _ hc]
    have Y : ∀ j, j ≠ 1 → j ≠ 14 → j ≠ 4 → mc 1 j = mb 1 j := fun j h1 h2 h3 => by rw [← hmc, k_upi _ _ h3, k_upi _ _ h2, k_upi _ _ h1]
    have Y1 : mc 1 1 = kn V := by rw [← hmc, k_upi _ _ (by omega), k_upi _ _ (by omega), k_ups]
    have Y14 : mc 1 14 = wb 0 9 + g := by rw [← hmc, k_upi _ _ (by omega), k_ups]
    have Y4 : mc 1 4 = kn HE := by rw [← hmc, k_ups]
    have YC : ∀ c, c ≠ 1 → mc c = m c := fun c hc => by rw [← hmc, k_upc _ _ hc, k_upc _ _ hc, k_upc _ _ hc, b4 c hc, hma c hc]
    have hL : L ≤ 8 := b3.1.1
    have hop := pu_open_c (w := wc) hL (by rw [X 10 (by omega) (by omega) (by omega)]; exact b3.1.2.1)
    have hnc : pu_n L wc = pu_n L wb := pu_n_congr (X 11 (by omega) (by omega) (by omega))
    have hnr := pu_n_r (L := L) (w := wb)
    obtain ⟨cn, cn1, cn2, cn3⟩ := pu_cnt (L := L) (w := wc) (st := 1) (pu_n L wc) 0 (by omega)
    rw [cn2] at hop
    rw [hop, k_bds]
    have hqs : ∀ j, wc (pu_q L j) 5 = wb (pu_q L j) 5 := fun j => by
      have := pu_q_r (i := j) hL
      rw [XC _ (by omega)]
    rcases b7 with ⟨f1, f2⟩ | ⟨f1, j, f2, f3⟩
    · have hc0 : cn = 0 := cn3.mpr fun j _ hj => by
        rw [hqs]
        exact f2 j (by omega)
      rw [if_pos (by rw [kn_lel (by omega) (by omega)]; omega), if_pos f1]
      obtain ⟨w', m', e1, e2, e3, e4, e5, e6⟩ := pu_end2 (w1 := wc) (m1 := mc) b3 XC (X 10 (by omega) (by omega) (by omega)) (X 11 (by omega) (by omega) (by omega)) (fun j h1 h2 h3 => Y j (by omega) h3 (by omega)) ⟨hh0, hh⟩ ⟨hV1, hE.1⟩ hHE ⟨hm1, hm2⟩ hE.2 (by rw [X 0 (by omega) (by omega) (by omega)]; exact z0) X1 X4 (by rw [X 3 (by omega) (by omega) (by omega)]; exact x3) (by rw [Y 0 (by omega) (by omega) (by omega)]; exact t0) Y1 Y4 (by rw [Y 3 (by omega) (by omega) (by omega)]; exact y3) (by rw [Y 2 (by omega) (by omega) (by omega), X 2 (by omega) (by omega) (by omega)]; exact c2) (by rw [Y 5 (by omega) (by omega) (by omega), X 5 (by omega) (by omega) (by omega)]; exact c5) (by rw [Y 6 (by omega) (by omega) (by omega), X 6 (by omega) (by omega) (by omega)]; exact c6) (by rw [Y 7 (by omega) (by omega) (by omega), X 7 (by omega) (by omega) (by omega)]; exact c7) (by rw [Y 13 (by omega) (by omega) (by omega), X 8 (by omega) (by omega) (by omega)]; exact c13) (by rw [Y14, X9])
      exact ⟨w', m', e1, e2, e3, fun c hc => by rw [e4 c hc, YC c hc], by rw [e5, b5, hwa], fun c x y => (e6 c x y).trans ((b8 c x y).trans (hka c x y))⟩
    · have hc0 : ¬ cn = 0 := fun e => (cn3.mp e) j (by omega) (by omega) (by rw [hqs]; exact f3)
      rw [if_neg (by rw [kn_lel (by omega) (by omega)]; omega), if_neg (by rw [f1]; decide)]
      have hTc : pu_T wc (mc 1) 6 11 108 := pu_T_congr b3.2.2.2.2.2.2.1 (by rw [XC 6 (by omega)]) (fun i _ => by rw [XC _ (by omega)]) (fun i _ => by rw [XC _ (by omega)]) (Y 11 (by omega) (by omega) (by omega)) (fun j h1 h2 => Y j (by omega) (by omega) (by omega))
      have hm0 : mc 1 0 = wc 0 0 := by rw [Y 0 (by omega) (by omega) (by omega), X 0 (by omega) (by omega) (by omega), t0, z0]
      obtain ⟨wv, v1, v2⟩ := pu_wnd hTc (wc 0 0)
      rw [hm0, v1, v2, k_bds, k_bds, show mc 1 2 = wc 0 2 by rw [Y 2 (by omega) (by omega) (by omega), X 2 (by omega) (by omega) (by omega)]; exact c2, show mc 1 5 = wc 0 5 by rw [Y 5 (by omega) (by omega) (by omega), X 5 (by omega) (by omega) (by omega)]; exact c5]
      generalize wc 0 2 + (wv + wc 0 5) = xn
      obtain ⟨w', m', e1, e2, e3, e4, e5, e6⟩ := pu_end2 (w1 := k_up wc 0 2 xn) (m1 := k_up mc 1 2 xn) b3 (fun c hc => by rw [k_upc _ _ hc, XC c hc]) (by rw [k_upi _ _ (by omega), X 10 (by omega) (by omega) (by omega)]) (by rw [k_upi _ _ (by omega), X 11 (by omega) (by omega) (by omega)]) (fun j h1 h2 h3 => by rw [k_upi _ _ (by omega), Y j (by omega) h3 (by omega)]) ⟨hh0, hh⟩ ⟨hV1, hE.1⟩ hHE ⟨hm1, hm2⟩ hE.2 (by rw [k_upi _ _ (by omega), X 0 (by omega) (by omega) (by omega)]; exact z0) (by rw [k_upi _ _ (by omega)]; exact X1) (by rw [k_upi _ _ (by omega)]; exact X4) (by rw [k_upi _ _ (by omega), X 3 (by omega) (by omega) (by omega)]; exact x3) (by rw [k_upi _ _ (by omega), Y 0 (by omega) (by omega) (by omega)]; exact t0) (by rw [k_upi _ _ (by omega)]; exact Y1) (by rw [k_upi _ _ (by omega)]; exact Y4) (by rw [k_upi _ _ (by omega), Y 3 (by omega) (by omega) (by omega)]; exact y3) (by rw [k_ups, k_ups]) (by rw [k_upi _ _ (by omega), k_upi _ _ (by omega), Y 5 (by omega) (by omega) (by omega), X 5 (by omega) (by omega) (by omega)]; exact c5) (by rw [k_upi _ _ (by omega), k_upi _ _ (by omega), Y 6 (by omega) (by omega) (by omega), X 6 (by omega) (by omega) (by omega)]; exact c6) (by rw [k_upi _ _ (by omega), k_upi _ _ (by omega), Y 7 (by omega) (by omega) (by omega), X 7 (by omega) (by omega) (by omega)]; exact c7) (by rw [k_upi _ _ (by omega), k_upi _ _ (by omega), Y 13 (by omega) (by omega) (by omega), X 8 (by omega) (by omega) (by omega)]; exact c13) (by rw [k_upi _ _ (by omega), k_upi _ _ (by omega), Y14, X9])
      exact ⟨w', m', e1, e2, e3, fun c hc => by rw [e4 c hc, k_upc _ _ hc, YC c hc], by rw [e5, b5, hwa], fun c x y => (e6 c x y).trans ((b8 c x y).trans (hka c x y))⟩
  by_cases hra : ra = 0
  · rw [if_pos hra, if_pos hra]
    exact key w m hW (fun _ _ => rfl) rfl (fun _ _ _ => rfl)
  · rw [if_neg hra, if_neg hra]
    obtain ⟨wa, ma', a1, a2, a3, a4, a5, a6⟩ := pu_brakes hW
    rw [a1, a2, k_bds, k_bds]
    exact key wa ma' a3 a4 a5 a6
theorem pu_seconds {L : Nat} {goal : Int32} (hg : 0 ≤ goal) : ∀ (k i f f' : Nat) (w m : k_M), i + k ≤ 3000 → k < f → k < f' → pu_W L w (m 1) → ∃ w' m' j, f_X9_passUntil_2 f w goal (kn (i + k)) (kn i) = some (w', kn j) ∧ f_X11_seconds_2 f' m (kn (i + k)) goal (kn i) = some (m', kn j) ∧ pu_W L w' (m' 1) ∧ (∀ c, c ≠ 1 → m' c = m c) ∧ i ≤ j ∧ j ≤ i + k ∧ pu_kp w w' := by
  intro k
  induction k with
  | zero =>
    intro i f f' w m hi hf hf' hW
    obtain ⟨f, rfl⟩ : ∃ n9, f = n9 + 1 := ⟨f - 1, by omega⟩
    obtain ⟨f', rfl⟩ : ∃ n9, f' = n9 + 1 := ⟨f' - 1, by omega⟩
    refine ⟨w, m, i, ?_, ?_, hW, fun _ _ => rfl, Nat.le_refl _, Nat.le_refl _, fun _ _ _ => rfl⟩
    · show f_X9_passUntil_2_b _ w goal (kn (i + 0)) (kn i) = _
      unfold f_X9_passUntil_2_b
      rw [if_pos (show kn (i + 0) ≤ kn i by rw [kn_le (by omega) (by omega)]; omega)]
      by_cases c : w 0 0 ≤ goal
      · rw [if_pos c]
      · rw [if_neg c]
    · show f_X11_seconds_2_b _ m (kn (i + 0)) goal (kn i) = _
      unfold f_X11_seconds_2_b
      rw [if_pos (by rw [kn_le (by omega) (by omega)]; omega)]
  | succ k ih =>
    intro i f f' w m hi hf hf' hW
    obtain ⟨f, rfl⟩ : ∃ n9, f = n9 + 1 := ⟨f - 1, by omega⟩
    obtain ⟨f', rfl⟩ : ∃ n9, f' = n9 + 1 := ⟨f' - 1, by omega⟩
    obtain ⟨r0, -⟩ := pu_rel01 hW
    have hlt : ¬ kn (i + (k + 1)) ≤ kn i := by
      rw [kn_le (by omega) (by omega)]
      omega
    show ∃ w' m' j, f_X9_passUntil_2_b _ w goal (kn (i + (k + 1))) (kn i) = some (w', kn j) ∧ f_X11_seconds_2_b _ m (kn (i + (k + 1))) goal (kn i) = some (m', kn j) ∧ pu_W L w' (m' 1) ∧ (∀ c, c ≠ 1 → m' c = m c) ∧ i ≤ j ∧ j ≤ i + (k + 1) ∧ pu_kp w w'
    unfold f_X9_passUntil_2_b f_X11_seconds_2_b
    rw [if_neg hlt, if_neg hlt, r0]
    by_cases c : w 0 0 ≤ goal
    · exact ⟨w, m, i, by rw [if_pos c], by rw [if_pos c], hW, fun _ _ => rfl, Nat.le_refl _, by omega, fun _ _ _ => rfl⟩
    · rw [if_neg c, if_neg c]
      obtain ⟨w1, m1, e1, e2, e3, e4, -, e6⟩ := pu_second hW (fun h => c (by rw [h]; exact hg))
      obtain ⟨w', m', j, g1, g2, g3, g4, g5, g6, g7⟩ := ih (i + 1) f f' w1 m1 (by omega) (by omega) (by omega) e3
      rw [show i + 1 + k = i + (k + 1) by omega] at g1 g2 g6
      rw [e1, e2, k_bds, k_bds, k_lts, k_lts, kn_addl]
      exact ⟨w', m', j, g1, g2, g3, fun c hc => by rw [g4 c hc, e4 c hc], by omega, g6, fun c x y => (g7 c x y).trans (e6 c x y)⟩

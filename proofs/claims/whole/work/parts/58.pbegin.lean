/-! a new world -/
theorem pu_emp0 {q : Nat} : ∀ (k i n : Nat) (m : k_M), i + k = 268 → k < n → ∃ m', f_X11_empties_2 n m q 268 (kn i) = some m' ∧ (∀ c, c ≠ q → m' c = m c) ∧ (∀ j, m' q j = if j = 7 then 20 else if i ≤ j ∧ j < 268 then 0 else m q j) := by
  intro k
  have l0 : ∀ x : Nat, x < 268 → (0 ≤ kn x ∧ kn x < nI 268) := fun x hx => ⟨by rw [show (0 : Int32) = kn 0 from rfl, kn_le (by omega) (by omega)]; omega, by rw [Int32.lt_iff_toInt_lt, kn_int (by omega), pu_n268]; omega⟩
  induction k with
  | zero =>
    intro i n m hi hn
    obtain ⟨n, rfl⟩ : ∃ n9, n = n9 + 1 := ⟨n - 1, by omega⟩
    refine ⟨k_up m q 7 20, ?_, fun c hc => k_upc _ _ hc, fun j => ?_⟩
    · show f_X11_empties_2_b _ m q 268 (kn i) = _
      unfold f_X11_empties_2_b
      rw [if_pos (by rw [kn_lle (by omega) (by omega)]; omega), k_ckp (show (0 : Int32) ≤ 7 ∧ (7 : Int32) < nI 268 from l0 7 (by decide)), k_lts]
    · by_cases h7 : j = 7
      · subst h7
        rw [k_ups, if_pos rfl]
      · rw [k_upi _ _ h7, if_neg h7, if_neg (by omega)]
  | succ k ih =>
    intro i n m hi hn
    obtain ⟨n, rfl⟩ : ∃ n9, n = n9 + 1 := ⟨n - 1, by omega⟩
    obtain ⟨m', e1, e2, e3⟩ := ih (i + 1) n (k_up m q i 0) (by omega) (by omega)
    refine ⟨m', ?_, fun c hc => by rw [e2 c hc, k_upc _ _ hc], fun j => ?_⟩
    · show f_X11_empties_2_b _ m q 268 (kn i) = _
      unfold f_X11_empties_2_b
      rw [if_neg (by rw [kn_lle (by omega) (by omega)]; omega), k_ckp (l0 i (by omega)), kn_nat (by omega), k_lts, k_lts, show kn i + 1 = kn (i + 1) from kn_addl i 1]
      exact e1
    · rw [e3]
      by_cases h7 : j = 7
      · rw [if_pos h7, if_pos h7]
      · rw [if_neg h7, if_neg h7]
        by_cases c1 : i + 1 ≤ j ∧ j < 268
        · rw [if_pos c1, if_pos (by omega)]
        · rw [if_neg c1]
          by_cases c2 : j = i
          · subst c2
            rw [k_ups, if_pos (by omega)]
          · rw [k_upi _ _ c2, if_neg (by omega)]
theorem pu_emp {q : Nat} (m : k_M) : ∃ m', f_X11_empties m q 268 = some m' ∧ (∀ c, c ≠ q → m' c = m c) ∧ (∀ j, j < 268 → m' q j = if j = 7 then 20 else 0) := by
  obtain ⟨m', e1, e2, e3⟩ := pu_emp0 (q := q) 268 0 k_N m (by omega) (by unfold k_N; omega)
  refine ⟨m', e1, e2, fun j hj => ?_⟩
  rw [e3, if_pos (show 0 ≤ j ∧ j < 268 by omega)]
theorem pu_begin0 {w : k_M} {h v ma : Nat} {s : Nat → Int32} (hh : h ≤ 30000) (hv : v ≤ 400) (hma : 1 ≤ ma ∧ ma ≤ 99) (hj2 : w 2 6 = 0 ∨ w 2 6 = 1) (hs0 : s 0 = kn h) (hs1 : s 1 = kn v) (hs3 : s 3 = kn ma) (hs7 : s 7 = 20) (hs : ∀ j, j < 268 → j ≠ 0 → j ≠ 1 → j ≠ 3 → j ≠ 7 → s j = 0) : ∃ w', f_X9_begin w (kn h) (kn v) (kn ma) = some w' ∧ pu_W 0 w' s ∧ w' 0 11 = 0 ∧ w' 2 = w 2 := by
  obtain ⟨w1, hw⟩ : ∃ w1, f_X9_begin w (kn h) (kn v) (kn ma) = some w1 := ⟨_, rfl⟩
  refine ⟨w1, hw, ?_⟩
  unfold f_X9_begin f_X1_forget at hw
  simp only [k_lts, k_bds] at hw
  have hw := Option.some.inj hw
  have a0 : w1 0 0 = kn h := by rw [← hw]; simp [k_upx]
  have a1 : w1 0 1 = kn v := by rw [← hw]; simp [k_upx]
  have a2 : w1 0 2 = 0 := by rw [← hw]; simp [k_upx]
  have a3 : w1 0 3 = kn ma := by rw [← hw]; simp [k_upx]
  have a4 : w1 0 4 = 0 := by rw [← hw]; simp [k_upx]
  have a5 : w1 0 5 = 0 := by rw [← hw]; simp [k_upx]
  have a6 : w1 0 6 = 0 := by rw [← hw]; simp [k_upx]
  have a7 : w1 0 7 = 20 := by rw [← hw]; simp [k_upx]
  have a8 : w1 0 8 = 0 := by rw [← hw]; simp [k_upx]
  have a9 : w1 0 9 = 0 := by rw [← hw]; simp [k_upx]
  have a10 : w1 0 10 = 0 := by rw [← hw]; simp [k_upx]
  have a11 : w1 0 11 = 0 := by rw [← hw]; simp [k_upx]
  have b3 : w1 3 2 = 0 := by rw [← hw]; simp [k_upx]
  have b6 : w1 6 2 = 0 := by rw [← hw]; simp [k_upx]
  have b9 : w1 9 3 = 0 := by rw [← hw]; simp [k_upx]
  have c1 : w1 13 1 = 0 := by rw [← hw]; simp [k_upx]
  have c2 : w1 13 2 = 0 := by rw [← hw]; simp [k_upx]
  have d2 : w1 2 = w 2 := by
    rw [← hw]
    funext j
    simp [k_upx]
  have z : ∀ j, j < 268 → j ≠ 0 → j ≠ 1 → j ≠ 3 → j ≠ 7 → s j = kn 0 := hs
  have n0 : pu_n 0 w1 = 0 := if_pos a11
  refine ⟨⟨⟨Nat.zero_le 8, a10, z 8 (by decide) (by decide) (by decide) (by decide) (by decide)⟩, ⟨Or.inl a11, by rw [a11]; exact z 9 (by decide) (by decide) (by decide) (by decide) (by decide), by rw [d2]; exact hj2⟩, fun i hi => absurd hi (by omega), ?_, ⟨h, v, 0, ma, ⟨hh, by omega, by omega, hma.1, hma.2⟩, fun _ => ?_, ⟨a0, a1, a4, a3⟩, ⟨hs0, hs1, z 4 (by decide) (by decide) (by decide) (by decide) (by decide), hs3⟩, ?_, ?_, ?_, ?_, ?_, ?_⟩, ⟨0, Nat.zero_le 8, b3, z 10 (by decide) (by decide) (by decide) (by decide) (by decide), fun k hk => absurd hk (by omega)⟩, ⟨0, Nat.zero_le 8, b6, z 11 (by decide) (by decide) (by decide) (by decide) (by decide), fun k hk => absurd hk (by omega)⟩, ⟨0, Nat.zero_le 8, b9, z 12 (by decide) (by decide) (by decide) (by decide) (by decide), fun k hk => absurd hk (by omega)⟩, ⟨0, 0, by decide, by decide, c1, c2, z 16 (by decide) (by decide) (by decide) (by decide) (by decide), fun k hk => absurd hk (by omega)⟩⟩, a11, d2⟩
  · unfold pu_lost
    rw [n0]
    exact z 15 (by decide) (by decide) (by decide) (by decide) (by decide)
  · have : v * v ≤ 400 * 400 := Nat.mul_le_mul hv hv
    omega
  · rw [a2]; exact z 2 (by decide) (by decide) (by decide) (by decide) (by decide)
  · rw [a5]; exact z 5 (by decide) (by decide) (by decide) (by decide) (by decide)
  · rw [a6]; exact z 6 (by decide) (by decide) (by decide) (by decide) (by decide)
  · rw [a7]; exact hs7
  · rw [a8]; exact z 13 (by decide) (by decide) (by decide) (by decide) (by decide)
  · rw [a9]; exact z 14 (by decide) (by decide) (by decide) (by decide) (by decide)

def pu_ff (w : k_M) (i : Nat) : Int32 := if w (15 + i) 5 = 2 then 1 else if w (15 + i) 5 = 3 then 1 else 0
theorem pu_fail_c0 {L : Nat} {w : k_M} (hL : L ≤ 8) (hw : w 0 10 = kn L) : ∀ (k i n : Nat) (acc : Int32), i + k = L → k < n → f_X9_failedLayers_4 n w acc (kn i) = some (acc + pu_sf (pu_ff w) i k) := by
  intro k
  induction k with
  | zero =>
    intro i n acc hi hn
    obtain ⟨n, rfl⟩ : ∃ n9, n = n9 + 1 := ⟨n - 1, by omega⟩
    have hle : L ≤ i := by omega
    simp (disch := omega) [f_X9_failedLayers_4, f_X9_failedLayers_4_b, hw, hle, kn_le, kn_lt, kn_inj, kn_ltl, kn_lel, kn_llt, kn_lle, kn_eql, kn_leq, kn_add, kn_addl, kn_ladd, kn_mul, kn_mull, kn_lmul, kn_nat, kn_neg1, k_ckn, k_cki, k_bds, k_lts, pu_sf]
  | succ k ih =>
    intro i n acc hi hn
    obtain ⟨n, rfl⟩ : ∃ n9, n = n9 + 1 := ⟨n - 1, by omega⟩
    have hle : ¬ L ≤ i := by omega
    show f_X9_failedLayers_4_b _ w acc (kn i) = _
    by_cases h2 : w (15 + i) 5 = 2
    · simp (disch := omega) [f_X9_failedLayers_4_b, f_X0_hasFailed, f_X9_failedLayers_27, hw, hle, kn_le, kn_lt, kn_inj, kn_ltl, kn_lel, kn_llt, kn_lle, kn_eql, kn_leq, kn_add, kn_addl, kn_ladd, kn_mul, kn_mull, kn_lmul, kn_nat, kn_neg1, k_ckn, k_cki, k_bds, k_lts, h2, ih (i + 1) n, pu_sf, pu_ff, Int32.add_assoc]
    · by_cases h3 : w (15 + i) 5 = 3
      · simp (disch := omega) [f_X9_failedLayers_4_b, f_X0_hasFailed, f_X9_failedLayers_27, hw, hle, kn_le, kn_lt, kn_inj, kn_ltl, kn_lel, kn_llt, kn_lle, kn_eql, kn_leq, kn_add, kn_addl, kn_ladd, kn_mul, kn_mull, kn_lmul, kn_nat, kn_neg1, k_ckn, k_cki, k_bds, k_lts, h2, h3, ih (i + 1) n, pu_sf, pu_ff, Int32.add_assoc]
      · simp (disch := omega) [f_X9_failedLayers_4_b, f_X0_hasFailed, f_X9_failedLayers_27, hw, hle, kn_le, kn_lt, kn_inj, kn_ltl, kn_lel, kn_llt, kn_lle, kn_eql, kn_leq, kn_add, kn_addl, kn_ladd, kn_mul, kn_mull, kn_lmul, kn_nat, kn_neg1, k_ckn, k_cki, k_bds, k_lts, h2, h3, ih (i + 1) n, pu_sf, pu_ff, Int32.add_assoc]
theorem pu_fail_c {L : Nat} {w : k_M} (hL : L ≤ 8) (hw : w 0 10 = kn L) : f_X9_failedLayers w = some (pu_sf (pu_ff w) 0 L) := by
  have h := pu_fail_c0 hL hw L 0 k_N 0 (by omega) (by unfold k_N; omega)
  rw [Int32.zero_add] at h
  exact h
theorem pu_fail_m0 {L : Nat} {w m : k_M} (hL : L ≤ 8) (h8 : m 1 8 = kn L) (hs : ∀ i, i < L → m 1 (65 + i) = w (15 + i) 5) : ∀ (k i n : Nat) (acc : Int32), i + k = L → k < n → f_X11_failed_4 n m acc (kn i) = some (acc + pu_sf (pu_ff w) i k) := by
  intro k
  induction k with
  | zero =>
    intro i n acc hi hn
    obtain ⟨n, rfl⟩ : ∃ n9, n = n9 + 1 := ⟨n - 1, by omega⟩
    have hle : L ≤ i := by omega
    simp (disch := omega) [f_X11_failed_4, f_X11_failed_4_b, h8, hle, kn_le, kn_lt, kn_inj, kn_ltl, kn_lel, kn_llt, kn_lle, kn_eql, kn_leq, kn_add, kn_addl, kn_ladd, kn_mul, kn_mull, kn_lmul, kn_nat, kn_neg1, k_ckn, k_cki, k_bds, k_lts, pu_sf]
  | succ k ih =>
    intro i n acc hi hn
    obtain ⟨n, rfl⟩ : ∃ n9, n = n9 + 1 := ⟨n - 1, by omega⟩
    have hle : ¬ L ≤ i := by omega
    have hsi := hs i (by omega)
    show f_X11_failed_4_b _ m acc (kn i) = _
    by_cases h2 : w (15 + i) 5 = 2
    · simp (disch := omega) [f_X11_failed_4_b, f_X11_failed_42, f_X11_failed_47, h8, hsi, hle, kn_le, kn_lt, kn_inj, kn_ltl, kn_lel, kn_llt, kn_lle, kn_eql, kn_leq, kn_add, kn_addl, kn_ladd, kn_mul, kn_mull, kn_lmul, kn_nat, kn_neg1, k_ckn, k_cki, k_bds, k_lts, h2, ih (i + 1) n, pu_sf, pu_ff, Int32.add_assoc]
    · by_cases h3 : w (15 + i) 5 = 3
      · simp (disch := omega) [f_X11_failed_4_b, f_X11_failed_42, f_X11_failed_47, h8, hsi, hle, kn_le, kn_lt, kn_inj, kn_ltl, kn_lel, kn_llt, kn_lle, kn_eql, kn_leq, kn_add, kn_addl, kn_ladd, kn_mul, kn_mull, kn_lmul, kn_nat, kn_neg1, k_ckn, k_cki, k_bds, k_lts, h2, h3, ih (i + 1) n, pu_sf, pu_ff, Int32.add_assoc]
      · simp (disch := omega) [f_X11_failed_4_b, f_X11_failed_42, f_X11_failed_47, h8, hsi, hle, kn_le, kn_lt, kn_inj, kn_ltl, kn_lel, kn_llt, kn_lle, kn_eql, kn_leq, kn_add, kn_addl, kn_ladd, kn_mul, kn_mull, kn_lmul, kn_nat, kn_neg1, k_ckn, k_cki, k_bds, k_lts, h2, h3, ih (i + 1) n, pu_sf, pu_ff, Int32.add_assoc]
theorem pu_fail_m {L : Nat} {w m : k_M} (hL : L ≤ 8) (h8 : m 1 8 = kn L) (hs : ∀ i, i < L → m 1 (65 + i) = w (15 + i) 5) : f_X11_failed m = some (pu_sf (pu_ff w) 0 L) := by
  have h := pu_fail_m0 hL h8 hs L 0 k_N 0 (by omega) (by unfold k_N; omega)
  rw [Int32.zero_add] at h
  exact h
def pu_may (w : k_M) (i : Nat) : Prop := w (15 + i) 5 = 0 ∧ ¬ w (15 + i) 3 < w 0 0 ∧ ¬ w (15 + i) 4 < w 0 1
noncomputable def pu_find (P : Nat → Prop) : Nat → Nat → Int32
  | _, 0 => -1
  | i, k + 1 => @ite _ (P i) (Classical.propDecidable _) (kn i) (pu_find P (i + 1) k)
theorem pu_find_y {P : Nat → Prop} {i k : Nat} (h : P i) : pu_find P i (k + 1) = kn i := by
  unfold pu_find
  exact if_pos h
theorem pu_find_n {P : Nat → Prop} {i k : Nat} (h : ¬ P i) : pu_find P i (k + 1) = pu_find P (i + 1) k := by
  show @ite _ (P i) (Classical.propDecidable _) (kn i) (pu_find P (i + 1) k) = _
  exact if_neg h
theorem pu_find_r {P : Nat → Prop} : ∀ (k i : Nat), pu_find P i k = -1 ∨ ∃ j, i ≤ j ∧ j < i + k ∧ P j ∧ pu_find P i k = kn j := by
  intro k
  induction k with
  | zero => intro i; exact Or.inl rfl
  | succ k ih =>
    intro i
    by_cases h : P i
    · exact Or.inr ⟨i, by omega, by omega, h, pu_find_y h⟩
    · rw [pu_find_n h]
      rcases ih (i + 1) with h1 | ⟨j, h1, h2, h3, h4⟩
      · exact Or.inl h1
      · exact Or.inr ⟨j, by omega, by omega, h3, h4⟩
theorem pu_find_congr {P Q : Nat → Prop} : ∀ (k i : Nat), (∀ j, i ≤ j → j < i + k → (P j ↔ Q j)) → pu_find P i k = pu_find Q i k := by
  intro k
  induction k with
  | zero => intro i _; rfl
  | succ k ih =>
    intro i h
    have h0 := h i (by omega) (by omega)
    by_cases hp : P i
    · rw [pu_find_y hp, pu_find_y (h0.mp hp)]
    · rw [pu_find_n hp, pu_find_n (fun hq => hp (h0.mpr hq)), ih (i + 1) (fun j h1 h2 => h j (by omega) (by omega))]
theorem pu_first_c0 {L : Nat} {w : k_M} (hL : L ≤ 8) (hw : w 0 10 = kn L) : ∀ (k i n : Nat), i + k = L → k < n → f_X9_firstLayerThatMayOpen_2 n w (kn i) = some (pu_find (pu_may w) i k) := by
  intro k
  induction k with
  | zero =>
    intro i n  hi hn
    obtain ⟨n, rfl⟩ : ∃ n9, n = n9 + 1 := ⟨n - 1, by omega⟩
    have hle : L ≤ i := by omega
    simp (disch := omega) [f_X9_firstLayerThatMayOpen_2, f_X9_firstLayerThatMayOpen_2_b, hw, hle, kn_le, kn_lt, kn_inj, kn_ltl, kn_lel, kn_llt, kn_lle, kn_eql, kn_leq, kn_add, kn_addl, kn_ladd, kn_mul, kn_mull, kn_lmul, kn_nat, kn_neg1, k_ckn, k_cki, k_bds, k_lts, pu_find]
  | succ k ih =>
    intro i n  hi hn
    obtain ⟨n, rfl⟩ : ∃ n9, n = n9 + 1 := ⟨n - 1, by omega⟩
    have hle : ¬ L ≤ i := by omega
    show f_X9_firstLayerThatMayOpen_2_b _ w (kn i) = _
    by_cases hm : pu_may w i
    · rw [pu_find_y hm]
      obtain ⟨h0, h3, h4⟩ := hm
      simp (disch := omega) [f_X9_firstLayerThatMayOpen_2_b, f_X0_isPackedAndBelowCeiling, hw, hle, kn_le, kn_lt, kn_inj, kn_ltl, kn_lel, kn_llt, kn_lle, kn_eql, kn_leq, kn_add, kn_addl, kn_ladd, kn_mul, kn_mull, kn_lmul, kn_nat, kn_neg1, k_ckn, k_cki, k_bds, k_lts, h0, h3, h4]
    · rw [pu_find_n hm, ← ih (i + 1) n (by omega) (by omega)]
      by_cases h0 : w (15 + i) 5 = 0
      · by_cases h3 : w (15 + i) 3 < w 0 0
        · simp (disch := omega) [f_X9_firstLayerThatMayOpen_2_b, f_X9_firstLayerThatMayOpen_44, f_X0_isPackedAndBelowCeiling, hw, hle, kn_le, kn_lt, kn_inj, kn_ltl, kn_lel, kn_llt, kn_lle, kn_eql, kn_leq, kn_add, kn_addl, kn_ladd, kn_mul, kn_mull, kn_lmul, kn_nat, kn_neg1, k_ckn, k_cki, k_bds, k_lts, h0, h3]
        · have h4 : w (15 + i) 4 < w 0 1 := Classical.byContradiction fun h4 => hm ⟨h0, h3, h4⟩
          simp (disch := omega) [f_X9_firstLayerThatMayOpen_2_b, f_X9_firstLayerThatMayOpen_44, f_X0_isPackedAndBelowCeiling, hw, hle, kn_le, kn_lt, kn_inj, kn_ltl, kn_lel, kn_llt, kn_lle, kn_eql, kn_leq, kn_add, kn_addl, kn_ladd, kn_mul, kn_mull, kn_lmul, kn_nat, kn_neg1, k_ckn, k_cki, k_bds, k_lts, h0, h3, h4]
      · simp (disch := omega) [f_X9_firstLayerThatMayOpen_2_b, f_X9_firstLayerThatMayOpen_44, f_X0_isPackedAndBelowCeiling, hw, hle, kn_le, kn_lt, kn_inj, kn_ltl, kn_lel, kn_llt, kn_lle, kn_eql, kn_leq, kn_add, kn_addl, kn_ladd, kn_mul, kn_mull, kn_lmul, kn_nat, kn_neg1, k_ckn, k_cki, k_bds, k_lts, h0]
theorem pu_first_c {L : Nat} {w : k_M} (hL : L ≤ 8) (hw : w 0 10 = kn L) : f_X9_firstLayerThatMayOpen w = some (pu_find (pu_may w) 0 L) := pu_first_c0 hL hw L 0 k_N (by omega) (by unfold k_N; omega)
theorem pu_first_m0 {L : Nat} {w m : k_M} (hL : L ≤ 8) (h8 : m 1 8 = kn L) (h0 : m 1 0 = w 0 0) (h1 : m 1 1 = w 0 1) (hs : ∀ i, i < L → m 1 (65 + i) = w (15 + i) 5 ∧ m 1 (47 + i) = w (15 + i) 3 ∧ m 1 (56 + i) = w (15 + i) 4) : ∀ (k i n : Nat), i + k = L → k < n → f_X11_firstThatMay_2 n m (kn i) = some (pu_find (pu_may w) i k) := by
  intro k
  induction k with
  | zero =>
    intro i n  hi hn
    obtain ⟨n, rfl⟩ : ∃ n9, n = n9 + 1 := ⟨n - 1, by omega⟩
    have hle : L ≤ i := by omega
    simp (disch := omega) [f_X11_firstThatMay_2, f_X11_firstThatMay_2_b, h8, hle, kn_le, kn_lt, kn_inj, kn_ltl, kn_lel, kn_llt, kn_lle, kn_eql, kn_leq, kn_add, kn_addl, kn_ladd, kn_mul, kn_mull, kn_lmul, kn_nat, kn_neg1, k_ckn, k_cki, k_bds, k_lts, pu_find]
  | succ k ih =>
    intro i n  hi hn
    obtain ⟨n, rfl⟩ : ∃ n9, n = n9 + 1 := ⟨n - 1, by omega⟩
    have hle : ¬ L ≤ i := by omega
    obtain ⟨e1, e2, e3⟩ := hs i (by omega)
    show f_X11_firstThatMay_2_b _ m (kn i) = _
    by_cases hm : pu_may w i
    · rw [pu_find_y hm]
      obtain ⟨g0, g3, g4⟩ := hm
      simp (disch := omega) [f_X11_firstThatMay_2_b, f_X11_mayOpen, h8, h0, h1, e1, e2, e3, hle, kn_le, kn_lt, kn_inj, kn_ltl, kn_lel, kn_llt, kn_lle, kn_eql, kn_leq, kn_add, kn_addl, kn_ladd, kn_mul, kn_mull, kn_lmul, kn_nat, kn_neg1, k_ckn, k_cki, k_bds, k_lts, g0, g3, g4]
    · rw [pu_find_n hm, ← ih (i + 1) n (by omega) (by omega)]
      by_cases g0 : w (15 + i) 5 = 0
      · by_cases g3 : w (15 + i) 3 < w 0 0
        · simp (disch := omega) [f_X11_firstThatMay_2_b, f_X11_mayOpen, h8, h0, h1, e1, e2, e3, hle, kn_le, kn_lt, kn_inj, kn_ltl, kn_lel, kn_llt, kn_lle, kn_eql, kn_leq, kn_add, kn_addl, kn_ladd, kn_mul, kn_mull, kn_lmul, kn_nat, kn_neg1, k_ckn, k_cki, k_bds, k_lts, g0, g3]
        · have g4 : w (15 + i) 4 < w 0 1 := Classical.byContradiction fun h4 => hm ⟨g0, g3, h4⟩
          simp (disch := omega) [f_X11_firstThatMay_2_b, f_X11_mayOpen, h8, h0, h1, e1, e2, e3, hle, kn_le, kn_lt, kn_inj, kn_ltl, kn_lel, kn_llt, kn_lle, kn_eql, kn_leq, kn_add, kn_addl, kn_ladd, kn_mul, kn_mull, kn_lmul, kn_nat, kn_neg1, k_ckn, k_cki, k_bds, k_lts, g0, g3, g4]
      · simp (disch := omega) [f_X11_firstThatMay_2_b, f_X11_mayOpen, h8, h0, h1, e1, e2, e3, hle, kn_le, kn_lt, kn_inj, kn_ltl, kn_lel, kn_llt, kn_lle, kn_eql, kn_leq, kn_add, kn_addl, kn_ladd, kn_mul, kn_mull, kn_lmul, kn_nat, kn_neg1, k_ckn, k_cki, k_bds, k_lts, g0]
theorem pu_first_m {L : Nat} {w m : k_M} (hL : L ≤ 8) (h8 : m 1 8 = kn L) (h0 : m 1 0 = w 0 0) (h1 : m 1 1 = w 0 1) (hs : ∀ i, i < L → m 1 (65 + i) = w (15 + i) 5 ∧ m 1 (47 + i) = w (15 + i) 3 ∧ m 1 (56 + i) = w (15 + i) 4) : f_X11_firstThatMay m = some (pu_find (pu_may w) 0 L) := pu_first_m0 hL h8 h0 h1 hs L 0 k_N (by omega) (by unfold k_N; omega)
def pu_fs (L : Nat) (w : k_M) (st : Int32) (i : Nat) : Int32 := if w (pu_q L i) 5 = st then 1 else 0
theorem pu_open_c0 {L : Nat} {w : k_M} (hL : L ≤ 8) (hw : w 0 10 = kn L) {C : Nat} (hC : C ≤ L + 1) : ∀ (k i n : Nat) (acc : Int32), i + k = C → k < n → f_X9_openChutes_9 n w acc (kn C) (kn i) = some (acc + pu_sf (pu_fs L w 1) i k) := by
  intro k
  induction k with
  | zero =>
    intro i n acc hi hn
    obtain ⟨n, rfl⟩ : ∃ n9, n = n9 + 1 := ⟨n - 1, by omega⟩
    have hle : C ≤ i := by omega
    simp (disch := omega) [f_X9_openChutes_9, f_X9_openChutes_9_b, hle, kn_le, kn_lt, kn_inj, kn_ltl, kn_lel, kn_llt, kn_lle, kn_eql, kn_leq, kn_add, kn_addl, kn_ladd, kn_mul, kn_mull, kn_lmul, kn_nat, kn_neg1, k_ckn, k_cki, k_bds, k_lts, pu_sf]
  | succ k ih =>
    intro i n acc hi hn
    obtain ⟨n, rfl⟩ : ∃ n9, n = n9 + 1 := ⟨n - 1, by omega⟩
    have hle : ¬ C ≤ i := by omega
    have hat := pu_at (i := i) hL hw (by omega)
    have hr : pu_q L i = 2 ∨ (15 ≤ pu_q L i ∧ pu_q L i < 23) := pu_q_r hL
    show f_X9_openChutes_9_b _ w acc (kn C) (kn i) = _
    by_cases h2 : w (pu_q L i) 5 = 1
    · simp (disch := omega) [f_X9_openChutes_9_b, f_X9_openChutes_29, hw, hle, hat, k_ckp hr, kn_le, kn_lt, kn_inj, kn_ltl, kn_lel, kn_llt, kn_lle, kn_eql, kn_leq, kn_add, kn_addl, kn_ladd, kn_mul, kn_mull, kn_lmul, kn_nat, kn_neg1, k_ckn, k_cki, k_bds, k_lts, h2, ih (i + 1) n, pu_sf, pu_fs, Int32.add_assoc]
    · simp (disch := omega) [f_X9_openChutes_9_b, f_X9_openChutes_29, hw, hle, hat, k_ckp hr, kn_le, kn_lt, kn_inj, kn_ltl, kn_lel, kn_llt, kn_lle, kn_eql, kn_leq, kn_add, kn_addl, kn_ladd, kn_mul, kn_mull, kn_lmul, kn_nat, kn_neg1, k_ckn, k_cki, k_bds, k_lts, h2, ih (i + 1) n, pu_sf, pu_fs, Int32.add_assoc]
theorem pu_open_c {L : Nat} {w : k_M} (hL : L ≤ 8) (hw : w 0 10 = kn L) : f_X9_openChutes w = some (pu_sf (pu_fs L w 1) 0 (pu_n L w)) := by
  have h := pu_open_c0 hL hw (C := pu_n L w) (by have := pu_n_r (L := L) (w := w); omega) (pu_n L w) 0 k_N 0 (by omega) (by have := pu_n_r (L := L) (w := w); unfold k_N; omega)
  rw [Int32.zero_add] at h
  unfold f_X9_openChutes
  rw [pu_count hw, k_bds]
  exact h
theorem pu_sf9 {L : Nat} {w : k_M} (hL : L ≤ 8) (hR : w 0 11 = 0 ∨ w 0 11 = 1) (g : Nat → Int32) : pu_sf (fun p => if p < L ∨ (p = 8 ∧ w 0 11 = 1) then g p else 0) 0 9 = pu_sf (fun i => g (pu_p L i)) 0 (pu_n L w) := by
  rcases hR with hR | hR <;> rcases (show L = 0 ∨ L = 1 ∨ L = 2 ∨ L = 3 ∨ L = 4 ∨ L = 5 ∨ L = 6 ∨ L = 7 ∨ L = 8 by omega) with rfl | rfl | rfl | rfl | rfl | rfl | rfl | rfl | rfl <;> simp [pu_sf, pu_p, pu_n, hR]
theorem pu_in_m0 {L : Nat} {w m : k_M} (hL : L ≤ 8) (h8 : m 1 8 = kn L) (h9 : m 1 9 = w 0 11) (hR : w 0 11 = 0 ∨ w 0 11 = 1) (st : Int32) : ∀ (k i n : Nat) (acc : Int32), i + k = 9 → k < n → f_X11_inState_4 n m st acc (kn i) = some (acc + pu_sf (fun p => if p < L ∨ (p = 8 ∧ w 0 11 = 1) then (if m 1 (65 + p) = st then 1 else 0) else 0) i k) := by
  intro k
  induction k with
  | zero =>
    intro i n acc hi hn
    obtain ⟨n, rfl⟩ : ∃ n9, n = n9 + 1 := ⟨n - 1, by omega⟩
    have hle : 9 ≤ i := by omega
    simp (disch := omega) [f_X11_inState_4, f_X11_inState_4_b, hle, kn_le, kn_lt, kn_inj, kn_ltl, kn_lel, kn_llt, kn_lle, kn_eql, kn_leq, kn_add, kn_addl, kn_ladd, kn_mul, kn_mull, kn_lmul, kn_nat, kn_neg1, k_ckn, k_cki, k_bds, k_lts, pu_sf]
  | succ k ih =>
    intro i n acc hi hn
    obtain ⟨n, rfl⟩ : ∃ n9, n = n9 + 1 := ⟨n - 1, by omega⟩
    have hle : ¬ 9 ≤ i := by omega
    have hth := pu_there (p := i) hL h8 h9 hR (by omega)
    show f_X11_inState_4_b _ m st acc (kn i) = _
    by_cases ht : i < L ∨ (i = 8 ∧ w 0 11 = 1)
    · rw [if_pos ht] at hth
      by_cases h2 : m 1 (65 + i) = st
      · simp (disch := omega) [f_X11_inState_4_b, f_X11_inState_36, f_X11_inState_37, hle, hth, kn_le, kn_lt, kn_inj, kn_ltl, kn_lel, kn_llt, kn_lle, kn_eql, kn_leq, kn_add, kn_addl, kn_ladd, kn_mul, kn_mull, kn_lmul, kn_nat, kn_neg1, k_ckn, k_cki, k_bds, k_lts, h2, ht, ih (i + 1) n, pu_sf, Int32.add_assoc]
      · simp (disch := omega) [f_X11_inState_4_b, f_X11_inState_36, f_X11_inState_37, hle, hth, kn_le, kn_lt, kn_inj, kn_ltl, kn_lel, kn_llt, kn_lle, kn_eql, kn_leq, kn_add, kn_addl, kn_ladd, kn_mul, kn_mull, kn_lmul, kn_nat, kn_neg1, k_ckn, k_cki, k_bds, k_lts, h2, ht, ih (i + 1) n, pu_sf, Int32.add_assoc]
    · rw [if_neg ht] at hth
      simp (disch := omega) [f_X11_inState_4_b, f_X11_inState_36, f_X11_inState_37, hle, hth, kn_le, kn_lt, kn_inj, kn_ltl, kn_lel, kn_llt, kn_lle, kn_eql, kn_leq, kn_add, kn_addl, kn_ladd, kn_mul, kn_mull, kn_lmul, kn_nat, kn_neg1, k_ckn, k_cki, k_bds, k_lts, ht, ih (i + 1) n, pu_sf, Int32.add_assoc]
theorem pu_in_m {L : Nat} {w m : k_M} (hL : L ≤ 8) (h8 : m 1 8 = kn L) (h9 : m 1 9 = w 0 11) (hR : w 0 11 = 0 ∨ w 0 11 = 1) (hs : ∀ i, i < pu_n L w → m 1 (65 + pu_p L i) = w (pu_q L i) 5) (st : Int32) : f_X11_inState m st = some (pu_sf (pu_fs L w st) 0 (pu_n L w)) := by
  have h := pu_in_m0 hL h8 h9 hR st 9 0 k_N 0 (by omega) (by unfold k_N; omega)
  rw [Int32.zero_add, pu_sf9 hL hR (fun p => if m 1 (65 + p) = st then 1 else 0)] at h
  refine h.trans (congrArg some (pu_sf_congr _ _ fun j _ hj => ?_))
  show (if m 1 (65 + pu_p L j) = st then (1 : Int32) else 0) = if w (pu_q L j) 5 = st then 1 else 0
  rw [hs j (by omega)]
def pu_g1 (L : Nat) (w : k_M) (i : Nat) : Int32 := w (pu_q L i) 1
def pu_g7 (L : Nat) (w : k_M) (i : Nat) : Int32 := w (pu_q L i) 7
def pu_gc (L : Nat) (w : k_M) (i : Nat) : Int32 := if w (pu_q L i) 5 = 4 then w (pu_q L i) 1 - w (pu_q L i) 7 else 0
def pu_gt (L : Nat) (w : k_M) (i : Nat) : Int32 := if w (pu_q L i) 5 = 4 then 0 else w (pu_q L i) 1 - w (pu_q L i) 7
def pu_cl (a1 x y z : Int32) : Int32 := if a1 = 10 then x else if a1 = 11 then (x - y) - z else if a1 = 12 then y else z
theorem pu_lines_c0 {L : Nat} {w : k_M} (hL : L ≤ 8) (hw : w 0 10 = kn L) {C : Nat} (hC : C ≤ L + 1) (a1 : Int32) : ∀ (k i n : Nat) (x : Int32) (y : Int32) (z : Int32), i + k = C → k < n → f_X9_countLines_16 n w a1 x y z (kn C) (kn i) = some (pu_cl a1 (x + pu_sf (pu_g1 L w) i k) (y + pu_sf (pu_g7 L w) i k) (z + pu_sf (pu_gc L w) i k)) := by
  intro k
  induction k with
  | zero =>
    intro i n x y z hi hn
    obtain ⟨n, rfl⟩ : ∃ n9, n = n9 + 1 := ⟨n - 1, by omega⟩
    have hle : C ≤ i := by omega
    show f_X9_countLines_16_b _ w a1 x y z (kn C) (kn i) = _
    unfold f_X9_countLines_16_b pu_cl
    rw [if_pos (by rw [kn_le (by omega) (by omega)]; exact hle)]
    simp only [pu_sf, Int32.add_zero]
    by_cases q0 : a1 = 10
    · rw [if_pos q0, if_pos q0]
    · rw [if_neg q0, if_neg q0]
      by_cases q1 : a1 = 11
      · rw [if_pos q1, if_pos q1]
      · rw [if_neg q1, if_neg q1]
        by_cases q2 : a1 = 12
        · rw [if_pos q2, if_pos q2]
        · rw [if_neg q2, if_neg q2]
  | succ k ih =>
    intro i n x y z hi hn
    obtain ⟨n, rfl⟩ : ∃ n9, n = n9 + 1 := ⟨n - 1, by omega⟩
    have hle : ¬ C ≤ i := by omega
    have hat := pu_at (i := i) hL hw (by omega)
    have hr : pu_q L i = 2 ∨ (15 ≤ pu_q L i ∧ pu_q L i < 23) := pu_q_r hL
    show f_X9_countLines_16_b _ w a1 x y z (kn C) (kn i) = _
    by_cases h2 : w (pu_q L i) 5 = 4
    · simp (disch := omega) [f_X9_countLines_16_b, f_X9_countLines_66, f_X0_linesThere, hw, hle, hat, k_ckp hr, kn_le, kn_lt, kn_inj, kn_ltl, kn_lel, kn_llt, kn_lle, kn_eql, kn_leq, kn_add, kn_addl, kn_ladd, kn_mul, kn_mull, kn_lmul, kn_nat, kn_neg1, k_ckn, k_cki, k_bds, k_lts, h2, ih (i + 1) n, pu_sf, pu_g1, pu_g7, pu_gc, Int32.add_assoc]
    · simp (disch := omega) [f_X9_countLines_16_b, f_X9_countLines_66, f_X0_linesThere, hw, hle, hat, k_ckp hr, kn_le, kn_lt, kn_inj, kn_ltl, kn_lel, kn_llt, kn_lle, kn_eql, kn_leq, kn_add, kn_addl, kn_ladd, kn_mul, kn_mull, kn_lmul, kn_nat, kn_neg1, k_ckn, k_cki, k_bds, k_lts, h2, ih (i + 1) n, pu_sf, pu_g1, pu_g7, pu_gc, Int32.add_assoc]
theorem pu_lines_c {L : Nat} {w : k_M} (hL : L ≤ 8) (hw : w 0 10 = kn L) (a1 : Int32) : f_X9_countLines w a1 = some (pu_cl a1 (pu_sf (pu_g1 L w) 0 (pu_n L w)) (pu_sf (pu_g7 L w) 0 (pu_n L w)) (pu_sf (pu_gc L w) 0 (pu_n L w))) := by
  have h := pu_lines_c0 hL hw (C := pu_n L w) (by have := pu_n_r (L := L) (w := w); omega) a1 (pu_n L w) 0 k_N 0 0 0 (by omega) (by have := pu_n_r (L := L) (w := w); unfold k_N; omega)
  rw [Int32.zero_add, Int32.zero_add, Int32.zero_add] at h
  unfold f_X9_countLines
  rw [pu_count hw, k_bds]
  exact h
theorem pu_all_m0 {L : Nat} {w m : k_M} (hL : L ≤ 8) (h8 : m 1 8 = kn L) (h9 : m 1 9 = w 0 11) (hR : w 0 11 = 0 ∨ w 0 11 = 1) : ∀ (k i n : Nat) (acc : Int32), i + k = 9 → k < n → f_X11_allLines_4 n m acc (kn i) = some (acc + pu_sf (fun p => if p < L ∨ (p = 8 ∧ w 0 11 = 1) then m 1 (29 + p) else 0) i k) := by
  intro k
  induction k with
  | zero =>
    intro i n acc hi hn
    obtain ⟨n, rfl⟩ : ∃ n9, n = n9 + 1 := ⟨n - 1, by omega⟩
    have hle : 9 ≤ i := by omega
    simp (disch := omega) [f_X11_allLines_4, f_X11_allLines_4_b, hle, kn_le, kn_lt, kn_inj, kn_ltl, kn_lel, kn_llt, kn_lle, kn_eql, kn_leq, kn_add, kn_addl, kn_ladd, kn_mul, kn_mull, kn_lmul, kn_nat, kn_neg1, k_ckn, k_cki, k_bds, k_lts, pu_sf]
  | succ k ih =>
    intro i n acc hi hn
    obtain ⟨n, rfl⟩ : ∃ n9, n = n9 + 1 := ⟨n - 1, by omega⟩
    have hle : ¬ 9 ≤ i := by omega
    have hth := pu_there (p := i) hL h8 h9 hR (by omega)
    show f_X11_allLines_4_b _ m acc (kn i) = _
    by_cases ht : i < L ∨ (i = 8 ∧ w 0 11 = 1)
    · rw [if_pos ht] at hth
      simp (disch := omega) [f_X11_allLines_4_b, f_X11_allLines_32, hle, hth, kn_le, kn_lt, kn_inj, kn_ltl, kn_lel, kn_llt, kn_lle, kn_eql, kn_leq, kn_add, kn_addl, kn_ladd, kn_mul, kn_mull, kn_lmul, kn_nat, kn_neg1, k_ckn, k_cki, k_bds, k_lts, ht, ih (i + 1) n, pu_sf, Int32.add_assoc]
    · rw [if_neg ht] at hth
      simp (disch := omega) [f_X11_allLines_4_b, f_X11_allLines_32, hle, hth, kn_le, kn_lt, kn_inj, kn_ltl, kn_lel, kn_llt, kn_lle, kn_eql, kn_leq, kn_add, kn_addl, kn_ladd, kn_mul, kn_mull, kn_lmul, kn_nat, kn_neg1, k_ckn, k_cki, k_bds, k_lts, ht, ih (i + 1) n, pu_sf, Int32.add_assoc]
theorem pu_all_m {L : Nat} {w m : k_M} (hL : L ≤ 8) (h8 : m 1 8 = kn L) (h9 : m 1 9 = w 0 11) (hR : w 0 11 = 0 ∨ w 0 11 = 1) (hs : ∀ i, i < pu_n L w → m 1 (29 + pu_p L i) = w (pu_q L i) 1) : f_X11_allLines m = some (pu_sf (pu_g1 L w) 0 (pu_n L w)) := by
  have h := pu_all_m0 hL h8 h9 hR 9 0 k_N 0 (by omega) (by unfold k_N; omega)
  rw [Int32.zero_add, pu_sf9 hL hR (fun p => m 1 (29 + p))] at h
  exact h.trans (congrArg some (pu_sf_congr _ _ fun j _ hj => hs j (by omega)))
theorem pu_thl_m0 {L : Nat} {w m : k_M} (hL : L ≤ 8) (h8 : m 1 8 = kn L) (h9 : m 1 9 = w 0 11) (hR : w 0 11 = 0 ∨ w 0 11 = 1) {g : Nat → Int32} (hg : ∀ p, p < 9 → (p < L ∨ (p = 8 ∧ w 0 11 = 1)) → f_X11_bits (m 1 (74 + p)) = some (g p)) : ∀ (k i n : Nat) (acc : Int32), i + k = 9 → k < n → f_X11_linesThere_4 n m acc (kn i) = some (acc + pu_sf (fun p => if p < L ∨ (p = 8 ∧ w 0 11 = 1) then (if m 1 (65 + p) = 4 then 0 else g p) else 0) i k) := by
  intro k
  induction k with
  | zero =>
    intro i n acc hi hn
    obtain ⟨n, rfl⟩ : ∃ n9, n = n9 + 1 := ⟨n - 1, by omega⟩
    have hle : 9 ≤ i := by omega
    simp (disch := omega) [f_X11_linesThere_4, f_X11_linesThere_4_b, hle, kn_le, kn_lt, kn_inj, kn_ltl, kn_lel, kn_llt, kn_lle, kn_eql, kn_leq, kn_add, kn_addl, kn_ladd, kn_mul, kn_mull, kn_lmul, kn_nat, kn_neg1, k_ckn, k_cki, k_bds, k_lts, pu_sf]
  | succ k ih =>
    intro i n acc hi hn
    obtain ⟨n, rfl⟩ : ∃ n9, n = n9 + 1 := ⟨n - 1, by omega⟩
    have hle : ¬ 9 ≤ i := by omega
    have hth := pu_there (p := i) hL h8 h9 hR (by omega)
    show f_X11_linesThere_4_b _ m acc (kn i) = _
    by_cases ht : i < L ∨ (i = 8 ∧ w 0 11 = 1)
    · rw [if_pos ht] at hth
      have hb := hg i (by omega) ht
      by_cases h2 : m 1 (65 + i) = 4
      · simp (disch := omega) [f_X11_linesThere_4_b, f_X11_linesThere_47, f_X11_linesThere_48, hle, hth, hb, kn_le, kn_lt, kn_inj, kn_ltl, kn_lel, kn_llt, kn_lle, kn_eql, kn_leq, kn_add, kn_addl, kn_ladd, kn_mul, kn_mull, kn_lmul, kn_nat, kn_neg1, k_ckn, k_cki, k_bds, k_lts, h2, ht, ih (i + 1) n, pu_sf, Int32.add_assoc]
      · simp (disch := omega) [f_X11_linesThere_4_b, f_X11_linesThere_47, f_X11_linesThere_48, hle, hth, hb, kn_le, kn_lt, kn_inj, kn_ltl, kn_lel, kn_llt, kn_lle, kn_eql, kn_leq, kn_add, kn_addl, kn_ladd, kn_mul, kn_mull, kn_lmul, kn_nat, kn_neg1, k_ckn, k_cki, k_bds, k_lts, h2, ht, ih (i + 1) n, pu_sf, Int32.add_assoc]
    · rw [if_neg ht] at hth
      simp (disch := omega) [f_X11_linesThere_4_b, f_X11_linesThere_47, f_X11_linesThere_48, hle, hth, kn_le, kn_lt, kn_inj, kn_ltl, kn_lel, kn_llt, kn_lle, kn_eql, kn_leq, kn_add, kn_addl, kn_ladd, kn_mul, kn_mull, kn_lmul, kn_nat, kn_neg1, k_ckn, k_cki, k_bds, k_lts, ht, ih (i + 1) n, pu_sf, Int32.add_assoc]
theorem pu_bits {w : k_M} {q p : Nat} {s : Nat → Int32} (h : pu_C w q s p) : f_X11_bits (s (74 + p)) = some (w q 1 - w q 7) := by
  obtain ⟨ar, li, st, t, -, h2, -, h4, ⟨-, e1, -, e7⟩, -, -, -, ⟨-, -, -, -, -, -, e74, -⟩⟩ := h
  rw [e74, e1, e7, kmask_bits li (by omega) t (by omega), kn_sub h4]
theorem pu_thl_m {L : Nat} {w m : k_M} (hL : L ≤ 8) (h8 : m 1 8 = kn L) (h9 : m 1 9 = w 0 11) (hR : w 0 11 = 0 ∨ w 0 11 = 1) (hs : ∀ i, i < pu_n L w → pu_C w (pu_q L i) (m 1) (pu_p L i)) : f_X11_linesThere m = some (pu_sf (pu_gt L w) 0 (pu_n L w)) := by
  have hg : ∀ p, p < 9 → (p < L ∨ (p = 8 ∧ w 0 11 = 1)) → f_X11_bits (m 1 (74 + p)) = some (if p < L then w (15 + p) 1 - w (15 + p) 7 else w 2 1 - w 2 7) := by
    intro p hp h
    by_cases hp2 : p < L
    · have := pu_bits (hs p (pu_n_L hp2))
      rw [pu_q_l hp2, pu_p_l hp2] at this
      rw [if_pos hp2]
      exact this
    · have h1 : p = 8 ∧ w 0 11 = 1 := h.resolve_left hp2
      have hn : L < pu_n L w := by
        unfold pu_n
        rw [if_neg (by rw [h1.2]; decide)]
        omega
      have := pu_bits (hs L hn)
      rw [pu_q_n (Nat.lt_irrefl L), pu_p_n (Nat.lt_irrefl L)] at this
      rw [if_neg hp2, h1.1]
      exact this
  have h := pu_thl_m0 hL h8 h9 hR hg 9 0 k_N 0 (by omega) (by unfold k_N; omega)
  rw [Int32.zero_add, pu_sf9 hL hR (fun p => if m 1 (65 + p) = 4 then 0 else (if p < L then w (15 + p) 1 - w (15 + p) 7 else w 2 1 - w 2 7))] at h
  refine h.trans (congrArg some (pu_sf_congr _ _ fun j _ hj => ?_))
  obtain ⟨ar, li, st, t, -, -, -, -, -, -, -, -, ⟨-, -, -, -, -, e65, -, -⟩⟩ := hs j (by omega)
  rw [e65]
  unfold pu_gt
  by_cases h4 : w (pu_q L j) 5 = 4
  · rw [if_pos h4, if_pos h4]
  · rw [if_neg h4, if_neg h4]
    by_cases hj2 : j < L
    · rw [pu_p_l hj2, pu_q_l hj2, if_pos hj2]
    · rw [pu_p_n hj2, pu_q_n hj2, if_neg (by omega)]
theorem pu_sf_ring (f g h : Nat → Int32) (hh : ∀ i, h i = f i - g i) : ∀ (k i : Nat), pu_sf h i k = pu_sf f i k - pu_sf g i k := by
  intro k
  induction k with
  | zero => intro i; exact (Int32.sub_self 0).symm
  | succ k ih =>
    intro i
    show h i + pu_sf h (i + 1) k = (f i + pu_sf f (i + 1) k) - (g i + pu_sf g (i + 1) k)
    rw [hh, ih]
    grind
theorem pu_sf_split (L : Nat) (w : k_M) (k i : Nat) : pu_sf (pu_gt L w) i k = (pu_sf (pu_g1 L w) i k - pu_sf (pu_g7 L w) i k) - pu_sf (pu_gc L w) i k := by
  rw [← pu_sf_ring (pu_g1 L w) (pu_g7 L w) (fun i => pu_g1 L w i - pu_g7 L w i) (fun _ => rfl), ← pu_sf_ring (fun i => pu_g1 L w i - pu_g7 L w i) (pu_gc L w) (pu_gt L w)]
  intro j
  unfold pu_gt pu_g1 pu_g7 pu_gc
  by_cases h : w (pu_q L j) 5 = 4
  · rw [if_pos h, if_pos h, Int32.sub_self]
  · rw [if_neg h, if_neg h, Int32.sub_zero]
def pu_fj (w : k_M) (i : Nat) : Int32 := if w (15 + i) 5 = 0 then w (15 + i) 6 else 0
theorem pu_jam_c0 {L : Nat} {w : k_M} (hL : L ≤ 8) (hw : w 0 10 = kn L) (hj : ∀ i, i < L → w (15 + i) 6 = 0 ∨ w (15 + i) 6 = 1) : ∀ (k i n : Nat) (acc : Int32), i + k = L → k < n → f_X9_packedJammedLayers_4 n w acc (kn i) = some (acc + pu_sf (pu_fj w) i k) := by
  intro k
  induction k with
  | zero =>
    intro i n acc hi hn
    obtain ⟨n, rfl⟩ : ∃ n9, n = n9 + 1 := ⟨n - 1, by omega⟩
    have hle : L ≤ i := by omega
    simp (disch := omega) [f_X9_packedJammedLayers_4, f_X9_packedJammedLayers_4_b, hw, hle, kn_le, kn_lt, kn_inj, kn_ltl, kn_lel, kn_llt, kn_lle, kn_eql, kn_leq, kn_add, kn_addl, kn_ladd, kn_mul, kn_mull, kn_lmul, kn_nat, kn_neg1, k_ckn, k_cki, k_bds, k_lts, pu_sf]
  | succ k ih =>
    intro i n acc hi hn
    obtain ⟨n, rfl⟩ : ∃ n9, n = n9 + 1 := ⟨n - 1, by omega⟩
    have hle : ¬ L ≤ i := by omega
    show f_X9_packedJammedLayers_4_b _ w acc (kn i) = _
    by_cases h2 : w (15 + i) 5 = 0
    · rcases hj i (by omega) with h3 | h3
      · simp (disch := omega) [f_X9_packedJammedLayers_4_b, f_X9_packedJammedLayers_39, hw, hle, kn_le, kn_lt, kn_inj, kn_ltl, kn_lel, kn_llt, kn_lle, kn_eql, kn_leq, kn_add, kn_addl, kn_ladd, kn_mul, kn_mull, kn_lmul, kn_nat, kn_neg1, k_ckn, k_cki, k_bds, k_lts, h2, h3, ih (i + 1) n, pu_sf, pu_fj, Int32.add_assoc]
      · simp (disch := omega) [f_X9_packedJammedLayers_4_b, f_X9_packedJammedLayers_39, hw, hle, kn_le, kn_lt, kn_inj, kn_ltl, kn_lel, kn_llt, kn_lle, kn_eql, kn_leq, kn_add, kn_addl, kn_ladd, kn_mul, kn_mull, kn_lmul, kn_nat, kn_neg1, k_ckn, k_cki, k_bds, k_lts, h2, h3, ih (i + 1) n, pu_sf, pu_fj, Int32.add_assoc]
    · simp (disch := omega) [f_X9_packedJammedLayers_4_b, f_X9_packedJammedLayers_39, hw, hle, kn_le, kn_lt, kn_inj, kn_ltl, kn_lel, kn_llt, kn_lle, kn_eql, kn_leq, kn_add, kn_addl, kn_ladd, kn_mul, kn_mull, kn_lmul, kn_nat, kn_neg1, k_ckn, k_cki, k_bds, k_lts, h2, ih (i + 1) n, pu_sf, pu_fj, Int32.add_assoc]
theorem pu_jam_c {L : Nat} {w : k_M} (hL : L ≤ 8) (hw : w 0 10 = kn L) (hj : ∀ i, i < L → w (15 + i) 6 = 0 ∨ w (15 + i) 6 = 1) : f_X9_packedJammedLayers w = some (pu_sf (pu_fj w) 0 L) := by
  have h := pu_jam_c0 hL hw hj L 0 k_N 0 (by omega) (by unfold k_N; omega)
  rw [Int32.zero_add] at h
  exact h

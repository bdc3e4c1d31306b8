/-! the kinds of bytes -/
def pu_kd (b : Nat) : Nat := if 97 ≤ b ∧ b ≤ 122 then 1 else if 48 ≤ b ∧ b ≤ 57 then 2 else if b = 10 ∨ b = 32 then 5 else if b = 45 then 3 else if b = 59 then 4 else 6
theorem pu_kdC : ∀ b : Nat, b < 256 → f_X4_kindOf (kn b) = some (kn (pu_kd b)) := by decide +kernel
theorem pu_letter : ∀ b : Nat, b < 256 → f_X11_isLetter (kn b) = some (if pu_kd b = 1 then 1 else 0) := by decide +kernel
theorem pu_digit : ∀ b : Nat, b < 256 → f_X11_isDigit (kn b) = some (if pu_kd b = 2 then 1 else 0) := by decide +kernel
theorem pu_space : ∀ b : Nat, b < 256 → (pu_kd b = 5 ↔ kn b = 32 ∨ kn b = 10) := by decide +kernel
theorem pu_semi : ∀ b : Nat, b < 256 → (pu_kd b = 4 ↔ kn b = 59) := by decide +kernel
theorem pu_minus : ∀ b : Nat, b < 256 → (pu_kd b = 3 ↔ kn b = 45) := by decide +kernel
theorem pu_kd_r : ∀ b : Nat, b < 256 → (1 ≤ pu_kd b ∧ pu_kd b ≤ 6) := by decide +kernel
theorem pu_kd2 : ∀ b : Nat, b < 256 → pu_kd b = 2 → (48 ≤ b ∧ b ≤ 57) := by decide +kernel
theorem pu_kd1 : ∀ b : Nat, b < 256 → pu_kd b = 1 → (97 ≤ b ∧ b ≤ 122) := by decide +kernel
theorem pu_letN : f_X11_isLetter (-1) = some 0 := by decide +kernel
theorem pu_digN : f_X11_isDigit (-1) = some 0 := by decide +kernel
/-- the byte at i, as a number -/
theorem pu_at_b {r m : k_M} {len i : Nat} (h : pu_Xl r m len) (hl : len ≤ 600) (hi : i < len) : ∃ b : Nat, b < 256 ∧ 1 ≤ b ∧ r 1 i = kn b ∧ r 2 i = kn (pu_kd b) ∧ m 9 i = (kn b).toInt8.toInt32 ∧ f_X11_byteAt m (kn i) = some (kn b) := by
  obtain ⟨b, b1, b2, b3, b4, b5⟩ := h.2.2 i hi
  refine ⟨b, by omega, b1, b3, ?_, b5, ?_⟩
  · rw [pu_kdC b (by omega)] at b4
    exact (Option.some.inj b4).symm
  · unfold f_X11_byteAt
    rw [h.2.1, if_neg (by rw [kn_le (by omega) (by omega)]; omega), k_ckn (by omega) (by decide), kn_nat (by omega), b5, pu_b8 b (by omega)]
theorem pu_at_e {r m : k_M} {len i : Nat} (h : pu_Xl r m len) (hl : len ≤ 600) (hi : len ≤ i) (hi2 : i < 4000) : f_X11_byteAt m (kn i) = some (-1) := by
  unfold f_X11_byteAt
  rw [h.2.1, if_pos (by rw [kn_le (by omega) (by omega)]; omega)]
/-- the text is untouched -/
theorem pu_Xl_c {r r' m m' : k_M} {len : Nat} (h : pu_Xl r m len) (a : r' 0 2 = r 0 2) (a1 : r' 1 = r 1) (a2 : r' 2 = r 2) (b : m' 0 10 = m 0 10) (b9 : m' 9 = m 9) : pu_Xl r' m' len := ⟨a.trans h.1, b.trans h.2.1, by rw [a1, a2, b9]; exact h.2.2⟩
/-! advance: the spaces -/
theorem pu_sp {len : Nat} (hl : len ≤ 600) : ∀ (k i f f' : Nat) (r m : k_M), i + k = len → k < f → k < f' → pu_Xl r m len → r 0 6 = kn i → m 0 12 = kn i → ∃ (r' m' : k_M) (f2 f2' j : Nat), f_X4_advance_16 f r = f_X4_advance_53 r' ∧ f_X11_advance_0 f' m = f_X11_advance_0 (f2' + 1) m' ∧ (∀ c, c ≠ 0 → r' c = r c) ∧ (∀ x, x ≠ 6 → r' 0 x = r 0 x) ∧ (∀ c, c ≠ 0 → m' c = m c) ∧ (∀ x, x ≠ 12 → m' 0 x = m 0 x) ∧ r' 0 6 = kn j ∧ m' 0 12 = kn j ∧ i ≤ j ∧ j ≤ len ∧ (j = len ∨ ∃ b, b < 256 ∧ r 1 j = kn b ∧ ¬ pu_kd b = 5) := by
  intro k
  induction k with
  | zero =>
    intro i f f' r m hi hf hf' hX h6 h12
    obtain ⟨f, rfl⟩ : ∃ n9, f = n9 + 1 := ⟨f - 1, by omega⟩
    obtain ⟨f', rfl⟩ : ∃ n9, f' = n9 + 1 := ⟨f' - 1, by omega⟩
    refine ⟨r, m, 0, f', i, ?_, rfl, fun _ _ => rfl, fun _ _ => rfl, fun _ _ => rfl, fun _ _ => rfl, h6, h12, Nat.le_refl _, by omega, Or.inl (by omega)⟩
    show f_X4_advance_16_b _ r = _
    unfold f_X4_advance_16_b
    rw [hX.1, h6, if_pos (by rw [kn_le (by omega) (by omega)]; omega)]
  | succ k ih =>
    intro i f f' r m hi hf hf' hX h6 h12
    obtain ⟨f, rfl⟩ : ∃ n9, f = n9 + 1 := ⟨f - 1, by omega⟩
    obtain ⟨f', rfl⟩ : ∃ n9, f' = n9 + 1 := ⟨f' - 1, by omega⟩
    obtain ⟨b, b1, b0, b2, b3, b4, b5⟩ := pu_at_b hX hl (show i < len by omega)
    have eX : f_X4_advance_16 (f + 1) r = (if kn (pu_kd b) = 5 then f_X4_advance_16 f (k_up r 0 6 (kn (i + 1))) else f_X4_advance_53 r) := by
      show f_X4_advance_16_b _ r = _
      unfold f_X4_advance_16_b
      rw [hX.1, h6, if_neg (by rw [kn_le (by omega) (by omega)]; omega), k_ckn (by omega) (by decide), kn_nat (by omega), b3, k_lts, show kn i + 1 = kn (i + 1) from kn_addl i 1]
    have hk : kn (pu_kd b) = 5 ↔ pu_kd b = 5 := by
      have := pu_kd_r b b1
      rw [kn_eql (by omega) (by decide)]
    by_cases h5 : pu_kd b = 5
    · rw [if_pos (hk.mpr h5)] at eX
      have eY : f_X11_advance_0 (f' + 1) m = f_X11_advance_0 f' (k_up m 0 12 (kn (i + 1))) := by
        show f_X11_advance_0_b _ m = _
        unfold f_X11_advance_0_b f_X11_advance_26
        rw [h12, b5, k_bds, k_bds, k_lts, show kn i + 1 = kn (i + 1) from kn_addl i 1]
        rcases (pu_space b b1).mp h5 with e | e
        · rw [e, if_pos rfl]
        · rw [e, if_neg (by decide), if_pos rfl]
      obtain ⟨r', m', f2, f2', j, t1, t2, t3, t4, t5, t6, t7, t8, t9, t10, t11⟩ := ih (i + 1) f f' (k_up r 0 6 (kn (i + 1))) (k_up m 0 12 (kn (i + 1))) (by omega) (by omega) (by omega) (pu_Xl_c hX (k_upi _ _ (by decide)) (k_upc _ _ (by decide)) (k_upc _ _ (by decide)) (k_upi _ _ (by decide)) (k_upc _ _ (by decide))) (k_ups _ _ _ _) (k_ups _ _ _ _)
      refine ⟨r', m', f2, f2', j, eX.trans t1, eY.trans t2, fun c hc => by rw [t3 c hc, k_upc _ _ hc], fun x hx => by rw [t4 x hx, k_upi _ _ hx], fun c hc => by rw [t5 c hc, k_upc _ _ hc], fun x hx => by rw [t6 x hx, k_upi _ _ hx], t7, t8, by omega, t10, ?_⟩
      rw [k_upc _ _ (show 1 ≠ 0 by decide)] at t11
      exact t11
    · rw [if_neg (fun e => h5 (hk.mp e))] at eX
      exact ⟨r, m, 0, f', i, eX, rfl, fun _ _ => rfl, fun _ _ => rfl, fun _ _ => rfl, fun _ _ => rfl, h6, h12, Nat.le_refl _, by omega, Or.inr ⟨b, b1, b2, h5⟩⟩
/-! letters, digits -/
theorem pu_lets {len : Nat} (hl : len ≤ 600) : ∀ (k i f f' : Nat) (r m : k_M), i + k = len → k < f → k < f' → pu_Xl r m len → r 0 7 = kn i → m 0 12 = kn i → ∃ (r' m' : k_M) (j : Nat), f_X4_advance_109 f r = some r' ∧ f_X11_advance_86 f' m = some m' ∧ (∀ c, c ≠ 0 → r' c = r c) ∧ (∀ x, x ≠ 7 → r' 0 x = r 0 x) ∧ (∀ c, c ≠ 0 → m' c = m c) ∧ (∀ x, x ≠ 12 → m' 0 x = m 0 x) ∧ r' 0 7 = kn j ∧ m' 0 12 = kn j ∧ i ≤ j ∧ j ≤ len ∧ (∀ x, i ≤ x → x < j → ∃ b, b < 256 ∧ r 1 x = kn b ∧ pu_kd b = 1) := by
  intro k
  induction k with
  | zero =>
    intro i f f' r m hi hf hf' hX h6 h12
    obtain ⟨f, rfl⟩ : ∃ n9, f = n9 + 1 := ⟨f - 1, by omega⟩
    obtain ⟨f', rfl⟩ : ∃ n9, f' = n9 + 1 := ⟨f' - 1, by omega⟩
    refine ⟨r, m, i, ?_, ?_, fun _ _ => rfl, fun _ _ => rfl, fun _ _ => rfl, fun _ _ => rfl, h6, h12, Nat.le_refl _, by omega, fun x a b => by omega⟩
    · show f_X4_advance_109_b _ r = _
      unfold f_X4_advance_109_b
      rw [hX.1, h6, if_pos (by rw [kn_le (by omega) (by omega)]; omega)]
    · show f_X11_advance_86_b _ m = _
      unfold f_X11_advance_86_b
      rw [h12, pu_at_e hX hl (by omega) (by omega), k_bds, pu_letN, k_bds, if_pos rfl]
  | succ k ih =>
    intro i f f' r m hi hf hf' hX h6 h12
    obtain ⟨f, rfl⟩ : ∃ n9, f = n9 + 1 := ⟨f - 1, by omega⟩
    obtain ⟨f', rfl⟩ : ∃ n9, f' = n9 + 1 := ⟨f' - 1, by omega⟩
    obtain ⟨b, b1, b0, b2, b3, b4, b5⟩ := pu_at_b hX hl (show i < len by omega)
    have hk : kn (pu_kd b) = 1 ↔ pu_kd b = 1 := by
      have := pu_kd_r b b1
      rw [kn_eql (by omega) (by decide)]
    have eX : f_X4_advance_109 (f + 1) r = (if kn (pu_kd b) = 1 then f_X4_advance_109 f (k_up r 0 7 (kn (i + 1))) else some r) := by
      show f_X4_advance_109_b _ r = _
      unfold f_X4_advance_109_b
      rw [hX.1, h6, if_neg (by rw [kn_le (by omega) (by omega)]; omega), k_ckn (by omega) (by decide), kn_nat (by omega), b3, k_lts, show kn i + 1 = kn (i + 1) from kn_addl i 1]
    have eY : f_X11_advance_86 (f' + 1) m = (if pu_kd b = 1 then f_X11_advance_86 f' (k_up m 0 12 (kn (i + 1))) else some m) := by
      show f_X11_advance_86_b _ m = _
      unfold f_X11_advance_86_b
      rw [h12, b5, k_bds, pu_letter b b1, k_bds, k_lts, show kn i + 1 = kn (i + 1) from kn_addl i 1]
      by_cases h5 : pu_kd b = 1
      · rw [if_pos h5, if_pos h5, if_neg (by decide)]
      · rw [if_neg h5, if_neg h5, if_pos rfl]
    by_cases h5 : pu_kd b = 1
    · rw [if_pos (hk.mpr h5)] at eX
      rw [if_pos h5] at eY
      obtain ⟨r', m', j, t1, t2, t3, t4, t5, t6, t7, t8, t9, t10, t11⟩ := ih (i + 1) f f' (k_up r 0 7 (kn (i + 1))) (k_up m 0 12 (kn (i + 1))) (by omega) (by omega) (by omega) (pu_Xl_c hX (k_upi _ _ (by decide)) (k_upc _ _ (by decide)) (k_upc _ _ (by decide)) (k_upi _ _ (by decide)) (k_upc _ _ (by decide))) (k_ups _ _ _ _) (k_ups _ _ _ _)
      refine ⟨r', m', j, eX.trans t1, eY.trans t2, fun c hc => by rw [t3 c hc, k_upc _ _ hc], fun x hx => by rw [t4 x hx, k_upi _ _ hx], fun c hc => by rw [t5 c hc, k_upc _ _ hc], fun x hx => by rw [t6 x hx, k_upi _ _ hx], t7, t8, by omega, t10, fun x a c => ?_⟩
      by_cases hxi : x = i
      · subst hxi
        exact ⟨b, b1, b2, h5⟩
      · have := t11 x (by omega) c
        rw [k_upc _ _ (show 1 ≠ 0 by decide)] at this
        exact this
    · rw [if_neg (fun e => h5 (hk.mp e))] at eX
      rw [if_neg h5] at eY
      exact ⟨r, m, i, eX, eY, fun _ _ => rfl, fun _ _ => rfl, fun _ _ => rfl, fun _ _ => rfl, h6, h12, Nat.le_refl _, by omega, fun x a b => by omega⟩

/-! advance: digits, and the whole of it -/
theorem pu_let1 {r m : k_M} {len i b : Nat} (hX : pu_Xl r m len) (hl : len ≤ 600) (hi : i < len) (b1 : b < 256) (hb : r 1 i = kn b) (h5 : pu_kd b = 1) (h12 : m 0 12 = kn i) (f' : Nat) : f_X11_advance_86 (f' + 1) m = f_X11_advance_86 f' (k_up m 0 12 (kn (i + 1))) := by
  obtain ⟨b', b1', b0, b2, b3, b4, b5⟩ := pu_at_b hX hl hi
  have e : b' = b := by
    have := b2.symm.trans hb
    rw [kn_inj (by omega) (by omega)] at this
    exact this
  subst e
  show f_X11_advance_86_b _ m = _
  unfold f_X11_advance_86_b
  rw [h12, b5, k_bds, pu_letter b' b1, k_bds, if_pos h5, if_neg (by decide), k_lts, show kn i + 1 = kn (i + 1) from kn_addl i 1]
theorem pu_val {v b : Nat} (hv : v ≤ 999999) (hb : 48 ≤ b) : kn v * 10 + kn b - 48 = kn (10 * v + (b - 48)) ∧ 10 * kn v + kn b - 48 = kn (10 * v + (b - 48)) := by
  constructor
  · rw [kn_mull, kn_add, kn_subl (show (OfNat.ofNat 48 : Nat) ≤ _ from (show 48 ≤ v * 10 + b by omega))]
    exact congrArg kn (show v * 10 + b - 48 = 10 * v + (b - 48) by omega)
  · rw [kn_lmul, kn_add, kn_subl (show (OfNat.ofNat 48 : Nat) ≤ _ from (show 48 ≤ 10 * v + b by omega))]
    exact congrArg kn (show 10 * v + b - 48 = 10 * v + (b - 48) by omega)
theorem pu_dgt1 {r m : k_M} {len i b v : Nat} (hX : pu_Xl r m len) (hl : len ≤ 600) (hi : i < len) (b1 : b < 256) (hb : r 1 i = kn b) (h5 : pu_kd b = 2) (h12 : m 0 12 = kn i) (h14 : m 0 14 = kn v) (hv : v ≤ 9999999) (f' : Nat) : f_X11_advance_125 (f' + 1) m = f_X11_advance_125 f' (k_up (k_up m 0 14 (kn (if v ≤ 999999 then 10 * v + (b - 48) else v))) 0 12 (kn (i + 1))) := by
  obtain ⟨b', b1', b0, b2, b3, b4, b5⟩ := pu_at_b hX hl hi
  have e : b' = b := by
    have := b2.symm.trans hb
    rw [kn_inj (by omega) (by omega)] at this
    exact this
  subst e
  show f_X11_advance_125_b _ m = _
  unfold f_X11_advance_125_b f_X11_advance_176
  rw [h12, b5, k_bds, pu_digit b' b1, k_bds, if_pos h5, if_neg (by decide), h14, k_bds]
  by_cases hv6 : v ≤ 999999
  · rw [if_pos (by rw [kn_lel (by omega) (by omega)]; exact hv6), (pu_val hv6 (pu_kd2 b' b1 h5).1).2, if_pos hv6, k_lts, k_upi _ _ (show 12 ≠ 14 by decide), h12, k_lts, show kn i + 1 = kn (i + 1) from kn_addl i 1]
  · rw [if_neg (by rw [kn_lel (by omega) (by omega)]; exact hv6), if_neg hv6, k_lts, k_upi _ _ (show 12 ≠ 14 by decide), h12, k_lts, show kn i + 1 = kn (i + 1) from kn_addl i 1]
theorem pu_digs {len : Nat} (hl : len ≤ 600) : ∀ (k i f f' v : Nat) (r m : k_M), i + k = len → k < f → k < f' → pu_Xl r m len → r 0 7 = kn i → m 0 12 = kn i → r 0 8 = kn v → m 0 14 = kn v → v ≤ 9999999 → ∃ (r' m' : k_M) (j v' : Nat), f_X4_advance_170 f r = some r' ∧ f_X11_advance_125 f' m = some m' ∧ (∀ c, c ≠ 0 → r' c = r c) ∧ (∀ x, x ≠ 7 → x ≠ 8 → r' 0 x = r 0 x) ∧ (∀ c, c ≠ 0 → m' c = m c) ∧ (∀ x, x ≠ 12 → x ≠ 14 → m' 0 x = m 0 x) ∧ r' 0 7 = kn j ∧ m' 0 12 = kn j ∧ i ≤ j ∧ j ≤ len ∧ r' 0 8 = kn v' ∧ m' 0 14 = kn v' ∧ v' ≤ 9999999 := by
  intro k
  induction k with
  | zero =>
    intro i f f' v r m hi hf hf' hX h6 h12 h8 h14 hv
    obtain ⟨f, rfl⟩ : ∃ n9, f = n9 + 1 := ⟨f - 1, by omega⟩
    obtain ⟨f', rfl⟩ : ∃ n9, f' = n9 + 1 := ⟨f' - 1, by omega⟩
    refine ⟨r, m, i, v, ?_, ?_, fun _ _ => rfl, fun _ _ _ => rfl, fun _ _ => rfl, fun _ _ _ => rfl, h6, h12, Nat.le_refl _, by omega, h8, h14, hv⟩
    · show f_X4_advance_170_b _ r = _
      unfold f_X4_advance_170_b
      rw [hX.1, h6, if_pos (by rw [kn_le (by omega) (by omega)]; omega)]
    · show f_X11_advance_125_b _ m = _
      unfold f_X11_advance_125_b
      rw [h12, pu_at_e hX hl (by omega) (by omega), k_bds, pu_digN, k_bds, if_pos rfl]
  | succ k ih =>
    intro i f f' v r m hi hf hf' hX h6 h12 h8 h14 hv
    obtain ⟨f, rfl⟩ : ∃ n9, f = n9 + 1 := ⟨f - 1, by omega⟩
    obtain ⟨f', rfl⟩ : ∃ n9, f' = n9 + 1 := ⟨f' - 1, by omega⟩
    obtain ⟨b, b1, b0, b2, b3, b4, b5⟩ := pu_at_b hX hl (show i < len by omega)
    have hk : kn (pu_kd b) = 2 ↔ pu_kd b = 2 := by
      have := pu_kd_r b b1
      rw [kn_eql (by omega) (by decide)]
    by_cases h5 : pu_kd b = 2
    · have h48 := pu_kd2 b b1 h5
      have eX : f_X4_advance_170 (f + 1) r = f_X4_advance_170 f (k_up (if v ≤ 999999 then k_up r 0 8 (kn (10 * v + (b - 48))) else r) 0 7 (kn (i + 1))) := by
        show f_X4_advance_170_b _ r = _
        unfold f_X4_advance_170_b f_X4_advance_227
        rw [hX.1, h6, if_neg (by rw [kn_le (by omega) (by omega)]; omega), k_ckn (by omega) (by decide), k_ckn (by omega) (by decide), kn_nat (by omega), b3, if_pos (hk.mpr h5), h8, b2]
        by_cases hv6 : v ≤ 999999
        · rw [if_neg (by rw [kn_lle (by omega) (by omega)]; omega), if_pos hv6, (pu_val hv6 h48.1).1, k_lts, k_upi _ _ (show 7 ≠ 8 by decide), h6, k_lts, show kn i + 1 = kn (i + 1) from kn_addl i 1]
        · rw [if_pos (by rw [kn_lle (by omega) (by omega)]; omega), if_neg hv6, k_lts, show kn i + 1 = kn (i + 1) from kn_addl i 1]
      have eY := pu_dgt1 hX hl (show i < len by omega) b1 b2 h5 h12 h14 hv f'
      generalize hr1 : k_up (if v ≤ 999999 then k_up r 0 8 (kn (10 * v + (b - 48))) else r) 0 7 (kn (i + 1)) = r1 at eX
      have g0 : ∀ x, x ≠ 7 → x ≠ 8 → r1 0 x = r 0 x := fun x a c => by
        rw [← hr1, k_upi _ _ a]
        split
        · exact k_upi _ _ c
        · rfl
      have gc : ∀ c, c ≠ 0 → r1 c = r c := fun c hc => by
        rw [← hr1, k_upc _ _ hc]
        split
        · exact k_upc _ _ hc
        · rfl
      have g8 : r1 0 8 = kn (if v ≤ 999999 then 10 * v + (b - 48) else v) := by
        rw [← hr1, k_upi _ _ (by decide)]
        split
        · exact k_ups _ _ _ _
        · exact h8
      obtain ⟨r', m', j, v', t1, t2, t3, t4, t5, t6, t7, t8, t9, t10, t11⟩ := ih (i + 1) f f' (if v ≤ 999999 then 10 * v + (b - 48) else v) r1 (k_up (k_up m 0 14 (kn (if v ≤ 999999 then 10 * v + (b - 48) else v))) 0 12 (kn (i + 1))) (by omega) (by omega) (by omega) (pu_Xl_c hX (g0 2 (by decide) (by decide)) (gc 1 (by decide)) (gc 2 (by decide)) (by rw [k_upi _ _ (by decide), k_upi _ _ (by decide)]) (by rw [k_upc _ _ (by decide), k_upc _ _ (by decide)])) (by rw [← hr1, k_ups]) (k_ups _ _ _ _) g8 (by rw [k_upi _ _ (by decide), k_ups]) (by split <;> omega)
      exact ⟨r', m', j, v', eX.trans t1, eY.trans t2, fun c hc => by rw [t3 c hc, gc c hc], fun x a c => by rw [t4 x a c, g0 x a c], fun c hc => by rw [t5 c hc, k_upc _ _ hc, k_upc _ _ hc], fun x a c => by rw [t6 x a c, k_upi _ _ a, k_upi _ _ c], t7, t8, by omega, t10, t11⟩
    · refine ⟨r, m, i, v, ?_, ?_, fun _ _ => rfl, fun _ _ _ => rfl, fun _ _ => rfl, fun _ _ _ => rfl, h6, h12, Nat.le_refl _, by omega, h8, h14, hv⟩
      · show f_X4_advance_170_b _ r = _
        unfold f_X4_advance_170_b
        rw [hX.1, h6, if_neg (by rw [kn_le (by omega) (by omega)]; omega), k_ckn (by omega) (by decide), kn_nat (by omega), b3, if_neg (fun e => h5 (hk.mp e))]
      · show f_X11_advance_125_b _ m = _
        unfold f_X11_advance_125_b
        rw [h12, b5, k_bds, pu_digit b b1, k_bds, if_neg h5, if_pos rfl]
/-- the token: its kind, its start, its end, its value -/
def pu_Tk (r m : k_M) (len nx : Nat) : Prop := ∃ st nx' k : Nat, nx ≤ st ∧ st ≤ nx' ∧ nx' ≤ len ∧ r 0 6 = kn st ∧ m 0 11 = kn st ∧ r 0 7 = kn nx' ∧ m 0 12 = kn nx' ∧ r 0 5 = kn k ∧ m 0 13 = kn (if k = 6 then 5 else k) ∧ (k ≤ 4 ∨ k = 6) ∧ (¬ k = 0 → st < nx') ∧ (k = 1 → ∀ x, st ≤ x → x < nx' → ∃ b, b < 256 ∧ r 1 x = kn b ∧ pu_kd b = 1) ∧ (k = 2 → ∃ v, v ≤ 9999999 ∧ r 0 8 = kn v ∧ m 0 14 = kn v)

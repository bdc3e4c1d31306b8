/-! words -/
theorem pu_wordL {r m : k_M} {len st t t' : Nat} (hX : pu_Xl r m len) (hl : len ≤ 600) (ht : k_wd t = k_wd t') (hs : st + (k_wd t).length ≤ len) (h6 : r 0 6 = kn st) (h11 : m 0 11 = kn st) (hlet : ∀ x, st ≤ x → x < st + (k_wd t).length → ∃ b, b < 256 ∧ r 1 x = kn b ∧ pu_kd b = 1) : ∀ (k i f f' : Nat), i + k = (k_wd t).length → k + 1 < f → k + 2 < f' → ∃ v, f_X4_isAt_28 f r t (kn i) = some v ∧ f_X11_isWord_32 f' m t' 1 (kn i) = some v ∧ (v = 0 ∨ v = 1) := by
  have w1 : k_wlen t = kn (k_wd t).length := rfl
  have w2 : k_wlen t' = kn (k_wd t).length := by rw [ht]; rfl
  have w3 : ∀ j, k_wchr t' j = k_wchr t j := fun j => by
    unfold k_wchr
    rw [ht]
  intro k
  induction k with
  | zero =>
    intro i f f' hi hf hf'
    obtain ⟨f, rfl⟩ : ∃ n9, f = n9 + 1 := ⟨f - 1, by omega⟩
    obtain ⟨f', rfl⟩ : ∃ n9, f' = n9 + 1 := ⟨f' - 1, by omega⟩
    refine ⟨1, ?_, ?_, Or.inr rfl⟩
    · show f_X4_isAt_28_b _ r t (kn i) = _
      unfold f_X4_isAt_28_b
      rw [w1, if_pos (by rw [kn_le (by omega) (by omega)]; omega)]
    · show f_X11_isWord_32_b _ m t' 1 (kn i) = _
      unfold f_X11_isWord_32_b
      rw [w2, if_pos (by rw [kn_le (by omega) (by omega)]; omega), k_ckp (Or.inr rfl)]
  | succ k ih =>
    intro i f f' hi hf hf'
    obtain ⟨f, rfl⟩ : ∃ n9, f = n9 + 1 := ⟨f - 1, by omega⟩
    obtain ⟨f', rfl⟩ : ∃ n9, f' = n9 + 1 := ⟨f' - 1, by omega⟩
    obtain ⟨b, b1, b0, b2, b3, b4, b5⟩ := pu_at_b hX hl (show st + i < len by omega)
    obtain ⟨b', q1, q2, q3⟩ := hlet (st + i) (by omega) (by omega)
    have e : b' = b := by
      have := q2.symm.trans b2
      rw [kn_inj (by omega) (by omega)] at this
      exact this
    subst e
    have h1 := pu_kd1 b' q1 q3
    have hidx : 0 ≤ kn i ∧ kn i < k_wlen t := by
      rw [w1, kn_lt (by omega) (by omega), kn_lle (by omega) (by omega)]
      exact ⟨Nat.zero_le _, by omega⟩
    have eX : f_X4_isAt_28 (f + 1) r t (kn i) = (if kn b' = k_wchr t i then f_X4_isAt_28 f r t (kn (i + 1)) else some 0) := by
      show f_X4_isAt_28_b _ r t (kn i) = _
      unfold f_X4_isAt_28_b
      rw [k_ckp hidx, w1, if_neg (by rw [kn_le (by omega) (by omega)]; omega), h6, kn_add, k_ckn (by omega) (by decide), kn_nat (by omega), kn_nat (by omega), b2, k_lts, show kn i + 1 = kn (i + 1) from kn_addl i 1]
    have eY : f_X11_isWord_32 (f' + 1) m t' 1 (kn i) = (if kn b' = k_wchr t i then f_X11_isWord_32 f' m t' 1 (kn (i + 1)) else f_X11_isWord_32 f' m t' 0 (kn (i + 1))) := by
      show f_X11_isWord_32_b _ m t' 1 (kn i) = _
      unfold f_X11_isWord_32_b f_X11_isWord_68
      rw [k_ckp (show 0 ≤ kn i ∧ kn i < k_wlen t' by rw [w2, ← w1]; exact hidx), w2, if_neg (by rw [kn_le (by omega) (by omega)]; omega), if_neg (by decide), h11, kn_add, k_ckn (by omega) (by decide), kn_nat (by omega), kn_nat (by omega), b4, pu_b7 b' (by omega), w3, k_lts, k_lts, show kn i + 1 = kn (i + 1) from kn_addl i 1]
    by_cases c : kn b' = k_wchr t i
    · rw [if_pos c] at eX eY
      rw [eX, eY]
      exact ih (i + 1) f f' (by omega) (by omega) (by omega)
    · rw [if_neg c] at eX eY
      refine ⟨0, eX, eY.trans ?_, Or.inl rfl⟩
      obtain ⟨f', rfl⟩ : ∃ n9, f' = n9 + 1 := ⟨f' - 1, by omega⟩
      show f_X11_isWord_32_b _ m t' 0 (kn (i + 1)) = _
      unfold f_X11_isWord_32_b
      rw [if_pos rfl, k_ckp (Or.inl rfl), ite_self]
theorem pu_word0 (m : k_M) (t : Nat) : f_X11_isWord_28 m t = some 0 := by
  show f_X11_isWord_32_b _ m t 0 0 = _
  unfold f_X11_isWord_32_b
  rw [if_pos rfl, k_ckp (Or.inl rfl), ite_self]
/-- is the token this word? both say the same -/
theorem pu_word {r m : k_M} {len nx t t' : Nat} (hX : pu_Xl r m len) (hl : len ≤ 600) (hT : pu_Tk r m len nx) (ht : k_wd t = k_wd t') (hw : (k_wd t).length < 1000) : ∃ v, f_X4_isAt r t = some v ∧ f_X11_isWord m t' = some v ∧ (v = 0 ∨ v = 1) ∧ (v = 1 → r 0 5 = 1) := by
  obtain ⟨st, nx', k, a1, a2, a3, a4, a5, a6, a7, a8, a9, a10, a11, a12, a13⟩ := hT
  have w1 : k_wlen t = kn (k_wd t).length := rfl
  have w2 : k_wlen t' = kn (k_wd t).length := by rw [ht]; rfl
  have hX' : f_X4_isAt r t = (if kn k = 1 then (if kn (nx' - st) = kn (k_wd t).length then f_X4_isAt_28 k_N r t 0 else some 0) else some 0) := by
    unfold f_X4_isAt
    rw [a8, a6, a4, kn_sub a2, w1]
  have hY' : f_X11_isWord m t' = (if kn (if k = 6 then 5 else k) = 1 then (if kn (nx' - st) = kn (k_wd t).length then f_X11_isWord_32 k_N m t' 1 0 else some 0) else some 0) := by
    unfold f_X11_isWord f_X11_isWord_29
    rw [a9, a7, a5, kn_sub a2, w2, pu_word0]
  rw [hX', hY', a8]
  have hk1 : (kn k = 1) = (k = 1) := kn_eql (by omega) (by decide)
  have hk2 : (kn (if k = 6 then 5 else k) = 1) ↔ (k = 1) := by
    by_cases h6 : k = 6
    · rw [if_pos h6, h6]
      exact ⟨fun h => absurd h (by decide), fun h => absurd h (by decide)⟩
    · rw [if_neg h6, hk1]
  by_cases c : k = 1
  · rw [if_pos (show kn k = 1 by rw [hk1]; exact c), if_pos (hk2.mpr c)]
    by_cases d : kn (nx' - st) = kn (k_wd t).length
    · rw [if_pos d, if_pos d]
      have d2 : nx' - st = (k_wd t).length := by
        rw [kn_inj (by omega) (by omega)] at d
        exact d
      obtain ⟨v, v1, v2, v3⟩ := pu_wordL hX hl ht (by omega) a4 a5 (fun x xa xb => a12 c x xa (by omega)) (k_wd t).length 0 k_N k_N (by omega) (by unfold k_N; omega) (by unfold k_N; omega)
      exact ⟨v, v1, v2, v3, fun _ => by rw [c]; rfl⟩
    · rw [if_neg d, if_neg d]
      exact ⟨0, rfl, rfl, Or.inl rfl, fun h => absurd h (by decide)⟩
  · rw [if_neg (show ¬ kn k = 1 by rw [hk1]; exact c), if_neg (fun h => c (hk2.mp h))]
    exact ⟨0, rfl, rfl, Or.inl rfl, fun h => absurd h (by decide)⟩

theorem pu_takeG {r m : k_M} {len nx : Nat} (h : pu_Rd r m len nx) (a : Int32) : (∃ r' m' nx2 v s, f_X4_takeSigned r a = some (r', s) ∧ f_X11_takesSigned m a = some (m', 1) ∧ v ≤ 9999999 ∧ kn v ≤ a ∧ (s = kn v ∨ s = -(kn v)) ∧ m' 0 17 = s ∧ pu_Rd r' m' len nx2 ∧ nx < nx2 ∧ pu_mf m m') ∨ (∃ r' m', f_X4_takeSigned r a = some (r', 0) ∧ f_X11_takesSigned m a = some (m', 0) ∧ pu_Bd r' m' len ∧ pu_mf m m') := by
  have hk : r 0 5 = 3 ↔ m 0 13 = 3 := pu_tkind h.2.2.1 (c := 3) (by decide)
  have hf : f_X4_hasFailed r = some 0 := if_pos h.2.2.2.1
  unfold f_X4_takeSigned f_X4_takeSigned_19 f_X4_takeSigned_20 f_X11_takesSigned f_X11_standsSigned f_X11_standsSigned_13
  by_cases c3 : r 0 5 = 3
  · obtain ⟨r1, m1, nx1, q1, q2, q3, q4, q5, q6, q7, q8⟩ := pu_nextTok h
    have hlt := q5 (by rw [c3]; decide)
    rw [if_pos c3, hf, k_bds, if_pos rfl, if_neg (show ¬ (1 : Int32) = 0 by decide), q1, k_bds, if_pos (hk.mp c3), if_neg (show ¬ (1 : Int32) = 0 by decide), q2, k_bds]
    rcases pu_takeG0 q3 a 1 with ⟨r', m', nx2, v, e1, e2, e3, e4, e5, e6, e7, e8, e9⟩ | ⟨r', m', e1, e2, e3, e4⟩
    · rw [if_neg (show ¬ (1 : Int32) = 0 by decide)] at e1 e5
      exact Or.inl ⟨r', m', nx2, v, _, e1, e2, e3, e4, Or.inr rfl, e5, e6, by omega, pu_mf_tr q7 e8⟩
    · rw [if_neg (show ¬ (1 : Int32) = 0 by decide)] at e1
      exact Or.inr ⟨r', m', e1, e2, e3, pu_mf_tr q7 e4⟩
  · rw [if_neg c3, if_pos rfl, if_neg (fun e => c3 (hk.mpr e)), if_pos rfl]
    rcases pu_takeG0 h a 0 with ⟨r', m', nx2, v, e1, e2, e3, e4, e5, e6, e7, e8, e9⟩ | ⟨r', m', e1, e2, e3, e4⟩
    · rw [if_pos rfl] at e1 e5
      exact Or.inl ⟨r', m', nx2, v, _, e1, e2, e3, e4, Or.inl rfl, e5, e6, e7, e8⟩
    · rw [if_pos rfl] at e1
      exact Or.inr ⟨r', m', e1, e2, e3, e4⟩
/-- a word that may stand here -/
theorem pu_skipW {r m : k_M} {len nx t t' : Nat} (h : pu_Rd r m len nx) (ht : k_wd t = k_wd t') (hw : (k_wd t).length < 1000) : (f_X4_skipWord r t = some (r, 0) ∧ f_X11_isWord m t' = some 0) ∨ (∃ r' m' nx2, f_X4_skipWord r t = some (r', 1) ∧ f_X11_isWord m t' = some 1 ∧ f_X11_advance m = some m' ∧ pu_Rd r' m' len nx2 ∧ nx < nx2 ∧ pu_mf m m' ∧ r' 0 9 = r 0 6) := by
  obtain ⟨v, v1, v2, v3, v4⟩ := pu_word h.1 h.2.1 h.2.2.1 ht hw
  have hf : f_X4_hasFailed r = some 0 := if_pos h.2.2.2.1
  unfold f_X4_skipWord
  rw [hf, k_bds, if_pos rfl, v1, k_bds]
  rcases v3 with rfl | rfl
  · exact Or.inl ⟨if_pos rfl, v2⟩
  · obtain ⟨r', m', nx2, e1, e2, e3, e4, e5, e6, e7, e8⟩ := pu_nextTok h
    refine Or.inr ⟨r', m', nx2, ?_, v2, e2, e3, e5 (by rw [v4 rfl]; decide), e7, e6⟩
    rw [if_neg (by decide), e1, k_bds]

/-! the reader's steps: Rd while nothing failed, Bd behind the first failure -/
def pu_Rd (r m : k_M) (len nx : Nat) : Prop := pu_Xl r m len ∧ len ≤ 600 ∧ pu_Tk r m len nx ∧ r 0 3 = 0 ∧ m 0 15 = 0 ∧ r 0 4 = -1 ∧ m 0 16 = -1
def pu_Bd (r m : k_M) (len : Nat) : Prop := (∃ m0 nx, pu_Xl r m0 len ∧ pu_Tk r m0 len nx) ∧ len ≤ 600 ∧ True ∧ ¬ r 0 3 = 0 ∧ m 0 15 = r 0 3 ∧ m 0 16 = r 0 4
def pu_mf (m m' : k_M) : Prop := (∀ c, c ≠ 0 → m' c = m c) ∧ (∀ i, (i < 11 ∨ 17 < i) → m' 0 i = m 0 i)
theorem pu_mf_tr {a b c : k_M} (h1 : pu_mf a b) (h2 : pu_mf b c) : pu_mf a c := ⟨fun k hk => (h2.1 k hk).trans (h1.1 k hk), fun i hi => (h2.2 i hi).trans (h1.2 i hi)⟩
theorem pu_Tk_c {r r' m m' : k_M} {len nx : Nat} (h : pu_Tk r m len nx) (hr : ∀ x, x = 5 ∨ x = 6 ∨ x = 7 ∨ x = 8 → r' 0 x = r 0 x) (hr1 : r' 1 = r 1) (hm : ∀ x, x = 11 ∨ x = 12 ∨ x = 13 ∨ x = 14 → m' 0 x = m 0 x) : pu_Tk r' m' len nx := by
  obtain ⟨st, nx', k, a1, a2, a3, a4, a5, a6, a7, a8, a9, a10, a11, a12, a13⟩ := h
  refine ⟨st, nx', k, a1, a2, a3, by rw [hr 6 (by decide), a4], by rw [hm 11 (by decide), a5], by rw [hr 7 (by decide), a6], by rw [hm 12 (by decide), a7], by rw [hr 5 (by decide), a8], by rw [hm 13 (by decide), a9], a10, a11, by rw [hr1]; exact a12, fun h => ?_⟩
  rw [hr 8 (by decide), hm 14 (by decide)]
  exact a13 h
theorem pu_fail {r m : k_M} {len nx : Nat} (h : pu_Rd r m len nx) {c : Int32} (hc : ¬ c = 0) : ∃ r' m', f_X4_failAt r (r 0 6) c = some r' ∧ f_X11_fails m c = some (m', 0) ∧ pu_Bd r' m' len ∧ pu_mf m m' := by
  obtain ⟨hX, hl, hT, h3, h15, h4, h16⟩ := h
  have he : r 0 6 = m 0 11 := by
    obtain ⟨st, nx', k, a1, a2, a3, a4, a5, -⟩ := hT
    rw [a4, a5]
  refine ⟨k_up (k_up r 0 3 c) 0 4 (r 0 6), k_up (k_up m 0 15 c) 0 16 (m 0 11), ?_, ?_, ⟨⟨k_up (k_up m 0 15 c) 0 16 (m 0 11), nx, pu_Xl_c hX (by rw [k_upi _ _ (by decide), k_upi _ _ (by decide)]) (by rw [k_upc _ _ (by decide), k_upc _ _ (by decide)]) (by rw [k_upc _ _ (by decide), k_upc _ _ (by decide)]) (by rw [k_upi _ _ (by decide), k_upi _ _ (by decide)]) (by rw [k_upc _ _ (by decide), k_upc _ _ (by decide)]), pu_Tk_c hT (fun x hx => by rw [k_upi _ _ (by omega), k_upi _ _ (by omega)]) (by rw [k_upc _ _ (by decide), k_upc _ _ (by decide)]) (fun x hx => by rw [k_upi _ _ (by omega), k_upi _ _ (by omega)])⟩, hl, trivial, ?_, ?_, ?_⟩, fun k hk => by rw [k_upc _ _ hk, k_upc _ _ hk], fun i hi => by rw [k_upi _ _ (by omega), k_upi _ _ (by omega)]⟩
  · unfold f_X4_failAt
    rw [if_pos h3, k_lts, k_lts]
  · unfold f_X11_fails
    rw [if_pos h15, k_lts, k_upi _ _ (by decide), k_lts]
  · rw [k_upi _ _ (by decide), k_ups]
    exact hc
  · rw [k_upi _ _ (by decide), k_ups, k_upi _ _ (by decide), k_ups]
  · rw [k_ups, k_ups, he]
theorem pu_nextTok {r m : k_M} {len nx : Nat} (h : pu_Rd r m len nx) : ∃ r' m' nx2, f_X4_advance r = some r' ∧ f_X11_advance m = some m' ∧ pu_Rd r' m' len nx2 ∧ nx ≤ nx2 ∧ (¬ r 0 5 = 0 → nx < nx2) ∧ r' 0 9 = r 0 6 ∧ pu_mf m m' ∧ m' 0 17 = m 0 17 := by
  obtain ⟨hX, hl, hT, h3, h15, h4, h16⟩ := h
  obtain ⟨st, nx', k, a1, a2, a3, a4, a5, a6, a7, a8, a9, a10, a11, -, -⟩ := hT
  obtain ⟨r', m', e1, e2, e3, e4, e5, e6, e7, e8⟩ := pu_advance hl hX a6 a7 a3
  refine ⟨r', m', nx', e1, e2, ⟨pu_Xl_c hX (e5 2 (by decide) (by decide) (by decide) (by decide) (by decide)) (e4 1 (by decide)) (e4 2 (by decide)) (e8 10 (by decide) (by decide) (by decide) (by decide)) (e7 9 (by decide)), hl, e3, ?_, ?_, ?_, ?_⟩, by omega, fun hk => ?_, e6, ⟨e7, fun i hi => e8 i (by omega) (by omega) (by omega) (by omega)⟩, e8 17 (by decide) (by decide) (by decide) (by decide)⟩
  · rw [e5 3 (by decide) (by decide) (by decide) (by decide) (by decide), h3]
  · rw [e8 15 (by decide) (by decide) (by decide) (by decide), h15]
  · rw [e5 4 (by decide) (by decide) (by decide) (by decide) (by decide), h4]
  · rw [e8 16 (by decide) (by decide) (by decide) (by decide), h16]
  · have : ¬ k = 0 := fun e => hk (by rw [a8, e]; rfl)
    have := a11 this
    omega
/-- a word that must stand here -/
theorem pu_takeW {r m : k_M} {len nx t t' : Nat} (h : pu_Rd r m len nx) (ht : k_wd t = k_wd t') (hw : (k_wd t).length < 1000) : (∃ r' m' nx2, f_X4_takeWord r t = some r' ∧ f_X11_takesWord m t' = some (m', 1) ∧ pu_Rd r' m' len nx2 ∧ nx < nx2 ∧ pu_mf m m') ∨ (∃ r' m', f_X4_takeWord r t = some r' ∧ f_X11_takesWord m t' = some (m', 0) ∧ pu_Bd r' m' len ∧ pu_mf m m') := by
  obtain ⟨v, v1, v2, v3, v4⟩ := pu_word h.1 h.2.1 h.2.2.1 ht hw
  unfold f_X4_takeWord f_X11_takesWord f_X11_goesOn f_X4_hasFailed
  rw [v1, k_bds, v2, k_bds]
  rcases v3 with rfl | rfl
  · obtain ⟨r', m', e1, e2, e3, e4⟩ := pu_fail h (c := 1) (by decide)
    refine Or.inr ⟨r', m', ?_, ?_, e3, e4⟩
    · rw [if_pos rfl, e1, k_bds]
    · rw [if_pos rfl, e2, k_bds, k_ckp (Or.inl rfl), k_bds, k_ckp (Or.inl rfl)]
  · obtain ⟨r', m', nx2, e1, e2, e3, e4, e5, e6, e7, e8⟩ := pu_nextTok h
    refine Or.inl ⟨r', m', nx2, ?_, ?_, e3, e5 (by rw [v4 rfl]; decide), e7⟩
    · rw [if_neg (by decide), if_pos h.2.2.2.1, k_bds, if_pos rfl, e1, k_bds]
    · rw [if_neg (by decide), e2, k_bds, k_bds, k_ckp (Or.inr rfl)]
/-- behind a failure nothing moves -/
theorem pu_bF {r m : k_M} {len : Nat} (h : pu_Bd r m len) (p c : Int32) : f_X4_failAt r p c = some r := by
  unfold f_X4_failAt
  exact if_neg h.2.2.2.1
theorem pu_bH {r m : k_M} {len : Nat} (h : pu_Bd r m len) : f_X4_hasFailed r = some 1 := by
  unfold f_X4_hasFailed
  exact if_neg h.2.2.2.1
theorem pu_bW {r m : k_M} {len t : Nat} (h : pu_Bd r m len) (hw : (k_wd t).length < 1000) : f_X4_takeWord r t = some r := by
  obtain ⟨m0, nx, hX, hT⟩ := h.1
  obtain ⟨v, v1, v2, v3, v4⟩ := pu_word (t' := t) hX h.2.1 hT rfl hw
  unfold f_X4_takeWord
  rw [v1, k_bds, pu_bF h, k_bds, pu_bH h, k_bds]
  rcases v3 with rfl | rfl
  · rw [if_pos rfl]
  · rw [if_neg (by decide), if_neg (by decide)]
theorem pu_bN {r m : k_M} {len : Nat} (h : pu_Bd r m len) (a b : Int32) : f_X4_takeNumber r a b = some (r, 0) := by
  unfold f_X4_takeNumber f_X4_takeNumber_36 f_X4_takeNumber_45
  rw [pu_bF h, pu_bF h, k_bds, pu_bH h, k_bds, if_neg (show ¬ (1 : Int32) = 0 by decide), ite_self, ite_self, ite_self]
theorem pu_bS {r m : k_M} {len : Nat} (h : pu_Bd r m len) : f_X4_takeSemicolon r = some r := by
  unfold f_X4_takeSemicolon
  rw [pu_bF h, k_bds, pu_bH h, k_bds, if_neg (show ¬ (1 : Int32) = 0 by decide), ite_self]
theorem pu_bK {r m : k_M} {len : Nat} (h : pu_Bd r m len) (t : Nat) : f_X4_skipWord r t = some (r, 0) := by
  unfold f_X4_skipWord
  rw [pu_bH h, k_bds, if_neg (show ¬ (1 : Int32) = 0 by decide)]
theorem pu_bG {r m : k_M} {len : Nat} (h : pu_Bd r m len) (a : Int32) : f_X4_takeSigned r a = some (r, 0) := by
  unfold f_X4_takeSigned f_X4_takeSigned_19 f_X4_takeSigned_20 f_X4_takeSigned_29
  rw [pu_bH h, k_bds, if_neg (show ¬ (1 : Int32) = 0 by decide), if_pos rfl, ite_self, pu_bN h, k_bds, if_pos rfl]
theorem pu_tkind {r m : k_M} {len nx : Nat} (h : pu_Tk r m len nx) {c : Nat} (hc : c ≤ 4) : (r 0 5 = kn c) ↔ (m 0 13 = kn c) := by
  obtain ⟨st, nx', k, a1, a2, a3, a4, a5, a6, a7, a8, a9, a10, a11, -, -⟩ := h
  rw [a8, a9, kn_inj (by omega) (by omega), kn_inj (by split <;> omega) (by omega)]
  split <;> omega
theorem pu_Rd17 {r m : k_M} {len nx : Nat} (v : Int32) (h : pu_Rd r m len nx) : pu_Rd r (k_up m 0 17 v) len nx := by
  obtain ⟨hX, hl, hT, h3, h15, h4, h16⟩ := h
  exact ⟨pu_Xl_c hX rfl rfl rfl (k_upi _ _ (by decide)) (k_upc _ _ (by decide)), hl, pu_Tk_c hT (fun _ _ => rfl) rfl (fun x hx => k_upi _ _ (by omega)), h3, by rw [k_upi _ _ (by decide), h15], h4, by rw [k_upi _ _ (by decide), h16]⟩
theorem pu_mf17 (m : k_M) (v : Int32) : pu_mf m (k_up m 0 17 v) := ⟨fun c hc => k_upc _ _ hc, fun i hi => k_upi _ _ (by omega)⟩
/-- the reference's number that stands here, not yet left -/
theorem pu_stand {r m : k_M} {len nx : Nat} (h : pu_Rd r m len nx) (a b : Int32) : (∃ v, v ≤ 9999999 ∧ r 0 5 = 2 ∧ r 0 8 = kn v ∧ a ≤ kn v ∧ kn v ≤ b ∧ f_X11_stands m a b = some (k_up m 0 17 (kn v), 1)) ∨ (∃ r' m' c, (c = 1 ∧ ¬ r 0 5 = 2 ∨ c = 2 ∧ r 0 5 = 2 ∧ ¬ (a ≤ r 0 8 ∧ r 0 8 ≤ b)) ∧ f_X4_failAt r (r 0 6) c = some r' ∧ f_X11_stands m a b = some (m', 0) ∧ pu_Bd r' m' len ∧ pu_mf m m') := by
  have hk := pu_tkind h.2.2.1 (c := 2) (by decide)
  by_cases c2 : r 0 5 = 2
  · have hm : m 0 13 = 2 := hk.mp c2
    obtain ⟨v, hv, v8, v14⟩ : ∃ v, v ≤ 9999999 ∧ r 0 8 = kn v ∧ m 0 14 = kn v := by
      obtain ⟨st, nx', k, a1, a2, a3, a4, a5, a6, a7, a8, a9, a10, a11, -, a13⟩ := h.2.2.1
      refine a13 ?_
      have e : kn k = kn 2 := a8.symm.trans c2
      rw [kn_inj (by omega) (by omega)] at e
      exact e
    by_cases hr : a ≤ kn v ∧ kn v ≤ b
    · refine Or.inl ⟨v, hv, c2, v8, hr.1, hr.2, ?_⟩
      unfold f_X11_stands
      rw [if_pos hm, k_lts, k_upi _ _ (show 14 ≠ 17 by decide), v14, pu_in, k_bds, if_pos hr, if_neg (by decide)]
    · obtain ⟨r', m', e1, e2, e3, e4⟩ := pu_fail (pu_Rd17 (kn v) h) (c := 2) (by decide)
      refine Or.inr ⟨r', m', 2, Or.inr ⟨rfl, c2, by rw [v8]; exact hr⟩, e1, ?_, e3, pu_mf_tr (pu_mf17 m (kn v)) e4⟩
      unfold f_X11_stands
      rw [if_pos hm, k_lts, k_upi _ _ (show 14 ≠ 17 by decide), v14, pu_in, k_bds, if_neg hr, if_pos rfl, e2, k_bds, if_pos rfl]
  · have hm : ¬ m 0 13 = 2 := fun e => c2 (hk.mpr e)
    obtain ⟨r', m', e1, e2, e3, e4⟩ := pu_fail h (c := 1) (by decide)
    refine Or.inr ⟨r', m', 1, Or.inl ⟨rfl, c2⟩, e1, ?_, e3, e4⟩
    unfold f_X11_stands
    rw [if_neg hm, e2, k_bds, k_ckp (Or.inl rfl)]
theorem pu_takeN {r m : k_M} {len nx : Nat} (h : pu_Rd r m len nx) (a b : Int32) : (∃ r' m' nx2 v, f_X4_takeNumber r a b = some (r', kn v) ∧ f_X11_takes m a b = some (m', 1) ∧ v ≤ 9999999 ∧ a ≤ kn v ∧ kn v ≤ b ∧ m' 0 17 = kn v ∧ pu_Rd r' m' len nx2 ∧ nx < nx2 ∧ pu_mf m m' ∧ r' 0 9 = r 0 6) ∨ (∃ r' m', f_X4_takeNumber r a b = some (r', 0) ∧ f_X11_takes m a b = some (m', 0) ∧ pu_Bd r' m' len ∧ pu_mf m m') := by
  unfold f_X4_takeNumber f_X4_takeNumber_36 f_X4_takeNumber_45 f_X11_takes f_X11_goesOn
  rcases pu_stand h a b with ⟨v, v1, v2, v3, v4, v5, v6⟩ | ⟨r', m', c, hc, e1, e2, e3, e4⟩
  · obtain ⟨r', m', nx2, q1, q2, q3, q4, q5, q6, q7, q8⟩ := pu_nextTok (pu_Rd17 (kn v) h)
    have hf : f_X4_hasFailed r = some 0 := if_pos h.2.2.2.1
    refine Or.inl ⟨r', m', nx2, v, ?_, ?_, v1, v4, v5, by rw [q8, k_ups], q3, q5 (by rw [v2]; decide), pu_mf_tr (pu_mf17 m (kn v)) q7, q6⟩
    · rw [if_pos v2, v3, if_neg (by grind), if_pos v5, hf, k_bds, if_pos rfl, k_lts, q1, k_bds]
    · rw [v6, k_bds, if_neg (show ¬ (1 : Int32) = 0 by decide)]
      dsimp only
      rw [if_neg (by decide), q2, k_bds, k_bds, if_neg (show ¬ (1 : Int32) = 0 by decide)]
  · refine Or.inr ⟨r', m', ?_, ?_, e3, e4⟩
    · rcases hc with ⟨rfl, hk⟩ | ⟨rfl, hk, hr⟩
      · rw [if_neg hk, e1, k_bds, pu_bH e3, k_bds, if_neg (show ¬ (1 : Int32) = 0 by decide)]
      · rw [if_pos hk, e1, k_bds, pu_bH e3, k_bds, if_neg (show ¬ (1 : Int32) = 0 by decide)]
        by_cases c1 : r 0 8 < a
        · rw [if_pos c1]
        · rw [if_neg c1, if_neg (fun h9 => hr ⟨by grind, h9⟩)]
    · rw [e2, k_bds, if_pos rfl]
theorem pu_takeS {r m : k_M} {len nx : Nat} (h : pu_Rd r m len nx) : (∃ r' m' nx2, f_X4_takeSemicolon r = some r' ∧ f_X11_stop m = some (m', 1) ∧ pu_Rd r' m' len nx2 ∧ nx < nx2 ∧ pu_mf m m') ∨ (∃ r' m', f_X4_takeSemicolon r = some r' ∧ f_X11_stop m = some (m', 0) ∧ pu_Bd r' m' len ∧ pu_mf m m') := by
  have hk : r 0 5 = 4 ↔ m 0 13 = 4 := pu_tkind h.2.2.1 (c := 4) (by decide)
  unfold f_X4_takeSemicolon f_X11_stop f_X11_stop_15 f_X11_goesOn
  have hf : f_X4_hasFailed r = some 0 := if_pos h.2.2.2.1
  by_cases c4 : r 0 5 = 4
  · obtain ⟨r', m', nx2, q1, q2, q3, q4, q5, q6, q7, q8⟩ := pu_nextTok h
    refine Or.inl ⟨r', m', nx2, ?_, ?_, q3, q5 (by rw [c4]; decide), q7⟩
    · rw [if_pos c4, hf, k_bds, if_pos rfl, q1, k_bds]
    · rw [if_pos (hk.mp c4), if_neg (by decide), q2, k_bds, k_bds, k_ckp (Or.inr rfl)]
  · obtain ⟨r', m', e1, e2, e3, e4⟩ := pu_fail h (c := 1) (by decide)
    refine Or.inr ⟨r', m', ?_, ?_, e3, e4⟩
    · rw [if_neg c4, e1, k_bds]
    · rw [if_neg (fun e => c4 (hk.mpr e)), if_pos rfl, e2, k_bds, k_ckp (Or.inl rfl), k_bds, k_ckp (Or.inl rfl)]
/-- failed at the word just left, the reference still at it -/
theorem pu_failT {r m r1 m1 : k_M} {len nx nx1 : Nat} (h : pu_Rd r m len nx) (h1 : pu_Rd r1 m1 len nx1) (h9 : r1 0 9 = r 0 6) {c : Int32} (hc : ¬ c = 0) : ∃ r' m', f_X4_failTaken r1 c = some r' ∧ f_X11_fails m c = some (m', 0) ∧ pu_Bd r' m' len ∧ pu_mf m m' := by
  have he : r 0 6 = m 0 11 := by
    obtain ⟨st, nx', k, a1, a2, a3, a4, a5, -⟩ := h.2.2.1
    rw [a4, a5]
  obtain ⟨hX, hl, hT, h3, h15, h4, h16⟩ := h1
  refine ⟨k_up (k_up r1 0 3 c) 0 4 (r1 0 9), k_up (k_up m 0 15 c) 0 16 (m 0 11), ?_, ?_, ⟨⟨m1, nx1, pu_Xl_c hX (by rw [k_upi _ _ (by decide), k_upi _ _ (by decide)]) (by rw [k_upc _ _ (by decide), k_upc _ _ (by decide)]) (by rw [k_upc _ _ (by decide), k_upc _ _ (by decide)]) rfl rfl, pu_Tk_c hT (fun x hx => by rw [k_upi _ _ (by omega), k_upi _ _ (by omega)]) (by rw [k_upc _ _ (by decide), k_upc _ _ (by decide)]) (fun _ _ => rfl)⟩, hl, trivial, ?_, ?_, ?_⟩, fun k hk => by rw [k_upc _ _ hk, k_upc _ _ hk], fun i hi => by rw [k_upi _ _ (by omega), k_upi _ _ (by omega)]⟩
  · unfold f_X4_failTaken f_X4_failAt
    rw [if_pos h3, k_lts, k_lts, k_bds]
  · unfold f_X11_fails
    rw [if_pos h.2.2.2.2.1, k_lts, k_upi _ _ (by decide), k_lts]
  · rw [k_upi _ _ (by decide), k_ups]
    exact hc
  · rw [k_upi _ _ (by decide), k_ups, k_upi _ _ (by decide), k_ups]
  · rw [k_ups, k_ups, h9, he]

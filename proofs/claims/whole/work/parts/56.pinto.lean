/-! numbers taken into the draft's row -/
theorem pu_Rd2 {r m m' : k_M} {len nx : Nat} (h : pu_Rd r m len nx) (h0 : m' 0 = m 0) (h9 : m' 9 = m 9) : pu_Rd r m' len nx := by
  obtain ⟨hX, hl, hT, h3, h15, h4, h16⟩ := h
  exact ⟨pu_Xl_c hX rfl rfl rfl (by rw [h0]) h9, hl, pu_Tk_c hT (fun _ _ => rfl) rfl (fun x hx => by rw [h0]), h3, by rw [h0, h15], h4, by rw [h0, h16]⟩
theorem pu_Bd2 {r m m' : k_M} {len : Nat} (h : pu_Bd r m len) (h0 : m' 0 = m 0) : pu_Bd r m' len := by
  obtain ⟨hX, hl, hT, h3, h15, h16⟩ := h
  exact ⟨hX, hl, hT, h3, by rw [h0, h15], by rw [h0, h16]⟩
/-- what the reference's reading of a setup leaves: all but its reader's fields and the draft's row -/
def pu_mg (m m' : k_M) : Prop := (∀ c, c ≠ 0 → c ≠ 2 → m' c = m c) ∧ (∀ i, (i < 11 ∨ 17 < i) → m' 0 i = m 0 i)
theorem pu_mg_tr {a b c : k_M} (h1 : pu_mg a b) (h2 : pu_mg b c) : pu_mg a c := ⟨fun k hk h => (h2.1 k hk h).trans (h1.1 k hk h), fun i hi => (h2.2 i hi).trans (h1.2 i hi)⟩
theorem pu_mg_mf {a b : k_M} (h : pu_mf a b) : pu_mg a b := ⟨fun k hk _ => h.1 k hk, h.2⟩
theorem pu_mg_up (m : k_M) (i : Nat) (v : Int32) : pu_mg m (k_up m 2 i v) := ⟨fun _ _ h2 => k_upc _ _ h2, fun _ _ => by rw [k_upc _ _ (show 0 ≠ 2 by decide)]⟩
theorem pu_into {r m : k_M} {len nx i : Nat} (h : pu_Rd r m len nx) (hi : i < 268) (a b : Int32) : (∃ r' m' nx2 v, f_X4_takeNumber r a b = some (r', kn v) ∧ f_X11_takesInto m (kn i) a b = some (k_up m' 2 i (kn v), 1) ∧ v ≤ 9999999 ∧ a ≤ kn v ∧ kn v ≤ b ∧ pu_Rd r' (k_up m' 2 i (kn v)) len nx2 ∧ nx < nx2 ∧ pu_mf m m' ∧ r' 0 9 = r 0 6) ∨ (∃ r' m', f_X4_takeNumber r a b = some (r', 0) ∧ f_X11_takesInto m (kn i) a b = some (m', 0) ∧ pu_Bd r' m' len ∧ pu_mf m m') := by
  unfold f_X11_takesInto
  rcases pu_takeN h a b with ⟨r', m', nx2, v, e1, e2, e3, e4, e5, e6, e7, e8, e9, e10⟩ | ⟨r', m', e1, e2, e3, e4⟩
  · refine Or.inl ⟨r', m', nx2, v, e1, ?_, e3, e4, e5, pu_Rd2 e7 (k_upc _ _ (by decide)) (k_upc _ _ (by decide)), e8, e9, e10⟩
    rw [e2, k_bds, if_neg (show ¬ (1 : Int32) = 0 by decide), k_ckn hi (by decide), kn_nat (by omega)]
    dsimp only
    rw [e6, k_lts]
  · refine Or.inr ⟨r', m', e1, ?_, e3, e4⟩
    rw [e2, k_bds, if_pos rfl]
/-- a chute read by the class behind a failure -/
theorem pu_bChute {u : k_U} {m : k_M} {len q t3 : Nat} {a4 : Int32} (h : pu_Bd (u 1) m len) (hw : (k_wd t3).length < 1000) : ∃ v1 v2 v3 v4 v5 w, f_X0_pack (u 14) q v1 v2 v3 v4 v5 = some w ∧ f_X6_readChute u q t3 a4 = some (k_uc (k_uc u 1 (u 1)) 14 w) := by
  refine ⟨0, 0, 0, 0, 0, _, rfl, ?_⟩
  have e : k_uc u 1 (u 1) = u := by
    funext k
    unfold k_uc
    split
    · next h => rw [h]
    · rfl
  unfold f_X6_readChute
  rw [pu_bN h, k_bds, k_lts, e, pu_bN h, k_bds, k_lts, e, pu_bN h, k_bds, k_lts, e, pu_bW h (by decide), k_bds, k_lts, e, pu_bN h, k_bds, k_lts, e, pu_bW h hw, k_bds, k_lts, e, pu_bN h, k_bds, k_lts, e]
  rfl

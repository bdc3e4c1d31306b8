/-! a script's reading: one command -/
def pu_mh (m m' : k_M) : Prop := (∀ c, c ≠ 0 → c ≠ 18 → m' c = m c) ∧ (∀ i, (i < 11 ∨ 17 < i) → i ≠ 19 → m' 0 i = m 0 i)
theorem pu_mh_tr {a b c : k_M} (h1 : pu_mh a b) (h2 : pu_mh b c) : pu_mh a c := ⟨fun k hk h => (h2.1 k hk h).trans (h1.1 k hk h), fun i hi h => (h2.2 i hi h).trans (h1.2 i hi h)⟩
theorem pu_mh_mf {a b : k_M} (h : pu_mf a b) : pu_mh a b := ⟨fun k hk _ => h.1 k hk, fun i hi _ => h.2 i hi⟩
/-- a command as read: kind and argument, both sides -/
def pu_cm (L nC : Nat) (k a k' a' : Int32) : Prop := k' = k ∧ a' = a ∧ ((k = 0 ∧ ∃ n : Nat, 1 ≤ n ∧ n ≤ 200 ∧ a = kn n) ∨ (k = 1 ∧ 0 ≤ a ∧ a ≤ 30000) ∨ (k = 2 ∧ ∃ i : Nat, i < L ∧ a = kn i) ∨ k = 3 ∨ (k = 4 ∧ ∃ i : Nat, i < nC ∧ a = kn i) ∨ (k = 5 ∧ -9 ≤ a ∧ a ≤ 9))
theorem pu_kind {u : k_U} {m : k_M} {len nx : Nat} (h : pu_Rd (u 1) m len nx) : (∃ (kd : Nat) (r' m' : k_M) (nx2 : Nat), kd < 6 ∧ f_X5_takeKind u = some (k_uc u 1 r', kn kd) ∧ f_X11_commandHere m = some (kn kd) ∧ f_X11_advance m = some m' ∧ pu_Rd r' m' len nx2 ∧ nx < nx2 ∧ pu_mf m m' ∧ r' 0 9 = u 1 0 6) ∨ (∃ r' m', f_X5_takeKind u = some (k_uc u 1 r', -1) ∧ f_X11_commandHere m = some (-1) ∧ f_X11_fails m 1 = some (m', 0) ∧ pu_Bd r' m' len ∧ pu_mf m m') := by
  have no : ¬ (1 : Int32) = 0 := by decide
  generalize hX : f_X5_takeKind u = X
  unfold f_X5_takeKind at hX
  generalize hY : f_X11_commandHere m = Y
  unfold f_X11_commandHere at hY
  rcases pu_skipW h (t := 11) (t' := 28) rfl (by decide) with ⟨a, b⟩ | ⟨r', m', nx2, a, b, c, d, e, f, g⟩
  rotate_left
  · rw [a, k_bds] at hX
    dsimp only at hX
    rw [k_lts, if_neg no] at hX
    rw [b, k_bds, if_neg no] at hY
    exact Or.inl ⟨0, r', m', nx2, by decide, hX.symm, hY.symm, c, d, e, f, g⟩
  rw [a, k_bds] at hX
  dsimp only at hX
  rw [k_lts, pu_ue, if_pos rfl] at hX
  rw [b, k_bds, if_pos rfl] at hY
  rcases pu_skipW h (t := 12) (t' := 29) rfl (by decide) with ⟨a, b⟩ | ⟨r', m', nx2, a, b, c, d, e, f, g⟩
  rotate_left
  · rw [a, k_bds] at hX
    dsimp only at hX
    rw [k_lts, if_neg no] at hX
    rw [b, k_bds, if_neg no] at hY
    exact Or.inl ⟨1, r', m', nx2, by decide, hX.symm, hY.symm, c, d, e, f, g⟩
  rw [a, k_bds] at hX
  dsimp only at hX
  rw [k_lts, pu_ue, if_pos rfl] at hX
  rw [b, k_bds, if_pos rfl] at hY
  rcases pu_skipW h (t := 13) (t' := 30) rfl (by decide) with ⟨a, b⟩ | ⟨r', m', nx2, a, b, c, d, e, f, g⟩
  rotate_left
  · rw [a, k_bds] at hX
    dsimp only at hX
    rw [k_lts, if_neg no] at hX
    rw [b, k_bds, if_neg no] at hY
    exact Or.inl ⟨2, r', m', nx2, by decide, hX.symm, hY.symm, c, d, e, f, g⟩
  rw [a, k_bds] at hX
  dsimp only at hX
  rw [k_lts, pu_ue, if_pos rfl] at hX
  rw [b, k_bds, if_pos rfl] at hY
  rcases pu_skipW h (t := 14) (t' := 22) rfl (by decide) with ⟨a, b⟩ | ⟨r', m', nx2, a, b, c, d, e, f, g⟩
  rotate_left
  · rw [a, k_bds] at hX
    dsimp only at hX
    rw [k_lts, if_neg no] at hX
    rw [b, k_bds, if_neg no] at hY
    exact Or.inl ⟨3, r', m', nx2, by decide, hX.symm, hY.symm, c, d, e, f, g⟩
  rw [a, k_bds] at hX
  dsimp only at hX
  rw [k_lts, pu_ue, if_pos rfl] at hX
  rw [b, k_bds, if_pos rfl] at hY
  rcases pu_skipW h (t := 15) (t' := 31) rfl (by decide) with ⟨a, b⟩ | ⟨r', m', nx2, a, b, c, d, e, f, g⟩
  rotate_left
  · rw [a, k_bds] at hX
    dsimp only at hX
    rw [k_lts, if_neg no] at hX
    rw [b, k_bds, if_neg no] at hY
    exact Or.inl ⟨4, r', m', nx2, by decide, hX.symm, hY.symm, c, d, e, f, g⟩
  rw [a, k_bds] at hX
  dsimp only at hX
  rw [k_lts, pu_ue, if_pos rfl] at hX
  rw [b, k_bds, if_pos rfl] at hY
  rcases pu_skipW h (t := 16) (t' := 32) rfl (by decide) with ⟨a, b⟩ | ⟨r', m', nx2, a, b, c, d, e, f, g⟩
  rotate_left
  · rw [a, k_bds] at hX
    dsimp only at hX
    rw [k_lts, if_neg no] at hX
    rw [b, k_bds, if_neg no] at hY
    exact Or.inl ⟨5, r', m', nx2, by decide, hX.symm, hY.symm, c, d, e, f, g⟩
  rw [a, k_bds] at hX
  dsimp only at hX
  rw [k_lts, pu_ue, if_pos rfl] at hX
  rw [b, k_bds, if_pos rfl] at hY
  obtain ⟨r', m', e1, e2, e3, e4⟩ := pu_fail h (c := 1) (by decide)
  unfold f_X4_failHere at hX
  rw [e1, k_bds, k_bds, k_lts] at hX
  exact Or.inr ⟨r', m', hX.symm, hY.symm, e2, e3, e4⟩
/-- behind a failure -/
theorem pu_bArg {u : k_U} {m : k_M} {len : Nat} (h : pu_Bd (u 1) m len) (a b c : Int32) : f_X5_takeArgument u a b c = some (u, 0) := by
  unfold f_X5_takeArgument
  simp only [pu_bN h, pu_bG h, k_bds, k_lts, pu_ue, ite_self]
theorem pu_b21 {u : k_U} {m : k_M} {len : Nat} (h : pu_Bd (u 1) m len) (a b c : Int32) : f_X5_readCommand_21 u a b c = some u := by
  have no : ¬ (1 : Int32) = 0 := by decide
  unfold f_X5_readCommand_21
  rw [pu_bArg h, k_bds]
  dsimp only
  rw [pu_bS h, k_bds, k_lts, pu_ue, pu_bH h, k_bds, if_neg no]
theorem pu_ltm {v L : Nat} (hv : v ≤ 9999999) (hL : L ≤ 9) (h : kn v ≤ kn L - 1) : v < L := by
  rcases Nat.eq_zero_or_pos L with h0 | h0
  · subst h0
    have h1 : (0 : Int32) ≤ kn v := by
      rw [show (0 : Int32) = kn 0 from rfl, kn_le (by decide) (by omega)]
      omega
    have h2 : kn 0 - 1 = (-1 : Int32) := by decide
    rw [h2] at h
    have h3 : (0 : Int32) ≤ -1 := Int32.le_trans h1 h
    exact absurd h3 (by decide)
  · have h2 : kn L - 1 = kn (L - 1) := kn_subl (a := L) (m := 1) h0
    rw [h2, kn_le (by omega) (by omega)] at h
    omega
/-- the argument of a command: class and reference -/
theorem pu_arg {u : k_U} {r m : k_M} {len nx L nC kd : Nat} (h : pu_Rd r m len nx) (h17 : m 0 17 = 0) (h8 : m 1 8 = kn L) (hc : f_X11_chutes m = some (kn nC)) (hL : L ≤ 8) (hC : nC ≤ 9) (hk : kd < 6) :
    (∃ r' m' nx2 v, f_X5_takeArgument (k_uc u 1 r) (kn kd) (kn L) (kn nC) = some (k_uc u 1 r', v) ∧
      (if kn kd = 3 then f_X11_readCommand_143 m (kn kd) else (if kn kd = 0 then k_bd (f_X11_takes m 1 200) fun r59 => (if r59.2 = 0 then f_X11_readCommand_147 r59.1 (kn kd) else f_X11_readCommand_143 r59.1 (kn kd)) else (if kn kd = 1 then k_bd (f_X11_takes m 0 30000) fun r78 => (if r78.2 = 0 then f_X11_readCommand_147 r78.1 (kn kd) else f_X11_readCommand_143 r78.1 (kn kd)) else (if kn kd = 2 then k_bd (f_X11_takes m 0 ((m 1 8) - 1)) fun r103 => (if r103.2 = 0 then f_X11_readCommand_147 r103.1 (kn kd) else f_X11_readCommand_143 r103.1 (kn kd)) else (if kn kd = 4 then k_bd (f_X11_chutes m) fun r120 => k_bd (f_X11_takes m 0 (r120 - 1)) fun r125 => (if r125.2 = 0 then f_X11_readCommand_147 r125.1 (kn kd) else f_X11_readCommand_143 r125.1 (kn kd)) else k_bd (f_X11_takesSigned m 9) fun r137 => (if r137.2 = 0 then f_X11_readCommand_147 r137.1 (kn kd) else f_X11_readCommand_143 r137.1 (kn kd))))))) = f_X11_readCommand_143 m' (kn kd) ∧
      m' 0 17 = v ∧ pu_Rd r' m' len nx2 ∧ nx ≤ nx2 ∧ pu_mf m m' ∧ pu_cm L nC (kn kd) v (kn kd) v) ∨
    (∃ r' m', f_X5_takeArgument (k_uc u 1 r) (kn kd) (kn L) (kn nC) = some (k_uc u 1 r', 0) ∧
      (if kn kd = 3 then f_X11_readCommand_143 m (kn kd) else (if kn kd = 0 then k_bd (f_X11_takes m 1 200) fun r59 => (if r59.2 = 0 then f_X11_readCommand_147 r59.1 (kn kd) else f_X11_readCommand_143 r59.1 (kn kd)) else (if kn kd = 1 then k_bd (f_X11_takes m 0 30000) fun r78 => (if r78.2 = 0 then f_X11_readCommand_147 r78.1 (kn kd) else f_X11_readCommand_143 r78.1 (kn kd)) else (if kn kd = 2 then k_bd (f_X11_takes m 0 ((m 1 8) - 1)) fun r103 => (if r103.2 = 0 then f_X11_readCommand_147 r103.1 (kn kd) else f_X11_readCommand_143 r103.1 (kn kd)) else (if kn kd = 4 then k_bd (f_X11_chutes m) fun r120 => k_bd (f_X11_takes m 0 (r120 - 1)) fun r125 => (if r125.2 = 0 then f_X11_readCommand_147 r125.1 (kn kd) else f_X11_readCommand_143 r125.1 (kn kd)) else k_bd (f_X11_takesSigned m 9) fun r137 => (if r137.2 = 0 then f_X11_readCommand_147 r137.1 (kn kd) else f_X11_readCommand_143 r137.1 (kn kd))))))) = some (m', 0) ∧
      pu_Bd r' m' len ∧ pu_mf m m') := by
  have no : ¬ (1 : Int32) = 0 := by decide
  have z7 : ∀ (m' : k_M) (x : Int32), f_X11_readCommand_147 m' x = some (m', 0) := fun m' x => by
    unfold f_X11_readCommand_147 f_X11_readCommand_148
    rw [if_pos rfl]
  unfold f_X5_takeArgument
  rw [k_uc_s, h8, hc]
  rcases (show kd = 0 ∨ kd = 1 ∨ kd = 2 ∨ kd = 3 ∨ kd = 4 ∨ kd = 5 by omega) with rfl | rfl | rfl | rfl | rfl | rfl
  · rw [if_pos (show (kn 0 : Int32) = 0 from rfl), if_neg (show ¬ (kn 0 : Int32) = 3 by decide), if_pos (show (kn 0 : Int32) = 0 from rfl)]
    rcases pu_takeN h 1 200 with ⟨r', m', nx2, v, e1, e2, e3, e4, e5, e6, e7, e8, e9, e10⟩ | ⟨r', m', e1, e2, e3, e4⟩
    · refine Or.inl ⟨r', m', nx2, kn v, ?_, ?_, e6, e7, by omega, e9, rfl, rfl, Or.inl ⟨rfl, v, ?_, ?_, rfl⟩⟩
      · rw [e1, k_bds, k_lts, pu_ucc]
      · rw [e2, k_bds, if_neg no]
      · rw [kn_lle (by omega) (by omega)] at e4
        exact e4
      · rw [kn_lel (by omega) (by omega)] at e5
        exact e5
    · refine Or.inr ⟨r', m', ?_, ?_, e3, e4⟩
      · rw [e1, k_bds, k_lts, pu_ucc]
      · rw [e2, k_bds, if_pos rfl, z7]
  · rw [if_neg (show ¬ (kn 1 : Int32) = 0 by decide), if_pos (show (kn 1 : Int32) = 1 from rfl), if_neg (show ¬ (kn 1 : Int32) = 3 by decide), if_neg (show ¬ (kn 1 : Int32) = 0 by decide), if_pos (show (kn 1 : Int32) = 1 from rfl)]
    rcases pu_takeN h 0 30000 with ⟨r', m', nx2, v, e1, e2, e3, e4, e5, e6, e7, e8, e9, e10⟩ | ⟨r', m', e1, e2, e3, e4⟩
    · refine Or.inl ⟨r', m', nx2, kn v, ?_, ?_, e6, e7, by omega, e9, rfl, rfl, Or.inr (Or.inl ⟨rfl, e4, e5⟩)⟩
      · rw [e1, k_bds, k_lts, pu_ucc]
      · rw [e2, k_bds, if_neg no]
    · refine Or.inr ⟨r', m', ?_, ?_, e3, e4⟩
      · rw [e1, k_bds, k_lts, pu_ucc]
      · rw [e2, k_bds, if_pos rfl, z7]
  · rw [if_neg (show ¬ (kn 2 : Int32) = 0 by decide), if_neg (show ¬ (kn 2 : Int32) = 1 by decide), if_pos (show (kn 2 : Int32) = 2 from rfl), if_neg (show ¬ (kn 2 : Int32) = 3 by decide), if_neg (show ¬ (kn 2 : Int32) = 0 by decide), if_neg (show ¬ (kn 2 : Int32) = 1 by decide), if_pos (show (kn 2 : Int32) = 2 from rfl)]
    rcases pu_takeN h 0 (kn L - 1) with ⟨r', m', nx2, v, e1, e2, e3, e4, e5, e6, e7, e8, e9, e10⟩ | ⟨r', m', e1, e2, e3, e4⟩
    · refine Or.inl ⟨r', m', nx2, kn v, ?_, ?_, e6, e7, by omega, e9, rfl, rfl, Or.inr (Or.inr (Or.inl ⟨rfl, v, pu_ltm e3 (by omega) e5, rfl⟩))⟩
      · rw [e1, k_bds, k_lts, pu_ucc]
      · rw [e2, k_bds, if_neg no]
    · refine Or.inr ⟨r', m', ?_, ?_, e3, e4⟩
      · rw [e1, k_bds, k_lts, pu_ucc]
      · rw [e2, k_bds, if_pos rfl, z7]
  · rw [if_neg (show ¬ (kn 3 : Int32) = 0 by decide), if_neg (show ¬ (kn 3 : Int32) = 1 by decide), if_neg (show ¬ (kn 3 : Int32) = 2 by decide), if_pos (show (kn 3 : Int32) = 3 from rfl), if_pos (show (kn 3 : Int32) = 3 from rfl)]
    exact Or.inl ⟨r, m, nx, 0, rfl, rfl, h17, h, Nat.le_refl _, ⟨fun _ _ => rfl, fun _ _ => rfl⟩, rfl, rfl, Or.inr (Or.inr (Or.inr (Or.inl rfl)))⟩
  · rw [if_neg (show ¬ (kn 4 : Int32) = 0 by decide), if_neg (show ¬ (kn 4 : Int32) = 1 by decide), if_neg (show ¬ (kn 4 : Int32) = 2 by decide), if_neg (show ¬ (kn 4 : Int32) = 3 by decide), if_pos (show (kn 4 : Int32) = 4 from rfl), if_neg (show ¬ (kn 4 : Int32) = 3 by decide), if_neg (show ¬ (kn 4 : Int32) = 0 by decide), if_neg (show ¬ (kn 4 : Int32) = 1 by decide), if_neg (show ¬ (kn 4 : Int32) = 2 by decide), if_pos (show (kn 4 : Int32) = 4 from rfl), k_bds]
    rcases pu_takeN h 0 (kn nC - 1) with ⟨r', m', nx2, v, e1, e2, e3, e4, e5, e6, e7, e8, e9, e10⟩ | ⟨r', m', e1, e2, e3, e4⟩
    · refine Or.inl ⟨r', m', nx2, kn v, ?_, ?_, e6, e7, by omega, e9, rfl, rfl, Or.inr (Or.inr (Or.inr (Or.inr (Or.inl ⟨rfl, v, pu_ltm e3 hC e5, rfl⟩))))⟩
      · rw [e1, k_bds, k_lts, pu_ucc]
      · rw [e2, k_bds, if_neg no]
    · refine Or.inr ⟨r', m', ?_, ?_, e3, e4⟩
      · rw [e1, k_bds, k_lts, pu_ucc]
      · rw [e2, k_bds, if_pos rfl, z7]
  · rw [if_neg (show ¬ (kn 5 : Int32) = 0 by decide), if_neg (show ¬ (kn 5 : Int32) = 1 by decide), if_neg (show ¬ (kn 5 : Int32) = 2 by decide), if_neg (show ¬ (kn 5 : Int32) = 3 by decide), if_neg (show ¬ (kn 5 : Int32) = 4 by decide), if_pos (show (kn 5 : Int32) = 5 from rfl), if_neg (show ¬ (kn 5 : Int32) = 3 by decide), if_neg (show ¬ (kn 5 : Int32) = 0 by decide), if_neg (show ¬ (kn 5 : Int32) = 1 by decide), if_neg (show ¬ (kn 5 : Int32) = 2 by decide), if_neg (show ¬ (kn 5 : Int32) = 4 by decide)]
    rcases pu_takeG h 9 with ⟨r', m', nx2, v, s, e1, e2, e3, e4, e5, e6, e7, e8, e9⟩ | ⟨r', m', e1, e2, e3, e4⟩
    · have hv : v ≤ 9 := by
        rw [kn_lel (by omega) (by omega)] at e4
        exact e4
      have hs : -9 ≤ s ∧ s ≤ 9 := by
        have hvs : ∀ x : Nat, x < 10 → (-9 ≤ kn x ∧ kn x ≤ 9) ∧ (-9 ≤ -(kn x) ∧ -(kn x) ≤ 9) := by decide
        rcases e5 with rfl | rfl
        · exact (hvs v (by omega)).1
        · exact (hvs v (by omega)).2
      refine Or.inl ⟨r', m', nx2, s, ?_, ?_, e6, e7, by omega, e9, rfl, rfl, Or.inr (Or.inr (Or.inr (Or.inr (Or.inr ⟨rfl, hs⟩))))⟩
      · rw [e1, k_bds, k_lts, pu_ucc]
      · rw [e2, k_bds, if_neg no]
    · refine Or.inr ⟨r', m', ?_, ?_, e3, e4⟩
      · rw [e1, k_bds, k_lts, pu_ucc]
      · rw [e2, k_bds, if_pos rfl, z7]

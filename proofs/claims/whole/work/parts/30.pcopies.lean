/-! worlds copied, rows copied -/
def pu_same (L : Nat) (o w : k_M) : Prop :=
  (∀ i, i < 12 → w 0 i = o 0 i) ∧ (∀ p, p < L → ∀ i, i < 8 → w (15 + p) i = o (15 + p) i) ∧ (∀ i, i < 8 → w 2 i = o 2 i) ∧ (w 3 2 = o 3 2 ∧ w 6 2 = o 6 2 ∧ w 9 3 = o 9 3 ∧ w 13 1 = o 13 1 ∧ w 13 2 = o 13 2) ∧ (∀ c, (c = 4 ∨ c = 5 ∨ c = 7 ∨ c = 8 ∨ c = 10 ∨ c = 11 ∨ c = 12) → ∀ i, i < 8 → w c i = o c i) ∧ (∀ i, i < 120 → w 14 i = o 14 i)
theorem pu_same_q {L : Nat} {o w : k_M} (h : pu_same L o w) {c : Nat} (hc : c = 2 ∨ (15 ≤ c ∧ c < 15 + L)) : ∀ i, i < 8 → w c i = o c i := by
  intro i hi
  rcases hc with rfl | hc
  · exact h.2.2.1 i hi
  · have := h.2.1 (c - 15) (by omega) i hi
    rw [show 15 + (c - 15) = c by omega] at this
    exact this
theorem pu_W_same {L : Nat} {o w : k_M} {s s1 : Nat → Int32} (hW : pu_W L o s) (h : pu_same L o w) (hs : ∀ j, j < 268 → s1 j = s j) : pu_W L w s1 := by
  obtain ⟨⟨hL, a10, b8⟩, ⟨hR, b9, hJ⟩, hCh, hlo, hF, hT, hWi, hS, hE⟩ := hW
  obtain ⟨h0, hl, h2, ⟨h32, h62, h93, h131, h132⟩, hc, h14⟩ := id h
  have h11 : w 0 11 = o 0 11 := h0 11 (by omega)
  have hn : pu_n L w = pu_n L o := pu_n_congr h11
  have hnr := pu_n_r (L := L) (w := o)
  have hqi : ∀ i, i < pu_n L o → ∀ j, j < 8 → w (pu_q L i) j = o (pu_q L i) j := fun i hi => pu_same_q h (by
    unfold pu_q
    split <;> omega)
  refine ⟨⟨hL, by rw [h0 10 (by omega)]; exact a10, by rw [hs 8 (by omega)]; exact b8⟩, ⟨by rw [h11]; exact hR, by rw [hs 9 (by omega), h11]; exact b9, by rw [h2 6 (by omega)]; exact hJ⟩, fun i hi => ?_, ?_, ?_, ?_, ?_, ?_, ?_⟩
  · rw [hn] at hi
    have hq := hqi i hi
    have hp := pu_p_r (i := i) hL
    obtain ⟨ar, li, st, t, g1, g2, g3, g4, ⟨k0, k1, k2, k7⟩, g6, g7, g8, ⟨q0, q1, q2, q3, q4, q5, q6, q7⟩⟩ := hCh i hi
    exact ⟨ar, li, st, t, ⟨g1.1, g1.2.1, by rw [hq 5 (by omega)]; exact g1.2.2⟩, g2, g3, g4, ⟨by rw [hq 0 (by omega)]; exact k0, by rw [hq 1 (by omega)]; exact k1, by rw [hq 2 (by omega)]; exact k2, by rw [hq 7 (by omega)]; exact k7⟩, by rw [hq 5 (by omega)]; exact g6, by rw [hq 5 (by omega)]; exact g7, by rw [hq 6 (by omega)]; exact g8, ⟨by rw [hs _ (by omega)]; exact q0, by rw [hs _ (by omega)]; exact q1, by rw [hs _ (by omega)]; exact q2, by rw [hs _ (by omega), hq 3 (by omega)]; exact q3, by rw [hs _ (by omega), hq 4 (by omega)]; exact q4, by rw [hs _ (by omega), hq 5 (by omega)]; exact q5, by rw [hs _ (by omega)]; exact q6, by rw [hs _ (by omega), hq 6 (by omega)]; exact q7⟩⟩
  · rw [hs 15 (by omega), hlo]
    unfold pu_lost
    rw [hn]
    refine pu_sf_congr _ _ fun j _ hj => ?_
    have hq := hqi j (by omega)
    rw [hq 5 (by omega), hq 1 (by omega), hq 7 (by omega)]
  · exact pu_F_congr hF (fun i hi => h0 i (by omega)) (fun j hj => hs j (by omega))
  · exact pu_T_congr hT h32 (hc 4 (by omega)) (hc 5 (by omega)) (hs 10 (by omega)) (fun j _ h2 => hs j (by omega))
  · exact pu_T_congr hWi h62 (hc 7 (by omega)) (hc 8 (by omega)) (hs 11 (by omega)) (fun j _ h2 => hs j (by omega))
  · exact pu_S_congr hS h93 (hc 10 (by omega)) (hc 11 (by omega)) (hc 12 (by omega)) (hs 12 (by omega)) (fun j _ h2 => hs j (by omega))
  · exact pu_E_congr hE h131 h132 h14 (hs 16 (by omega)) (fun j _ h2 => hs j h2)
theorem pu_copyC {w o : k_M} {q : Nat} (hj : o q 6 = 0 ∨ o q 6 = 1) : ∃ w', f_X0_copyFrom w o q q = some w' ∧ (∀ c, c ≠ q → w' c = w c) ∧ (∀ i, i < 8 → w' q i = o q i) := by
  unfold f_X0_copyFrom
  simp only [k_lts]
  rw [k_ckp hj]
  refine ⟨_, rfl, fun c hc => ?_, fun i hi => ?_⟩
  · simp only [k_upc _ _ hc]
  · rcases (show i = 0 ∨ i = 1 ∨ i = 2 ∨ i = 3 ∨ i = 4 ∨ i = 5 ∨ i = 6 ∨ i = 7 by omega) with rfl | rfl | rfl | rfl | rfl | rfl | rfl | rfl <;> simp [k_upx]
theorem pu_cps (w : k_M) (c : Nat) (f : Nat → Int32) : k_cp w c f c = f := if_pos rfl
theorem pu_cpn (w : k_M) {c c' : Nat} (f : Nat → Int32) (h : c' ≠ c) : k_cp w c f c' = w c' := if_neg h
theorem pu_copy98 {L : Nat} {o : k_M} (hL : L ≤ 8) (hj : ∀ p, p < L → o (15 + p) 6 = 0 ∨ o (15 + p) 6 = 1) : ∀ (k i n : Nat) (w : k_M), i + k = L → k < n → w 0 10 = kn L → ∃ w', f_X9_copyFrom_98 n w o (kn i) = f_X9_copyFrom_98 1 w' o (kn L) ∧ (∀ c, c < 15 → w' c = w c) ∧ (∀ p, i ≤ p → p < L → ∀ j, j < 8 → w' (15 + p) j = o (15 + p) j) ∧ (∀ p, p < i → w' (15 + p) = w (15 + p)) := by
  intro k
  induction k with
  | zero =>
    intro i n w hi hn hw
    obtain ⟨n, rfl⟩ : ∃ n9, n = n9 + 1 := ⟨n - 1, by omega⟩
    have e : i = L := by omega
    subst e
    refine ⟨w, ?_, fun _ _ => rfl, fun p h1 h2 => by omega, fun _ _ => rfl⟩
    show f_X9_copyFrom_98_b _ w o (kn i) = f_X9_copyFrom_98_b _ w o (kn i)
    unfold f_X9_copyFrom_98_b
    rw [if_pos (show w 0 10 ≤ kn i by rw [hw, kn_le (by omega) (by omega)]; omega), if_pos (show w 0 10 ≤ kn i by rw [hw, kn_le (by omega) (by omega)]; omega)]
  | succ k ih =>
    intro i n w hi hn hw
    obtain ⟨n, rfl⟩ : ∃ n9, n = n9 + 1 := ⟨n - 1, by omega⟩
    obtain ⟨w1, e1, e2, e3⟩ := pu_copyC (w := w) (hj i (by omega))
    obtain ⟨w', g1, g2, g3, g4⟩ := ih (i + 1) n w1 (by omega) (by omega) (by rw [e2 0 (by omega)]; exact hw)
    refine ⟨w', ?_, fun c hc => by rw [g2 c hc, e2 c (by omega)], fun p h1 h2 j hj8 => ?_, fun p hp => by rw [g4 p (by omega), e2 _ (by omega)]⟩
    · show f_X9_copyFrom_98_b _ w o (kn i) = _
      unfold f_X9_copyFrom_98_b
      rw [if_neg (by rw [hw, kn_le (by omega) (by omega)]; omega), k_ckn (by omega) (by omega), k_ckn (by omega) (by omega), kn_nat (by omega), e1, k_bds, k_lts, kn_addl]
      exact g1
    · by_cases hp : p = i
      · subst hp
        rw [g4 p (by omega)]
        exact e3 j hj8
      · exact g3 p (by omega) h2 j hj8
theorem pu_copyW {L : Nat} {w o : k_M} (hL : L ≤ 8) (h10 : o 0 10 = kn L) (h11 : o 0 11 = 0 ∨ o 0 11 = 1) (hj : ∀ p, p < L → o (15 + p) 6 = 0 ∨ o (15 + p) 6 = 1) (hj2 : o 2 6 = 0 ∨ o 2 6 = 1) : ∃ w', f_X9_copyFrom w o = some w' ∧ pu_same L o w' := by
  unfold f_X9_copyFrom
  simp only [k_lts]
  rw [k_ckp h11]
  generalize hw1 : k_up (k_up (k_up (k_up (k_up (k_up (k_up (k_up (k_up (k_up (k_up (k_up w 0 0 (o 0 0)) 0 1 (o 0 1)) 0 2 (o 0 2)) 0 3 (o 0 3)) 0 4 (o 0 4)) 0 5 (o 0 5)) 0 6 (o 0 6)) 0 7 (o 0 7)) 0 8 (o 0 8)) 0 9 (o 0 9)) 0 10 (o 0 10)) 0 11 (o 0 11) = w1
  have h0 : ∀ i, i < 12 → w1 0 i = o 0 i := by
    intro i hi
    rw [← hw1]
    rcases (show i = 0 ∨ i = 1 ∨ i = 2 ∨ i = 3 ∨ i = 4 ∨ i = 5 ∨ i = 6 ∨ i = 7 ∨ i = 8 ∨ i = 9 ∨ i = 10 ∨ i = 11 by omega) with rfl | rfl | rfl | rfl | rfl | rfl | rfl | rfl | rfl | rfl | rfl | rfl <;> simp [k_upx]
  have hw10 : w1 0 10 = kn L := (h0 10 (by omega)).trans h10
  obtain ⟨w2, e1, e2, e3, -⟩ := pu_copy98 hL hj L 0 k_N w1 (by omega) (by unfold k_N; omega) hw10
  obtain ⟨w3, g1, g2, g3⟩ := pu_copyC (w := w2) hj2
  have e1' : f_X9_copyFrom_98 k_N w1 o 0 = f_X9_copyFrom_98 1 w2 o (kn L) := e1
  rw [e1']
  show ∃ w', f_X9_copyFrom_98_b _ w2 o (kn L) = some w' ∧ pu_same L o w'
  unfold f_X9_copyFrom_98_b
  rw [if_pos (show w2 0 10 ≤ kn L by rw [e2 0 (by omega), hw10, kn_le (by omega) (by omega)]; omega), g1, k_bds]
  unfold f_X2_copyFrom f_X8_copyFrom f_X1_copyFrom
  simp only [k_lts, k_bds]
  refine ⟨_, rfl, fun i hi => ?_, fun p hp i hi => ?_, fun i hi => ?_, ⟨?_, ?_, ?_, ?_, ?_⟩, fun c hc i hi => ?_, fun i hi => ?_⟩
  · simp [k_upx, k_cp, g2 0 (by omega), e2 0 (by omega), h0 i hi]
  · have q1 : 15 + p ≠ 13 := by omega
    have q2 : 15 + p ≠ 14 := by omega
    have q3 : 15 + p ≠ 9 := by omega
    have q4 : 15 + p ≠ 10 := by omega
    have q5 : 15 + p ≠ 11 := by omega
    have q6 : 15 + p ≠ 12 := by omega
    have q7 : 15 + p ≠ 6 := by omega
    have q8 : 15 + p ≠ 7 := by omega
    have q9 : 15 + p ≠ 8 := by omega
    have qa : 15 + p ≠ 3 := by omega
    have qb : 15 + p ≠ 4 := by omega
    have qc : 15 + p ≠ 5 := by omega
    simp [k_upx, k_cp, q1, q2, q3, q4, q5, q6, q7, q8, q9, qa, qb, qc, g2 _ (show 15 + p ≠ 2 by omega), e3 p (by omega) hp i hi]
  · simp [k_upx, k_cp, g3 i hi]
  · simp [k_upx, k_cp]
  · simp [k_upx, k_cp]
  · simp [k_upx, k_cp]
  · simp [k_upx, k_cp]
  · simp [k_upx, k_cp]
  · rcases hc with rfl | rfl | rfl | rfl | rfl | rfl | rfl <;> simp [k_upx, k_cp, hi]
  · simp [k_upx, k_cp, hi]
theorem pu_copyOk {L : Nat} {w o : k_M} {s : Nat → Int32} (hW : pu_W L o s) : ∃ w', f_X9_copyFrom w o = some w' ∧ pu_same L o w' := by
  refine pu_copyW hW.1.1 hW.1.2.1 hW.2.1.1 (fun p hp => ?_) hW.2.1.2.2
  have hC := hW.2.2.1 p (pu_n_L hp)
  rw [pu_q_l hp] at hC
  obtain ⟨-, -, -, -, -, -, -, -, -, -, -, hj, -⟩ := hC
  exact hj
/-! the reference's rows -/
theorem pu_rows0 {q0 N0 q2 N2 a b : Nat} (hq : q0 ≠ q2) (hN0 : (nI N0).toInt = (N0 : Int)) (hN2 : (nI N2).toInt = (N2 : Int)) (ha : a + 268 ≤ N0) (hb : b + 268 ≤ N2) (h0 : N0 < 100000) (h2 : N2 < 100000) : ∀ (k i n : Nat) (w : k_M), i + k = 268 → k < n → ∃ w', f_X11_copies_3 n w q0 N0 q2 N2 (kn a) (kn b) (kn i) = some w' ∧ (∀ c, c ≠ q2 → w' c = w c) ∧ (∀ j, w' q2 j = if b + i ≤ j ∧ j < b + 268 then w q0 (a + (j - b)) else w q2 j) := by
  intro k
  have l0 : ∀ x : Nat, x < N0 → (0 ≤ kn x ∧ kn x < nI N0) := fun x hx => ⟨by rw [show (0 : Int32) = kn 0 from rfl, kn_le (by omega) (by omega)]; omega, by rw [Int32.lt_iff_toInt_lt, kn_int (by omega), hN0]; omega⟩
  have l2 : ∀ x : Nat, x < N2 → (0 ≤ kn x ∧ kn x < nI N2) := fun x hx => ⟨by rw [show (0 : Int32) = kn 0 from rfl, kn_le (by omega) (by omega)]; omega, by rw [Int32.lt_iff_toInt_lt, kn_int (by omega), hN2]; omega⟩
  induction k with
  | zero =>
    intro i n w hi hn
    obtain ⟨n, rfl⟩ : ∃ n9, n = n9 + 1 := ⟨n - 1, by omega⟩
    refine ⟨w, ?_, fun _ _ => rfl, fun j => by rw [if_neg (by omega)]⟩
    show f_X11_copies_3_b _ w q0 N0 q2 N2 (kn a) (kn b) (kn i) = _
    unfold f_X11_copies_3_b
    rw [if_pos (by rw [kn_lle (by omega) (by omega)]; omega)]
  | succ k ih =>
    intro i n w hi hn
    obtain ⟨n, rfl⟩ : ∃ n9, n = n9 + 1 := ⟨n - 1, by omega⟩
    obtain ⟨w', e1, e2, e3⟩ := ih (i + 1) n (k_up w q2 (b + i) (w q0 (a + i))) (by omega) (by omega)
    refine ⟨w', ?_, fun c hc => by rw [e2 c hc, k_upc _ _ hc], fun j => ?_⟩
    · show f_X11_copies_3_b _ w q0 N0 q2 N2 (kn a) (kn b) (kn i) = _
      unfold f_X11_copies_3_b
      rw [if_neg (by rw [kn_lle (by omega) (by omega)]; omega), kn_add, kn_add, k_ckp (l0 _ (by omega)), k_ckp (l2 _ (by omega)), kn_nat (by omega), kn_nat (by omega), k_lts, kn_addl, k_lts]
      exact e1
    · rw [e3]
      by_cases c1 : b + (i + 1) ≤ j ∧ j < b + 268
      · rw [if_pos c1, if_pos (by omega), k_upc _ _ hq]
      · rw [if_neg c1]
        by_cases c2 : j = b + i
        · subst c2
          rw [k_ups, if_pos (by omega), show b + i - b = i by omega]
        · rw [k_upi _ _ c2, if_neg (by omega)]
theorem pu_rows {q0 N0 q2 N2 a b : Nat} {w : k_M} (hq : q0 ≠ q2) (hN0 : (nI N0).toInt = (N0 : Int)) (hN2 : (nI N2).toInt = (N2 : Int)) (ha : a + 268 ≤ N0) (hb : b + 268 ≤ N2) (h0 : N0 < 100000) (h2 : N2 < 100000) : ∃ w', f_X11_copies w q0 N0 (kn a) q2 N2 (kn b) = some w' ∧ (∀ c, c ≠ q2 → w' c = w c) ∧ (∀ j, w' q2 j = if b ≤ j ∧ j < b + 268 then w q0 (a + (j - b)) else w q2 j) :=
  pu_rows0 hq hN0 hN2 ha hb h0 h2 268 0 k_N w (by omega) (by unfold k_N; omega)
/-- within one row, downwards -/
theorem pu_rowsD0 {q N a b : Nat} (hN : (nI N).toInt = (N : Int)) (hab : b + 268 ≤ a) (ha : a + 268 ≤ N) (h0 : N < 100000) : ∀ (k i n : Nat) (w : k_M), i + k = 268 → k < n → ∃ w', f_X11_copies_3 n w q N q N (kn a) (kn b) (kn i) = some w' ∧ (∀ c, c ≠ q → w' c = w c) ∧ (∀ j, w' q j = if b + i ≤ j ∧ j < b + 268 then w q (a + (j - b)) else w q j) := by
  intro k
  have l0 : ∀ x : Nat, x < N → (0 ≤ kn x ∧ kn x < nI N) := fun x hx => ⟨by rw [show (0 : Int32) = kn 0 from rfl, kn_le (by omega) (by omega)]; omega, by rw [Int32.lt_iff_toInt_lt, kn_int (by omega), hN]; omega⟩
  induction k with
  | zero =>
    intro i n w hi hn
    obtain ⟨n, rfl⟩ : ∃ n9, n = n9 + 1 := ⟨n - 1, by omega⟩
    refine ⟨w, ?_, fun _ _ => rfl, fun j => by rw [if_neg (by omega)]⟩
    show f_X11_copies_3_b _ w q N q N (kn a) (kn b) (kn i) = _
    unfold f_X11_copies_3_b
    rw [if_pos (by rw [kn_lle (by omega) (by omega)]; omega)]
  | succ k ih =>
    intro i n w hi hn
    obtain ⟨n, rfl⟩ : ∃ n9, n = n9 + 1 := ⟨n - 1, by omega⟩
    obtain ⟨w', e1, e2, e3⟩ := ih (i + 1) n (k_up w q (b + i) (w q (a + i))) (by omega) (by omega)
    refine ⟨w', ?_, fun c hc => by rw [e2 c hc, k_upc _ _ hc], fun j => ?_⟩
    · show f_X11_copies_3_b _ w q N q N (kn a) (kn b) (kn i) = _
      unfold f_X11_copies_3_b
      rw [if_neg (by rw [kn_lle (by omega) (by omega)]; omega), kn_add, kn_add, k_ckp (l0 _ (by omega)), k_ckp (l0 _ (by omega)), kn_nat (by omega), kn_nat (by omega), k_lts, kn_addl, k_lts]
      exact e1
    · rw [e3]
      by_cases c1 : b + (i + 1) ≤ j ∧ j < b + 268
      · rw [if_pos c1, if_pos (by omega), k_upi _ _ (by omega)]
      · rw [if_neg c1]
        by_cases c2 : j = b + i
        · subst c2
          rw [k_ups, if_pos (by omega), show b + i - b = i by omega]
        · rw [k_upi _ _ c2, if_neg (by omega)]
theorem pu_rowsD {q N a b : Nat} {w : k_M} (hN : (nI N).toInt = (N : Int)) (hab : b + 268 ≤ a) (ha : a + 268 ≤ N) (h0 : N < 100000) : ∃ w', f_X11_copies w q N (kn a) q N (kn b) = some w' ∧ (∀ c, c ≠ q → w' c = w c) ∧ (∀ j, w' q j = if b ≤ j ∧ j < b + 268 then w q (a + (j - b)) else w q j) :=
  pu_rowsD0 hN hab ha h0 268 0 k_N w (by omega) (by unfold k_N; omega)
theorem pu_n268 : (nI 268).toInt = ((268 : Nat) : Int) := by decide
theorem pu_n536 : (nI 536).toInt = ((536 : Nat) : Int) := by decide
theorem pu_n2144 : (nI 2144).toInt = ((2144 : Nat) : Int) := by decide

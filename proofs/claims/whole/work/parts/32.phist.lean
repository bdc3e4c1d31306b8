/-! the worlds before the acts: the class keeps them in a ring, the reference shifts its rows -/
theorem pu_keeps58 {m : k_M} {c : Nat} (hc : c < 8) (h : m 0 8 = kn c) : ∃ m', f_X11_keeps_58 m = some m' ∧ m' 0 8 = kn (c + 1) ∧ (∀ i, i ≠ 8 → m' 0 i = m 0 i) ∧ m' 7 0 = m 7 0 + 1 ∧ (∀ i, i ≠ 0 → m' 7 i = m 7 i) ∧ (∀ j, m' 4 j = if 268 * c ≤ j ∧ j < 268 * c + 268 then m 1 (j - 268 * c) else m 4 j) ∧ (∀ k, k ≠ 0 → k ≠ 4 → k ≠ 7 → m' k = m k) := by
  obtain ⟨w, e1, e2, e3⟩ := pu_rows (q0 := 1) (N0 := 268) (q2 := 4) (N2 := 2144) (a := 0) (b := 268 * c) (w := m) (by decide) pu_n268 pu_n2144 (by omega) (by omega) (by decide) (by decide)
  refine ⟨k_up (k_up w 0 8 (w 0 8 + 1)) 7 0 (w 7 0 + 1), ?_, ?_, ?_, ?_, ?_, ?_, ?_⟩
  · unfold f_X11_keeps_58
    rw [h, kn_lmul, show (0 : Int32) = kn 0 from rfl, show (OfNat.ofNat 268 : Nat) * c = 268 * c from rfl, e1]
    simp only [k_bds, k_lts]
    rw [k_upc _ _ (show (7 : Nat) ≠ 0 by decide)]
  · rw [k_upc _ _ (by decide), k_ups, e2 0 (by decide), h]
    exact kn_addl c 1
  · intro i hi
    rw [k_upc _ _ (by decide), k_upi _ _ hi, e2 0 (by decide)]
  · rw [k_ups, e2 7 (by decide)]
  · intro i hi
    rw [k_upi _ _ hi, k_upc _ _ (by decide), e2 7 (by decide)]
  · intro j
    rw [k_upc _ _ (by decide), k_upc _ _ (by decide), e3]
    by_cases hj : 268 * c ≤ j ∧ j < 268 * c + 268
    · rw [if_pos hj, if_pos hj, Nat.zero_add]
    · rw [if_neg hj, if_neg hj]
  · intro k h0 h4 h7
    rw [k_upc _ _ h7, k_upc _ _ h0, e2 k h4]
theorem pu_keeps21 : ∀ (k i n : Nat) (m : k_M), i + k = 7 → k < n → m 0 8 = kn 7 → ∃ m', f_X11_keeps_21 n m (kn i) = f_X11_keeps_58 m' ∧ (∀ c, c ≠ 4 → m' c = m c) ∧ (∀ y, y < 268 * i → m' 4 y = m 4 y) ∧ (∀ j, i ≤ j → j < 7 → ∀ x, x < 268 → m' 4 (268 * j + x) = m 4 (268 * (j + 1) + x)) := by
  intro k
  induction k with
  | zero =>
    intro i n m hi hn h
    obtain ⟨n, rfl⟩ : ∃ n9, n = n9 + 1 := ⟨n - 1, by omega⟩
    refine ⟨m, ?_, fun _ _ => rfl, fun _ _ => rfl, fun j h1 h2 => by omega⟩
    show f_X11_keeps_21_b _ m (kn i) = _
    unfold f_X11_keeps_21_b
    rw [if_pos (by rw [h, kn_le (by omega) (by omega)]; omega)]
  | succ k ih =>
    intro i n m hi hn h
    obtain ⟨n, rfl⟩ : ∃ n9, n = n9 + 1 := ⟨n - 1, by omega⟩
    obtain ⟨w, e1, e2, e3⟩ := pu_rowsD (q := 4) (N := 2144) (a := 268 * (i + 1)) (b := 268 * i) (w := m) pu_n2144 (by omega) (by omega) (by decide)
    obtain ⟨m', r1, r2, r3, r4⟩ := ih (i + 1) n w (by omega) (by omega) (by rw [e2 0 (by decide), h])
    refine ⟨m', ?_, fun c hc => by rw [r2 c hc, e2 c hc], fun y hy => ?_, fun j h1 h2 x hx => ?_⟩
    · show f_X11_keeps_21_b _ m (kn i) = _
      unfold f_X11_keeps_21_b
      rw [if_neg (by rw [h, kn_le (by omega) (by omega)]; omega), kn_addl, kn_lmul, kn_lmul]
      show k_bd (f_X11_copies m 4 2144 (kn (268 * (i + 1))) 4 2144 (kn (268 * i))) _ = _
      rw [e1]
      simp only [k_bds, k_lts]
      exact r1
    · rw [r3 y (by omega), e3, if_neg (by omega)]
    · by_cases hji : j = i
      · subst hji
        rw [r3 _ (by omega), e3, if_pos (by omega), show 268 * j + x - 268 * j = x by omega]
      · rw [r4 j (by omega) h2 x hx, e3, if_neg (by omega)]
/-- before an act: one account more, the world kept -/
theorem pu_begin {u : k_U} {m : k_M} (h : pu_R u m) : ∃ u1 m1, f_X10_beginAct u = some u1 ∧ f_X11_keeps m = some m1 ∧ pu_R u1 m1 ∧ u1 10 = u 10 ∧ m1 1 = m 1 ∧ m1 0 0 = m 0 0 ∧ u1 5 = u 5 := by
  have h9 := h
  obtain ⟨⟨L, hW⟩, hA, ⟨hn, c, b1, b2, b3, b4, b5, b6⟩, hV, ⟨len, x1, x2, x3, x4⟩, ⟨ec, ep⟩, ⟨n, o1, o2, o3, o4⟩, hD⟩ := h
  obtain ⟨w', cp, sm⟩ := pu_copyOk (w := u (15 + hn)) hW
  have hWn : pu_W L w' (m 1) := pu_W_same hW sm (fun _ _ => rfl)
  generalize hu9 : k_uc u 0 (k_up (u 0) 3 0 (u 0 3 0 + 1)) = u9
  have v0 : ∀ k, k ≠ 0 → u9 k = u k := fun k hk => by rw [← hu9, pu_uc _ _ hk]
  have hhx : (kn hn + 1) - (kn hn + 1) / 8 * 8 = kn ((hn + 1) % 8) := by
    rw [kn_addl, kn_divl (by omega) (by decide), kn_mull, kn_sub (by omega)]
    exact congrArg kn (by omega)
  generalize hc1 : (if c = 8 then 8 else c + 1) = c1
  have hc8 : c1 ≤ 8 := by
    rw [← hc1]
    split <;> omega
  have hcx : k_mini (kn c + 1) 8 = kn c1 := by
    unfold k_mini
    rw [kn_addl]
    by_cases h8 : c = 8
    · subst h8
      rw [if_pos rfl] at hc1
      subst hc1
      rfl
    · rw [if_neg h8] at hc1
      subst hc1
      rw [if_neg (by rw [kn_llt (by omega) (by omega)]; omega)]
  have hu : f_X10_beginAct u = some (k_uc (k_uc (k_uc u9 (15 + hn) w') 4 (k_up (u 4) 0 1 (kn ((hn + 1) % 8)))) 4 (k_up (k_up (u 4) 0 1 (kn ((hn + 1) % 8))) 0 2 (kn c1))) := by
    unfold f_X10_beginAct f_X3_remember
    simp only [k_lts]
    rw [hu9, v0 4 (by decide), b3, k_ckn b1 (by decide), kn_nat (by omega), v0 10 (by decide), v0 (15 + hn) (by omega), cp]
    simp only [k_bds, k_lts]
    rw [pu_uc u9 w' (show 4 ≠ 15 + hn by omega), v0 4 (by decide), b3, k_uc_s, hhx, k_upi _ _ (show 2 ≠ 1 by decide), b4, hcx]
  generalize hu1 : k_uc (k_uc (k_uc u9 (15 + hn) w') 4 (k_up (u 4) 0 1 (kn ((hn + 1) % 8)))) 4 (k_up (k_up (u 4) 0 1 (kn ((hn + 1) % 8))) 0 2 (kn c1)) = u1 at hu
  have g4 : u1 4 = k_up (k_up (u 4) 0 1 (kn ((hn + 1) % 8))) 0 2 (kn c1) := by rw [← hu1, k_uc_s]
  have gk : ∀ k, k ≠ 4 → k ≠ 15 + hn → u1 k = u9 k := fun k a b => by rw [← hu1, pu_uc _ _ a, pu_uc _ _ a, pu_uc _ _ b]
  have gh : u1 (15 + hn) = w' := by rw [← hu1, pu_uc _ _ (by omega), pu_uc _ _ (by omega), k_uc_s]
  have g : ∀ k, k ≠ 0 → k ≠ 4 → k ≠ 15 + hn → u1 k = u k := fun k a b d => by rw [gk k b d, v0 k a]
  have g0 : u1 0 = k_up (u 0) 3 0 (u 0 3 0 + 1) := by rw [gk 0 (by decide) (by omega), ← hu9, k_uc_s]
  -- the reference
  have hm : ∃ m1, f_X11_keeps m = some m1 ∧ m1 0 8 = kn c1 ∧ (∀ i, i ≠ 8 → m1 0 i = m 0 i) ∧ m1 7 0 = m 7 0 + 1 ∧ (∀ i, i ≠ 0 → m1 7 i = m 7 i) ∧ (∀ k, k ≠ 0 → k ≠ 4 → k ≠ 7 → m1 k = m k) ∧ (∀ j, j < c1 → (j + 1 = c1 ∧ ∀ x, x < 268 → m1 4 (268 * j + x) = m 1 x) ∨ (j + 1 < c1 ∧ ∀ x, x < 268 → m1 4 (268 * j + x) = m 4 (268 * (if c = 8 then j + 1 else j) + x))) := by
    unfold f_X11_keeps
    rw [b5]
    by_cases h8 : c = 8
    · subst h8
      rw [if_pos rfl] at hc1
      subst hc1
      rw [if_pos (show (kn 8 : Int32) = 8 from rfl)]
      simp only [k_lts]
      obtain ⟨m2, r1, r2, r3, r4⟩ := pu_keeps21 7 0 k_N (k_up m 0 8 (kn 7)) (by omega) (by unfold k_N; omega) (k_ups _ _ _ _)
      obtain ⟨m1, s1, s2, s3, s4, s5, s6, s7⟩ := pu_keeps58 (m := m2) (c := 7) (by decide) (by rw [r2 0 (by decide), k_ups])
      refine ⟨m1, ?_, s2, fun i hi => by rw [s3 i hi, r2 0 (by decide), k_upi _ _ hi], by rw [s4, r2 7 (by decide), k_upc _ _ (by decide)], fun i hi => by rw [s5 i hi, r2 7 (by decide), k_upc _ _ (by decide)], fun k a b d => by rw [s7 k a b d, r2 k b, k_upc _ _ a], fun j hj => ?_⟩
      · rw [show (kn 8 : Int32) - 1 = kn 7 from rfl]
        exact r1.trans s1
      · by_cases hj7 : j = 7
        · subst hj7
          refine Or.inl ⟨rfl, fun x hx => ?_⟩
          rw [s6, if_pos (by omega), show 268 * 7 + x - 268 * 7 = x by omega, r2 1 (by decide), k_upc _ _ (by decide)]
        · refine Or.inr ⟨by omega, fun x hx => ?_⟩
          rw [s6, if_neg (by omega), r4 j (by omega) (by omega) x hx, k_upc _ _ (by decide), if_pos trivial]
    · rw [if_neg h8] at hc1
      subst hc1
      rw [if_neg (by rw [kn_eql (by omega) (by decide)]; exact h8)]
      obtain ⟨m1, s1, s2, s3, s4, s5, s6, s7⟩ := pu_keeps58 (m := m) (c := c) (by omega) b5
      refine ⟨m1, s1, s2, s3, s4, s5, s7, fun j hj => ?_⟩
      by_cases hj7 : j = c
      · subst hj7
        refine Or.inl ⟨rfl, fun x hx => ?_⟩
        rw [s6, if_pos (by omega), show 268 * j + x - 268 * j = x by omega]
      · refine Or.inr ⟨by omega, fun x hx => ?_⟩
        rw [s6, if_neg (by omega), if_neg h8]
  obtain ⟨m1, hm1, t1, t2, t3, t4, t5, t6⟩ := hm
  refine ⟨u1, m1, hu, hm1, ⟨⟨L, ?_⟩, fun i hi => ?_, ⟨(hn + 1) % 8, c1, by omega, ?_, ?_, ?_, t1, fun j hj => ?_⟩, fun j hj => ?_, ⟨len, x1, ?_, ?_, ?_⟩, ⟨?_, ?_⟩, ⟨n, o1, ?_, ?_, ?_⟩, ?_⟩, g 10 (by decide) (by decide) (by omega), t5 1 (by decide) (by decide) (by decide), t2 0 (by decide), g 5 (by decide) (by decide) (by omega)⟩
  · rw [g 10 (by decide) (by decide) (by omega), t5 1 (by decide) (by decide) (by decide)]
    exact hW
  · rw [g0]
    by_cases hi0 : i = 0
    · subst hi0
      rw [k_ups, t3, hA 0 hi]
    · rw [k_upi _ _ hi0, t4 i hi0]
      exact hA i hi
  · exact hc8
  · rw [g4, k_upi _ _ (by decide), k_ups]
  · rw [g4, k_ups]
  · rcases t6 j hj with ⟨hj1, hx⟩ | ⟨hj1, hx⟩
    · have e : 15 + ((hn + 1) % 8 + 8 - c1 + j) % 8 = 15 + hn := by omega
      rw [e, gh]
      exact ⟨L, pu_W_s hWn hx⟩
    · by_cases h8 : c = 8
      · rw [if_pos h8] at hc1 hx
        obtain ⟨L', hL'⟩ := b6 (j + 1) (by omega)
        have e : 15 + ((hn + 1) % 8 + 8 - c1 + j) % 8 = 15 + (hn + 8 - c + (j + 1)) % 8 := by omega
        rw [e, g _ (by omega) (by omega) (by omega)]
        exact ⟨L', pu_W_s hL' hx⟩
      · rw [if_neg h8] at hc1 hx
        obtain ⟨L', hL'⟩ := b6 j (by omega)
        have e : 15 + ((hn + 1) % 8 + 8 - c1 + j) % 8 = 15 + (hn + 8 - c + j) % 8 := by omega
        rw [e, g _ (by omega) (by omega) (by omega)]
        exact ⟨L', pu_W_s hL' hx⟩
  · rw [g0, k_upc _ _ (by decide), t5 6 (by decide) (by decide) (by decide), t5 5 (by decide) (by decide) (by decide), g (12 + j) (by omega) (by omega) (by omega)]
    exact hV j hj
  · rw [g 1 (by decide) (by decide) (by omega), x2]
  · rw [t2 10 (by decide), x3]
  · rw [g 1 (by decide) (by decide) (by omega), t5 9 (by decide) (by decide) (by decide)]
    exact x4
  · rw [g 1 (by decide) (by decide) (by omega), t2 15 (by decide), ec]
  · rw [g 1 (by decide) (by decide) (by omega), t2 16 (by decide), ep]
  · rw [g 3 (by decide) (by decide) (by omega), o2]
  · rw [t2 21 (by decide), o3]
  · rw [g 3 (by decide) (by decide) (by omega), t5 20 (by decide) (by decide) (by decide)]
    exact o4
  · rw [g 14 (by decide) (by decide) (by omega)]
    exact hD
/-- an act refused with the code a -/
theorem pu_refuse {u : k_U} {m : k_M} (h : pu_R u m) {a : Nat} (ha : a < 10) : ∃ u1 m1, f_X10_refuse u (kn a) = some (u1, -(kn a)) ∧ f_X11_refused m (kn a) = some (m1, -(kn a)) ∧ pu_R u1 m1 ∧ m1 0 0 = m 0 0 ∧ u1 5 = u 5 := by
  refine ⟨k_uc u 0 (k_up (u 0) 3 a (u 0 3 a + 1)), k_up m 7 a (m 7 a + 1), ?_, ?_, ?_, by rw [k_upc _ _ (show (0 : Nat) ≠ 7 by decide)], pu_uc _ _ (by decide)⟩
  · unfold f_X10_refuse
    rw [k_ckn ha (by decide), k_ckn ha (by decide), kn_nat (by omega), k_lts]
  · unfold f_X11_refused
    rw [k_ckn ha (by decide), k_ckn ha (by decide), kn_nat (by omega), k_lts]
  · have e : ∀ k, k ≠ 0 → k_uc u 0 (k_up (u 0) 3 a (u 0 3 a + 1)) k = u k := fun k hk => pu_uc _ _ hk
    have f : ∀ k, k ≠ 7 → k_up m 7 a (m 7 a + 1) k = m k := fun k hk => k_upc _ _ hk
    obtain ⟨⟨L, hW⟩, hA, ⟨hn, c, b1, b2, b3, b4, b5, b6⟩, hV, ⟨len, x1, x2, x3, x4⟩, ⟨ec, ep⟩, ⟨n, o1, o2, o3, o4⟩, hD⟩ := h
    refine ⟨⟨L, ?_⟩, fun i hi => ?_, ⟨hn, c, b1, b2, ?_, ?_, ?_, fun j hj => ?_⟩, fun j hj => ?_, ⟨len, x1, ?_, ?_, ?_⟩, ⟨?_, ?_⟩, ⟨n, o1, ?_, ?_, ?_⟩, ?_⟩
    · rw [e 10 (by decide), f 1 (by decide)]
      exact hW
    · rw [k_uc_s]
      by_cases hia : i = a
      · subst hia
        rw [k_ups, k_ups, hA i hi]
      · rw [k_upi _ _ hia, k_upi _ _ hia]
        exact hA i hi
    · rw [e 4 (by decide), b3]
    · rw [e 4 (by decide), b4]
    · rw [f 0 (by decide), b5]
    · rw [e _ (by omega), f 4 (by decide)]
      exact b6 j hj
    · rw [k_uc_s, k_upc _ _ (by decide), e _ (by omega), f 6 (by decide), f 5 (by decide)]
      exact hV j hj
    · rw [e 1 (by decide), x2]
    · rw [f 0 (by decide), x3]
    · rw [e 1 (by decide), f 9 (by decide)]
      exact x4
    · rw [e 1 (by decide), f 0 (by decide), ec]
    · rw [e 1 (by decide), f 0 (by decide), ep]
    · rw [e 3 (by decide), o2]
    · rw [f 0 (by decide), o3]
    · rw [e 3 (by decide), f 20 (by decide)]
      exact o4
    · rw [e 14 (by decide)]
      exact hD

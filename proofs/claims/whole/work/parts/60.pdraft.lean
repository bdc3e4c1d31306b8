/-! the draft while a setup is read: every chute folded -/
def pu_Dr (L : Nat) (w : k_M) (s : Nat → Int32) : Prop := pu_W L w s ∧ (∀ i, i < pu_n L w → w (pu_q L i) 5 = 0) ∧ (∀ p, p < 9 → s (65 + p) = 0) ∧ s 91 = 0
theorem pu_lost0 {L : Nat} {w : k_M} (h : ∀ i, i < pu_n L w → w (pu_q L i) 5 = 0) : pu_lost L w = 0 := by
  unfold pu_lost
  have : ∀ (k i : Nat), i + k ≤ pu_n L w → pu_sf (fun i => if w (pu_q L i) 5 = 4 then w (pu_q L i) 1 - w (pu_q L i) 7 else 0) i k = 0 := by
    intro k
    induction k with
    | zero => intro i _; rfl
    | succ k ih =>
      intro i hi
      show (if w (pu_q L i) 5 = 4 then w (pu_q L i) 1 - w (pu_q L i) 7 else 0) + pu_sf _ (i + 1) k = 0
      rw [ih (i + 1) (by omega), if_neg (by rw [h i (by omega)]; decide)]
      rfl
  exact this (pu_n L w) 0 (by omega)
/-- a chute just packed -/
theorem pu_packC {w : k_M} {q p ar li st : Nat} {x3 x4 j : Int32} {s : Nat → Int32} (har : 1 ≤ ar ∧ ar ≤ 99) (hli : 1 ≤ li ∧ li ≤ 12) (hst : 1 ≤ st ∧ st ≤ 9999) (hj : j = 0 ∨ j = 1) (e0 : w q 0 = kn ar) (e1 : w q 1 = kn li) (e2 : w q 2 = kn st) (e3 : w q 3 = x3) (e4 : w q 4 = x4) (e5 : w q 5 = 0) (e6 : w q 6 = j) (e7 : w q 7 = 0) (s20 : s (20 + p) = kn ar) (s29 : s (29 + p) = kn li) (s38 : s (38 + p) = kn st) (s47 : s (47 + p) = x3) (s56 : s (56 + p) = x4) (s65 : s (65 + p) = 0) (s74 : s (74 + p) = kmask li 0) (s83 : s (83 + p) = j) : pu_C w q s p :=
  ⟨ar, li, st, 0, ⟨har.1, har.2, by rw [e5]; exact Or.inl rfl⟩, hli, hst, Nat.zero_le _, ⟨e0, e1, e2, e7⟩, fun _ => rfl, fun h => by rw [e5] at h; exact absurd h (by decide), by rw [e6]; exact hj, ⟨s20, s29, s38, by rw [s47, e3], by rw [s56, e4], by rw [s65, e5], s74, by rw [s83, e6]⟩⟩
/-- a layer more -/
theorem pu_addL {L : Nat} {w w1 : k_M} {s s1 : Nat → Int32} (hD : pu_Dr L w s) (hL : L < 8) (hC : pu_C w1 (15 + L) s1 L) (h5 : w1 (15 + L) 5 = 0) (hw : ∀ c, c ≠ 0 → c ≠ 15 + L → w1 c = w c) (hw0 : ∀ i, i ≠ 10 → w1 0 i = w 0 i) (h10 : w1 0 10 = kn (L + 1)) (h8 : s1 8 = kn (L + 1)) (h65 : s1 (65 + L) = 0) (hs : ∀ j, j < 268 → j ≠ 8 → j ≠ 20 + L → j ≠ 29 + L → j ≠ 38 + L → j ≠ 47 + L → j ≠ 56 + L → j ≠ 65 + L → j ≠ 74 + L → j ≠ 83 + L → s1 j = s j) : pu_Dr (L + 1) w1 s1 := by
  obtain ⟨⟨⟨-, a10, b8⟩, ⟨hR, b9, hJ⟩, hCh, hlo, hF, hT, hWi, hS, hE⟩, h0, hz, h91⟩ := hD
  have h11 : w1 0 11 = w 0 11 := hw0 11 (by decide)
  have hn : pu_n (L + 1) w1 = pu_n L w + 1 := by
    unfold pu_n
    rw [h11]
    split <;> omega
  have hnr := pu_n_r (L := L) (w := w)
  have st0 : ∀ i, i < pu_n (L + 1) w1 → w1 (pu_q (L + 1) i) 5 = 0 := by
    intro i hi
    by_cases c : i < L
    · rw [pu_q_l (show i < L + 1 by omega), hw _ (by omega) (by omega)]
      have := h0 i (by omega)
      rw [pu_q_l c] at this
      exact this
    · by_cases c2 : i = L
      · subst c2
        rw [pu_q_l (show i < i + 1 by omega)]
        exact h5
      · rw [pu_q_n (show ¬ i < L + 1 by omega), hw 2 (by decide) (by omega)]
        have := h0 L (by omega)
        rw [pu_q_n (Nat.lt_irrefl L)] at this
        exact this
  refine ⟨⟨⟨by omega, h10, h8⟩, ⟨by rw [h11]; exact hR, by rw [hs 9 (by decide) (by omega) (by omega) (by omega) (by omega) (by omega) (by omega) (by omega) (by omega) (by omega), h11]; exact b9, by rw [hw 2 (by decide) (by omega)]; exact hJ⟩, fun i hi => ?_, ?_, ?_, ?_, ?_, ?_, ?_⟩, st0, fun p hp => ?_, ?_⟩
  · by_cases c : i < L
    · have := hCh i (by omega)
      rw [pu_q_l c, pu_p_l c] at this
      rw [pu_q_l (show i < L + 1 by omega), pu_p_l (show i < L + 1 by omega)]
      exact pu_C_congr this (hw _ (by omega) (by omega)) (fun d hd => hs _ (by omega) (by omega) (by omega) (by omega) (by omega) (by omega) (by omega) (by omega) (by omega) (by omega))
    · by_cases c2 : i = L
      · subst c2
        rw [pu_q_l (show i < i + 1 by omega), pu_p_l (show i < i + 1 by omega)]
        exact hC
      · have := hCh L (by omega)
        rw [pu_q_n (Nat.lt_irrefl L), pu_p_n (Nat.lt_irrefl L)] at this
        rw [pu_q_n (show ¬ i < L + 1 by omega), pu_p_n (show ¬ i < L + 1 by omega)]
        exact pu_C_congr this (hw _ (by omega) (by omega)) (fun d hd => hs _ (by omega) (by omega) (by omega) (by omega) (by omega) (by omega) (by omega) (by omega) (by omega) (by omega))
  · rw [pu_lost0 st0, hs 15 (by decide) (by omega) (by omega) (by omega) (by omega) (by omega) (by omega) (by omega) (by omega) (by omega), hlo, pu_lost0 h0]
  · exact pu_F_congr hF (fun i hi => hw0 i (by omega)) (fun j hj => hs j (by omega) (by omega) (by omega) (by omega) (by omega) (by omega) (by omega) (by omega) (by omega) (by omega))
  · exact pu_T_congr hT (by rw [hw 3 (by omega) (by omega)]) (fun i _ => by rw [hw _ (by omega) (by omega)]) (fun i _ => by rw [hw _ (by omega) (by omega)]) (hs 10 (by omega) (by omega) (by omega) (by omega) (by omega) (by omega) (by omega) (by omega) (by omega) (by omega)) (fun j h1 h2 => hs j (by omega) (by omega) (by omega) (by omega) (by omega) (by omega) (by omega) (by omega) (by omega) (by omega))
  · exact pu_T_congr hWi (by rw [hw 6 (by omega) (by omega)]) (fun i _ => by rw [hw _ (by omega) (by omega)]) (fun i _ => by rw [hw _ (by omega) (by omega)]) (hs 11 (by omega) (by omega) (by omega) (by omega) (by omega) (by omega) (by omega) (by omega) (by omega) (by omega)) (fun j h1 h2 => hs j (by omega) (by omega) (by omega) (by omega) (by omega) (by omega) (by omega) (by omega) (by omega) (by omega))
  · exact pu_S_congr hS (by rw [hw 9 (by omega) (by omega)]) (fun i _ => by rw [hw _ (by omega) (by omega)]) (fun i _ => by rw [hw _ (by omega) (by omega)]) (fun i _ => by rw [hw _ (by omega) (by omega)]) (hs 12 (by omega) (by omega) (by omega) (by omega) (by omega) (by omega) (by omega) (by omega) (by omega) (by omega)) (fun j h1 h2 => hs j (by omega) (by omega) (by omega) (by omega) (by omega) (by omega) (by omega) (by omega) (by omega) (by omega))
  · exact pu_E_congr hE (by rw [hw 13 (by omega) (by omega)]) (by rw [hw 13 (by omega) (by omega)]) (fun i _ => by rw [hw 14 (by omega) (by omega)]) (hs 16 (by omega) (by omega) (by omega) (by omega) (by omega) (by omega) (by omega) (by omega) (by omega) (by omega)) (fun j h1 h2 => hs j (by omega) (by omega) (by omega) (by omega) (by omega) (by omega) (by omega) (by omega) (by omega) (by omega))
  · by_cases c : p = L
    · rw [c]
      exact h65
    · rw [hs _ (by omega) (by omega) (by omega) (by omega) (by omega) (by omega) (by omega) (by omega) (by omega) (by omega)]
      exact hz p hp
  · rw [hs 91 (by omega) (by omega) (by omega) (by omega) (by omega) (by omega) (by omega) (by omega) (by omega) (by omega)]
    exact h91
/-- the reserve -/
theorem pu_addR {L : Nat} {w w1 : k_M} {s s1 : Nat → Int32} (hD : pu_Dr L w s) (hR0 : w 0 11 = 0) (hC : pu_C w1 2 s1 8) (h5 : w1 2 5 = 0) (hw : ∀ c, c ≠ 0 → c ≠ 2 → w1 c = w c) (hw0 : ∀ i, i ≠ 11 → w1 0 i = w 0 i) (h11 : w1 0 11 = 1) (h9 : s1 9 = 1) (hs : ∀ j, j < 268 → j ≠ 9 → j ≠ 28 → j ≠ 37 → j ≠ 46 → j ≠ 55 → j ≠ 64 → j ≠ 82 → s1 j = s j) : pu_Dr L w1 s1 := by
  obtain ⟨⟨⟨hL, a10, b8⟩, ⟨hR, b9, hJ⟩, hCh, hlo, hF, hT, hWi, hS, hE⟩, h0, hz, h91⟩ := hD
  have n0 : pu_n L w = L := if_pos hR0
  have hn : pu_n L w1 = L + 1 := pu_nR h11
  have st0 : ∀ i, i < pu_n L w1 → w1 (pu_q L i) 5 = 0 := by
    intro i hi
    by_cases c : i < L
    · rw [pu_q_l c, hw _ (by omega) (by omega)]
      have := h0 i (by omega)
      rw [pu_q_l c] at this
      exact this
    · rw [pu_q_n c]
      exact h5
  have h6 : w1 2 6 = 0 ∨ w1 2 6 = 1 := by
    obtain ⟨_, _, _, _, -, -, -, -, -, -, -, g8, -⟩ := hC
    exact g8
  refine ⟨⟨⟨hL, by rw [hw0 10 (by decide)]; exact a10, by rw [hs 8 (by omega) (by omega) (by omega) (by omega) (by omega) (by omega) (by omega) (by omega)]; exact b8⟩, ⟨Or.inr h11, by rw [h9, h11], h6⟩, fun i hi => ?_, ?_, ?_, ?_, ?_, ?_, ?_⟩, st0, fun p hp => by rw [hs _ (by omega) (by omega) (by omega) (by omega) (by omega) (by omega) (by omega) (by omega)]; exact hz p hp, by rw [hs 91 (by omega) (by omega) (by omega) (by omega) (by omega) (by omega) (by omega) (by omega)]; exact h91⟩
  · by_cases c : i < L
    · have := hCh i (by omega)
      rw [pu_q_l c, pu_p_l c] at this
      rw [pu_q_l c, pu_p_l c]
      exact pu_C_congr this (hw _ (by omega) (by omega)) (fun d hd => hs _ (by omega) (by omega) (by omega) (by omega) (by omega) (by omega) (by omega) (by omega))
    · rw [pu_q_n c, pu_p_n c]
      exact hC
  · rw [pu_lost0 st0, hs 15 (by omega) (by omega) (by omega) (by omega) (by omega) (by omega) (by omega) (by omega), hlo, pu_lost0 h0]
  · exact pu_F_congr hF (fun i hi => hw0 i (by omega)) (fun j hj => hs j (by omega) (by omega) (by omega) (by omega) (by omega) (by omega) (by omega) (by omega))
  · exact pu_T_congr hT (by rw [hw 3 (by omega) (by omega)]) (fun i _ => by rw [hw _ (by omega) (by omega)]) (fun i _ => by rw [hw _ (by omega) (by omega)]) (hs 10 (by omega) (by omega) (by omega) (by omega) (by omega) (by omega) (by omega) (by omega)) (fun j h1 h2 => hs j (by omega) (by omega) (by omega) (by omega) (by omega) (by omega) (by omega) (by omega))
  · exact pu_T_congr hWi (by rw [hw 6 (by omega) (by omega)]) (fun i _ => by rw [hw _ (by omega) (by omega)]) (fun i _ => by rw [hw _ (by omega) (by omega)]) (hs 11 (by omega) (by omega) (by omega) (by omega) (by omega) (by omega) (by omega) (by omega)) (fun j h1 h2 => hs j (by omega) (by omega) (by omega) (by omega) (by omega) (by omega) (by omega) (by omega))
  · exact pu_S_congr hS (by rw [hw 9 (by omega) (by omega)]) (fun i _ => by rw [hw _ (by omega) (by omega)]) (fun i _ => by rw [hw _ (by omega) (by omega)]) (fun i _ => by rw [hw _ (by omega) (by omega)]) (hs 12 (by omega) (by omega) (by omega) (by omega) (by omega) (by omega) (by omega) (by omega)) (fun j h1 h2 => hs j (by omega) (by omega) (by omega) (by omega) (by omega) (by omega) (by omega) (by omega))
  · exact pu_E_congr hE (by rw [hw 13 (by omega) (by omega)]) (by rw [hw 13 (by omega) (by omega)]) (fun i _ => by rw [hw 14 (by omega) (by omega)]) (hs 16 (by omega) (by omega) (by omega) (by omega) (by omega) (by omega) (by omega) (by omega)) (fun j h1 h2 => hs j (by omega) (by omega) (by omega) (by omega) (by omega) (by omega) (by omega) (by omega))

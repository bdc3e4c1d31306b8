/-! events: the class's ring, the reference's row that is shifted -/
theorem pu_rec {w : k_M} {e n : Nat} (he : e < 30) (hn : n ≤ 30) (h1 : w 13 1 = kn e) (h2 : w 13 2 = kn n) (t kd ch nm : Int32) : ∃ w', f_X1_keep w t kd ch nm = some w' ∧ (∀ c, c ≠ 13 → c ≠ 14 → w' c = w c) ∧ w' 13 1 = kn (if n = 30 then (e + 1) % 30 else e) ∧ w' 13 2 = kn (if n = 30 then 30 else n + 1) ∧ (∀ i, w' 14 i = if i = (e + n) % 30 * 4 + 3 then nm else if i = (e + n) % 30 * 4 + 2 then ch else if i = (e + n) % 30 * 4 + 1 then kd else if i = (e + n) % 30 * 4 then t else w 14 i) := by
  have hx : ((kn e + kn n) - (kn e + kn n) / 30 * 30) * 4 = kn ((e + n) % 30 * 4) := by
    rw [kn_add, kn_divl (by omega) (by omega), kn_mull, kn_sub (by omega), kn_mull]
    congr 1
    omega
  have hx1 : (kn e + 1) - (kn e + 1) / 30 * 30 = kn ((e + 1) % 30) := by
    rw [kn_addl, kn_divl (by omega) (by omega), kn_mull, kn_sub (by omega)]
    congr 1
    omega
  have ha : (e + n) % 30 < 30 := Nat.mod_lt _ (by omega)
  generalize (e + n) % 30 = a at hx ha ⊢
  unfold f_X1_keep
  rw [h1, h2, hx, k_lts, k_ckn (by omega) (by omega), k_lts, kn_nat (by omega), kn_addl, k_ckn (by omega) (by omega), k_lts, kn_nat (by omega), kn_addl, k_ckn (by omega) (by omega), k_lts, kn_nat (by omega), kn_addl, k_ckn (by omega) (by omega), k_lts, kn_nat (by omega)]
  rw [show (k_up (k_up (k_up (k_up w 14 (a * 4) t) 14 (a * 4 + 1) kd) 14 (a * 4 + 2) ch) 14 (a * 4 + 3) nm) 13 2 = kn n from h2, show (k_up (k_up (k_up (k_up w 14 (a * 4) t) 14 (a * 4 + 1) kd) 14 (a * 4 + 2) ch) 14 (a * 4 + 3) nm) 13 1 = kn e from h1]
  by_cases c : n = 30
  · subst c
    rw [if_pos (by rw [kn_lle (by omega) (by omega)]; omega), k_lts, hx1]
    refine ⟨_, rfl, fun c h3 h4 => ?_, ?_, ?_, fun i => ?_⟩
    · rw [k_upc _ _ h3, k_upc _ _ h4, k_upc _ _ h4, k_upc _ _ h4, k_upc _ _ h4]
    · rw [k_ups, if_pos rfl]
    · rw [if_pos rfl]
      exact h2
    · simp [k_upx]
  · rw [if_neg (by rw [kn_lle (by omega) (by omega)]; omega), k_lts, kn_addl]
    refine ⟨_, rfl, fun c h3 h4 => ?_, ?_, ?_, fun i => ?_⟩
    · rw [k_upc _ _ h3, k_upc _ _ h4, k_upc _ _ h4, k_upc _ _ h4, k_upc _ _ h4]
    · rw [if_neg c]
      exact h1
    · rw [k_ups, if_neg c]
    · simp [k_upx]
theorem pu_t60 {m : k_M} {n : Nat} (hn : n < 30) (h : m 1 16 = kn n) (a1 a2 a3 : Int32) : ∃ m', f_X11_tells_60 m a1 a2 a3 = some m' ∧ (∀ c, c ≠ 1 → m' c = m c) ∧ (∀ j, m' 1 j = if j = 16 then kn (n + 1) else if j = 148 + 4 * n + 3 then a3 else if j = 148 + 4 * n + 2 then a2 else if j = 148 + 4 * n + 1 then a1 else if j = 148 + 4 * n then m 1 6 else m 1 j) := by
  unfold f_X11_tells_60
  rw [h, kn_lmul, kn_ladd, k_lts, k_ckn (by omega) (by omega), k_lts, kn_nat (by omega), kn_addl, k_ckn (by omega) (by omega), k_lts, kn_nat (by omega), kn_addl, k_ckn (by omega) (by omega), k_lts, kn_nat (by omega), kn_addl, k_ckn (by omega) (by omega), k_lts, kn_nat (by omega)]
  have h16 : (k_up (k_up (k_up (k_up m 1 (148 + 4 * n) (m 1 6)) 1 (148 + 4 * n + 1) a1) 1 (148 + 4 * n + 2) a2) 1 (148 + 4 * n + 3) a3) 1 16 = kn n := by
    rw [k_upi _ _ (by omega), k_upi _ _ (by omega), k_upi _ _ (by omega), k_upi _ _ (by omega)]
    exact h
  rw [h16, kn_addl, k_lts]
  refine ⟨_, rfl, fun c h1 => ?_, fun j => ?_⟩
  · rw [k_upc _ _ h1, k_upc _ _ h1, k_upc _ _ h1, k_upc _ _ h1, k_upc _ _ h1]
  · simp [k_upx]
theorem pu_t17 (a1 a2 a3 : Int32) : ∀ (k i f : Nat) (m : k_M), 148 ≤ i → i + k = 264 → k < f → ∃ m', f_X11_tells_17 f m a1 a2 a3 (kn i) = f_X11_tells_60 (k_up m' 1 16 (m' 1 16 - 1)) a1 a2 a3 ∧ (∀ c, c ≠ 1 → m' c = m c) ∧ (∀ j, m' 1 j = if i ≤ j ∧ j < 264 then m 1 (j + 4) else m 1 j) := by
  intro k
  induction k with
  | zero =>
    intro i f m h0 hi hf
    obtain ⟨f, rfl⟩ : ∃ n9, f = n9 + 1 := ⟨f - 1, by omega⟩
    refine ⟨m, ?_, fun _ _ => rfl, fun j => ?_⟩
    · show f_X11_tells_17_b _ m a1 a2 a3 (kn i) = _
      unfold f_X11_tells_17_b
      rw [kn_addl, if_pos (by rw [kn_lle (by omega) (by omega)]; omega), k_lts]
    · rw [if_neg (by omega)]
  | succ k ih =>
    intro i f m h0 hi hf
    obtain ⟨f, rfl⟩ : ∃ n9, f = n9 + 1 := ⟨f - 1, by omega⟩
    obtain ⟨m', e1, e2, e3⟩ := ih (i + 1) f (k_up m 1 i (m 1 (i + 4))) (by omega) (by omega) (by omega)
    refine ⟨m', ?_, fun c hc => ?_, fun j => ?_⟩
    · show f_X11_tells_17_b _ m a1 a2 a3 (kn i) = _
      unfold f_X11_tells_17_b
      rw [kn_addl, if_neg (by rw [kn_lle (by omega) (by omega)]; omega), k_ckn (by omega) (by omega), k_ckn (by omega) (by omega), kn_nat (by omega), kn_nat (by omega), k_lts, kn_addl, k_lts]
      exact e1
    · rw [e2 c hc, k_upc _ _ hc]
    · rw [e3]
      by_cases c1 : i + 1 ≤ j ∧ j < 264
      · rw [if_pos c1, if_pos (by omega), k_upi _ _ (by omega)]
      · rw [if_neg c1]
        by_cases c2 : j = i
        · subst c2
          rw [k_ups, if_pos (by omega)]
        · rw [k_upi _ _ c2, if_neg (by omega)]
set_option maxHeartbeats 4000000 in
theorem pu_tells {w m : k_M} (hE : pu_E w (m 1)) (h6 : m 1 6 = w 0 6) (kd ch nm : Int32) : ∃ w' m', f_X1_keep w (w 0 6) kd ch nm = some w' ∧ f_X11_tells m kd ch nm = some m' ∧ (∀ c, c ≠ 13 → c ≠ 14 → w' c = w c) ∧ (∀ c, c ≠ 1 → m' c = m c) ∧ (∀ j, j < 148 → j ≠ 16 → m' 1 j = m 1 j) ∧ pu_E w' (m' 1) := by
  obtain ⟨e, n, he, hn, h1, h2, h16, hev⟩ := hE
  obtain ⟨w', r1, r2, r3, r4, r5⟩ := pu_rec he hn h1 h2 (w 0 6) kd ch nm
  unfold f_X11_tells
  rw [h16]
  simp (disch := omega) only [kn_eql]
  by_cases c : n = 30
  · subst c
    rw [if_pos rfl]
    rw [if_pos rfl] at r3 r4
    obtain ⟨m1, t1, t2, t3⟩ := pu_t17 kd ch nm 116 148 k_N m (by omega) (by omega) (by unfold k_N; omega)
    have g16 : (k_up m1 1 16 (m1 1 16 - 1)) 1 16 = kn 29 := by
      rw [k_ups, t3, if_neg (by omega), h16, kn_subl (by omega)]
    obtain ⟨m', u1, u2, u3⟩ := pu_t60 (by omega) g16 kd ch nm
    refine ⟨w', m', r1, ?_, r2, fun c hc => ?_, fun j hj hj2 => ?_, (e + 1) % 30, 30, Nat.mod_lt _ (by omega), by omega, r3, r4, ?_, fun i hi j hj => ?_⟩
    · rw [show (148 : Int32) = kn 148 from rfl, t1]
      exact u1
    · rw [u2 c hc, k_upc _ _ hc, t2 c hc]
    · rw [u3, if_neg hj2, if_neg (by omega), if_neg (by omega), if_neg (by omega), if_neg (by omega), k_upi _ _ hj2, t3, if_neg (by omega)]
    · rw [u3, if_pos rfl]
    · have s6 : (k_up m1 1 16 (m1 1 16 - 1)) 1 6 = w 0 6 := by
        rw [k_upi _ _ (by omega), t3, if_neg (by omega), h6]
      rw [u3, s6, r5, if_neg (show ¬ 148 + 4 * i + j = 16 by omega)]
      by_cases ci : i = 29
      · subst ci
        rcases (show j = 0 ∨ j = 1 ∨ j = 2 ∨ j = 3 by omega) with rfl | rfl | rfl | rfl
        · rw [if_neg (by omega), if_neg (by omega), if_neg (by omega), if_pos (by omega), if_neg (by omega), if_neg (by omega), if_neg (by omega), if_pos (by omega)]
        · rw [if_neg (by omega), if_neg (by omega), if_pos (by omega), if_neg (by omega), if_neg (by omega), if_pos (by omega)]
        · rw [if_neg (by omega), if_pos (by omega), if_neg (by omega), if_pos (by omega)]
        · rw [if_pos (by omega), if_pos (by omega)]
      · rw [if_neg (by omega), if_neg (by omega), if_neg (by omega), if_neg (by omega), k_upi _ _ (by omega), t3, if_pos (by omega), if_neg (by omega), if_neg (by omega), if_neg (by omega), if_neg (by omega)]
        have := hev (i + 1) (by omega) j hj
        have e9 : (e + (i + 1)) % 30 * 4 + j = ((e + 1) % 30 + i) % 30 * 4 + j := by omega
        rw [show 148 + 4 * i + j + 4 = 148 + 4 * (i + 1) + j by omega, this, e9]
  · rw [if_neg c]
    rw [if_neg c] at r3 r4
    obtain ⟨m', u1, u2, u3⟩ := pu_t60 (show n < 30 by omega) h16 kd ch nm
    refine ⟨w', m', r1, u1, r2, u2, fun j hj hj2 => ?_, e, n + 1, he, by omega, r3, r4, ?_, fun i hi j hj => ?_⟩
    · rw [u3, if_neg hj2, if_neg (by omega), if_neg (by omega), if_neg (by omega), if_neg (by omega)]
    · rw [u3, if_pos rfl]
    · rw [u3, h6, r5, if_neg (show ¬ 148 + 4 * i + j = 16 by omega)]
      by_cases ci : i = n
      · subst ci
        rcases (show j = 0 ∨ j = 1 ∨ j = 2 ∨ j = 3 by omega) with rfl | rfl | rfl | rfl
        · rw [if_neg (by omega), if_neg (by omega), if_neg (by omega), if_pos (by omega), if_neg (by omega), if_neg (by omega), if_neg (by omega), if_pos (by omega)]
        · rw [if_neg (by omega), if_neg (by omega), if_pos (by omega), if_neg (by omega), if_neg (by omega), if_pos (by omega)]
        · rw [if_neg (by omega), if_pos (by omega), if_neg (by omega), if_pos (by omega)]
        · rw [if_pos (by omega), if_pos (by omega)]
      · rw [if_neg (by omega), if_neg (by omega), if_neg (by omega), if_neg (by omega), if_neg (by omega), if_neg (by omega), if_neg (by omega), if_neg (by omega)]
        exact hev i (by omega) j hj

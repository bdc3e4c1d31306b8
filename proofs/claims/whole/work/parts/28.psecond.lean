/-! a second -/
def pu_pv (ar a v : Nat) : Nat := ar * a * v * v / 10000
theorem pu_pv_b {ar a v : Nat} (h1 : ar ≤ 99) (h2 : a ≤ 100) (h3 : v ≤ 900) : ar * a * v * v ≤ 99 * 100 * 900 * 900 := Nat.mul_le_mul (Nat.mul_le_mul (Nat.mul_le_mul h1 h2) h3) h3
theorem pu_pv_r {ar a v : Nat} (h1 : ar ≤ 99) (h2 : a ≤ 100) (h3 : v ≤ 900) : pu_pv ar a v ≤ 801900 := by
  have := pu_pv_b h1 h2 h3
  unfold pu_pv
  omega
theorem pu_pull0 {ar a v : Nat} (h1 : ar ≤ 99) (h2 : a ≤ 100) (h3 : v ≤ 900) : ((((kn ar).toInt64 * (kn a).toInt64) * (kn v).toInt64) * (kn v).toInt64) / (10000 : Int64) = ln (pu_pv ar a v) := by
  have := pu_pv_b h1 h2 h3
  rw [kn_ln (by omega), kn_ln (by omega), kn_ln (by omega), ln_mul, ln_mul, ln_mul, show (10000 : Int64) = ln 10000 from rfl, ln_div (by omega) (by omega) (by omega)]
  rfl
theorem pu_air0 {h : Nat} (hh : h ≤ 30000) : (100 : Int32) - kn h / 400 = kn (100 - h / 400) := by
  rw [kn_divl (by omega) (by omega)]
  exact kn_sub (a := 100) (by omega)
theorem pu_pull_m {L i : Nat} {w m : k_M} (hW : pu_W L w (m 1)) (hi : i < pu_n L w) {h v : Nat} (hh : h ≤ 30000) (hv : v ≤ 900) (w0 : w 0 0 = kn h) (w1 : w 0 1 = kn v) : ∃ B : Nat, B ≤ 801900 ∧ f_X11_pull m (kn (pu_p L i)) = some (ln B) ∧ f_X0_pull w (pu_q L i) (kn (100 - h / 400)) (w 0 1) = some (ln B) := by
  have hp := pu_p_r (i := i) hW.1.1
  obtain ⟨ar, li, st, t, g1, -, -, -, ⟨a0, -, -, -⟩, -, -, -, ⟨b0, -, -, -, -, -, -, -⟩⟩ := hW.2.2.1 i hi
  obtain ⟨r0, r1⟩ := pu_rel01 hW
  refine ⟨pu_pv ar (100 - h / 400) v, pu_pv_r g1.2.1 (by omega) hv, ?_, ?_⟩
  · unfold f_X11_pull f_X11_air
    rw [kn_ladd, k_ckn (by omega) (by omega), kn_nat (by omega), r0, w0, pu_air0 hh, k_bds, b0, r1, w1, pu_pull0 g1.2.1 (by omega) hv]
  · unfold f_X0_pull
    rw [a0, w1, pu_pull0 g1.2.1 (by omega) hv]
/-- the flag: whether one of the first i chutes is open -/
def pu_fl (L i : Nat) (w : k_M) (o : Int32) : Prop := (o = 0 ∧ ∀ j, j < i → ¬ w (pu_q L j) 5 = 1) ∨ (o = 1 ∧ ∃ j, j < i ∧ w (pu_q L j) 5 = 1)
theorem pu_there1 {L i : Nat} {w m : k_M} (hW : pu_W L w (m 1)) (hi : i < pu_n L w) : f_X11_isThere m (kn (pu_p L i)) = some 1 := by
  have hL : L ≤ 8 := hW.1.1
  have hp := pu_p_r (i := i) hL
  rw [pu_there hL hW.1.2.2 hW.2.1.2.1 hW.2.1.1 (by omega), if_pos]
  by_cases c : i < L
  · rw [pu_p_l c]
    exact Or.inl c
  · refine Or.inr ⟨pu_p_n c, ?_⟩
    rcases hW.2.1.1 with h | h
    · unfold pu_n at hi
      rw [if_pos h] at hi
      exact absurd hi c
    · exact h
theorem pu_step {L i : Nat} {w m : k_M} (hW : pu_W L w (m 1)) (hi : i < pu_n L w) {h v B : Nat} (hh : h ≤ 30000) (hv : v ≤ 900) (w0 : w 0 0 = kn h) (w1 : w 0 1 = kn v) {o : Int32} (hfl : pu_fl L i w o) : ∃ w' m' B' o', (∀ n : Nat, f_X9_tearAndBrake_32 (n + 1) w (kn (100 - h / 400)) (ln B) (kn (pu_n L w)) (kn i) = f_X9_tearAndBrake_32 n w' (kn (100 - h / 400)) (ln B') (kn (pu_n L w)) (kn (i + 1))) ∧ (∀ n : Nat, f_X11_second_54 (n + 1) m (kn (100 - h / 400)) (ln B) o (kn (pu_p L i)) = f_X11_second_54 n m' (kn (100 - h / 400)) (ln B') o' (kn (pu_p L i + 1))) ∧ pu_W L w' (m' 1) ∧ (∀ c, c ≠ 1 → m' c = m c) ∧ w' 0 = w 0 ∧ B' ≤ B + 801900 ∧ pu_fl L (i + 1) w' o' ∧ pu_kp w w' := by
  have hL : L ≤ 8 := hW.1.1
  have hp := pu_p_r (i := i) hL
  have hq := pu_q_r (i := i) hL
  have hnr := pu_n_r (L := L) (w := w)
  have hat := pu_at (i := i) hL hW.1.2.1 (by omega)
  have hth := pu_there1 hW hi
  obtain ⟨-, -, s65⟩ := pu_C_rows (hW.2.2.1 i hi)
  obtain ⟨P, hP, p1, p2⟩ := pu_pull_m hW hi hh hv w0 w1
  have hc : ∀ n : Nat, f_X9_tearAndBrake_32 (n + 1) w (kn (100 - h / 400)) (ln B) (kn (pu_n L w)) (kn i) = (if w (pu_q L i) 5 = 1 then k_bd (f_X0_pull w (pu_q L i) (kn (100 - h / 400)) (w 0 1)) fun r63 => k_bd (f_X0_linesThatTear w (pu_q L i) r63 (w 0 5) (w 0 4)) fun r80 => (if r80 ≤ 0 then f_X9_tearAndBrake_100 (f_X9_tearAndBrake_32 n) w (kn (100 - h / 400)) (ln B) (kn (pu_n L w)) (kn i) (pu_q L i) r63 else k_bd (f_X9_tear w (pu_q L i) (kn i) r80) fun r97 => f_X9_tearAndBrake_100 (f_X9_tearAndBrake_32 n) r97 (kn (100 - h / 400)) (ln B) (kn (pu_n L w)) (kn i) (pu_q L i) r63) else f_X9_tearAndBrake_118 (f_X9_tearAndBrake_32 n) w (kn (100 - h / 400)) (ln B) (kn (pu_n L w)) (kn i)) := by
    intro n
    show f_X9_tearAndBrake_32_b _ w _ _ (kn (pu_n L w)) (kn i) = _
    unfold f_X9_tearAndBrake_32_b
    rw [if_neg (by rw [kn_le (by omega) (by omega)]; omega), hat, k_bds, k_ckp hq]
  have hm : ∀ n : Nat, f_X11_second_54 (n + 1) m (kn (100 - h / 400)) (ln B) o (kn (pu_p L i)) = (if w (pu_q L i) 5 = 1 then k_bd (f_X11_tears m (kn (pu_p L i))) fun r87 => f_X11_second_90 (f_X11_second_54 n) r87 (kn (100 - h / 400)) (ln B) o (kn (pu_p L i)) else f_X11_second_90 (f_X11_second_54 n) m (kn (100 - h / 400)) (ln B) o (kn (pu_p L i))) := by
    intro n
    show f_X11_second_54_b _ m _ _ o (kn (pu_p L i)) = _
    unfold f_X11_second_54_b
    rw [if_neg (by rw [kn_lle (by omega) (by omega)]; omega), hth, k_bds, if_neg (show ¬ (1 : Int32) = 0 by decide), kn_ladd, k_ckn (by omega) (by omega), kn_nat (by omega), s65]
  by_cases ho : w (pu_q L i) 5 = 1
  · obtain ⟨r, w', m', t1, t2, t3, t4, t5, t6, t7, t8⟩ := pu_tears hW hi ho p1
    have hi' : i < pu_n L w' := by rw [pu_n_congr (show w' 0 11 = w 0 11 by rw [t6])]; exact hi
    obtain ⟨-, -, s65'⟩ := pu_C_rows (t4.2.2.1 i hi')
    have w0' : w' 0 0 = kn h := by rw [t6]; exact w0
    have w1' : w' 0 1 = kn v := by rw [t6]; exact w1
    obtain ⟨P', hP', p1', p2'⟩ := pu_pull_m t4 hi' hh hv w0' w1'
    have hPP : P' = P := by
      have e1 : f_X0_pull w' (pu_q L i) (kn (100 - h / 400)) (w' 0 1) = f_X0_pull w (pu_q L i) (kn (100 - h / 400)) (w 0 1) := by
        unfold f_X0_pull
        rw [t8, t6]
      rw [p2', p2] at e1
      have e2 := congrArg Int64.toInt (Option.some.inj e1)
      rw [ln_int (by omega), ln_int (by omega)] at e2
      omega
    subst hPP
    have hfl' : ∀ j, j < i → w' (pu_q L j) 5 = w (pu_q L j) 5 := fun j hj => by
      have hqj := pu_q_r (i := j) hL
      rw [t7 _ (fun h9 => absurd (pu_q_inj hL (by omega) (by omega) h9) (by omega)) (by omega) (by omega)]
    have hc2 : ∀ n : Nat, f_X9_tearAndBrake_32 (n + 1) w (kn (100 - h / 400)) (ln B) (kn (pu_n L w)) (kn i) = f_X9_tearAndBrake_100 (f_X9_tearAndBrake_32 n) w' (kn (100 - h / 400)) (ln B) (kn (pu_n L w)) (kn i) (pu_q L i) (ln P') := by
      intro n
      rw [hc n, if_pos ho, p2, k_bds, t1, k_bds]
      by_cases c : r ≤ 0
      · rw [if_pos c] at t2
        rw [if_pos c, Option.some.inj t2]
      · rw [if_neg c] at t2
        rw [if_neg c, t2, k_bds]
    have hm2 : ∀ n : Nat, f_X11_second_54 (n + 1) m (kn (100 - h / 400)) (ln B) o (kn (pu_p L i)) = f_X11_second_90 (f_X11_second_54 n) m' (kn (100 - h / 400)) (ln B) o (kn (pu_p L i)) := by
      intro n
      rw [hm n, if_pos ho, t3, k_bds]
    by_cases ho' : w' (pu_q L i) 5 = 1
    · refine ⟨w', m', B + P', 1, fun n => ?_, fun n => ?_, t4, t5, t6, by omega, Or.inr ⟨rfl, i, by omega, ho'⟩, fun c a b => t7 c (by omega) (by omega) (by omega)⟩
      · rw [hc2 n]
        unfold f_X9_tearAndBrake_100 f_X9_tearAndBrake_116 f_X9_tearAndBrake_118
        rw [if_pos ho', k_lts, k_lts, kn_addl]
        congr 1
        exact (Int64.ofNat_add B P').symm
      · rw [hm2 n]
        unfold f_X11_second_90 f_X11_second_125
        rw [pu_there1 t4 hi', k_bds, if_neg (show ¬ (1 : Int32) = 0 by decide), kn_ladd, k_ckn (by omega) (by omega), kn_nat (by omega), s65', if_pos ho', p1', k_bds, k_lts, k_lts, kn_addl]
        congr 1
        exact (Int64.ofNat_add B P').symm
    · refine ⟨w', m', B, o, fun n => ?_, fun n => ?_, t4, t5, t6, by omega, ?_, fun c a b => t7 c (by omega) (by omega) (by omega)⟩
      · rw [hc2 n]
        unfold f_X9_tearAndBrake_100 f_X9_tearAndBrake_116 f_X9_tearAndBrake_118
        rw [if_neg ho', k_lts, k_lts, kn_addl, Int64.add_zero]
      · rw [hm2 n]
        unfold f_X11_second_90 f_X11_second_125
        rw [pu_there1 t4 hi', k_bds, if_neg (show ¬ (1 : Int32) = 0 by decide), kn_ladd, k_ckn (by omega) (by omega), kn_nat (by omega), s65', if_neg ho', k_lts, kn_addl]
      · rcases hfl with ⟨f1, f2⟩ | ⟨f1, j, f2, f3⟩
        · refine Or.inl ⟨f1, fun j hj => ?_⟩
          by_cases hji : j = i
          · subst hji
            exact ho'
          · rw [hfl' j (by omega)]
            exact f2 j (by omega)
        · exact Or.inr ⟨f1, j, by omega, by rw [hfl' j f2]; exact f3⟩
  · refine ⟨w, m, B, o, fun n => ?_, fun n => ?_, hW, fun _ _ => rfl, rfl, by omega, ?_, fun _ _ _ => rfl⟩
    · rw [hc n, if_neg ho]
      unfold f_X9_tearAndBrake_118
      rw [k_lts, kn_addl]
    · rw [hm n, if_neg ho]
      unfold f_X11_second_90 f_X11_second_125
      rw [hth, k_bds, if_neg (show ¬ (1 : Int32) = 0 by decide), kn_ladd, k_ckn (by omega) (by omega), kn_nat (by omega), s65, if_neg ho, k_lts, kn_addl]
    · rcases hfl with ⟨f1, f2⟩ | ⟨f1, j, f2, f3⟩
      · refine Or.inl ⟨f1, fun j hj => ?_⟩
        by_cases hji : j = i
        · subst hji
          exact ho
        · exact f2 j (by omega)
      · exact Or.inr ⟨f1, j, by omega, f3⟩
/-- the layers, one after the other -/
theorem pu_layers {L h v : Nat} (hh : h ≤ 30000) (hv : v ≤ 900) : ∀ (k i : Nat) (w m : k_M) (B : Nat) (o : Int32), i + k = L → pu_W L w (m 1) → w 0 0 = kn h → w 0 1 = kn v → pu_fl L i w o → ∃ w' m' B' o', (∀ n : Nat, f_X9_tearAndBrake_32 (n + k) w (kn (100 - h / 400)) (ln B) (kn (pu_n L w)) (kn i) = f_X9_tearAndBrake_32 n w' (kn (100 - h / 400)) (ln B') (kn (pu_n L w)) (kn L)) ∧ (∀ n : Nat, f_X11_second_54 (n + k) m (kn (100 - h / 400)) (ln B) o (kn i) = f_X11_second_54 n m' (kn (100 - h / 400)) (ln B') o' (kn L)) ∧ pu_W L w' (m' 1) ∧ (∀ c, c ≠ 1 → m' c = m c) ∧ w' 0 = w 0 ∧ B' ≤ B + k * 801900 ∧ pu_fl L L w' o' ∧ pu_kp w w' := by
  intro k
  induction k with
  | zero =>
    intro i w m B o hi hW w0 w1 hfl
    have e : i = L := by omega
    subst e
    exact ⟨w, m, B, o, fun _ => rfl, fun _ => rfl, hW, fun _ _ => rfl, rfl, by omega, hfl, fun _ _ _ => rfl⟩
  | succ k ih =>
    intro i w m B o hi hW w0 w1 hfl
    have hiL : i < L := by omega
    obtain ⟨w1', m1, B1, o1, a1, a2, a3, a4, a5, a6, a7, a8⟩ := pu_step hW (pu_n_L hiL) (B := B) hh hv w0 w1 hfl
    rw [pu_p_l hiL] at a2
    obtain ⟨w', m', B', o', b1, b2, b3, b4, b5, b6, b7, b8⟩ := ih (i + 1) w1' m1 B1 o1 (by omega) a3 (by rw [a5]; exact w0) (by rw [a5]; exact w1) a7
    rw [pu_n_congr (show w1' 0 11 = w 0 11 by rw [a5])] at b1
    refine ⟨w', m', B', o', fun n => ?_, fun n => ?_, b3, fun c hc => by rw [b4 c hc, a4 c hc], by rw [b5, a5], by omega, b7, fun c x y => (b8 c x y).trans (a8 c x y)⟩
    · rw [show n + (k + 1) = (n + k) + 1 by omega, a1, b1]
    · rw [show n + (k + 1) = (n + k) + 1 by omega, a2, b2]
/-- places between the layers and the reserve -/
theorem pu_skip {L : Nat} {w m : k_M} (hW : pu_W L w (m 1)) (a : Int32) (b : Int64) (o : Int32) : ∀ (k i n : Nat), i + k = 8 → L ≤ i → f_X11_second_54 (n + k) m a b o (kn i) = f_X11_second_54 n m a b o (kn 8) := by
  intro k
  induction k with
  | zero =>
    intro i n hi _
    rw [show i = 8 by omega]
    rfl
  | succ k ih =>
    intro i n hi hLi
    have hth := pu_there (p := i) hW.1.1 hW.1.2.2 hW.2.1.2.1 hW.2.1.1 (by omega)
    rw [if_neg (by omega)] at hth
    rw [show n + (k + 1) = (n + k) + 1 by omega]
    show f_X11_second_54_b _ m a b o (kn i) = _
    unfold f_X11_second_54_b f_X11_second_90 f_X11_second_125
    rw [if_neg (by rw [kn_lle (by omega) (by omega)]; omega), hth, k_bds, if_pos rfl, k_bds, if_pos rfl, k_lts, kn_addl]
    exact ih (i + 1) n (by omega) (by omega)
theorem pu_brakeAll {L h v : Nat} {w m : k_M} (hh : h ≤ 30000) (hv : v ≤ 900) (hW : pu_W L w (m 1)) (w0 : w 0 0 = kn h) (w1 : w 0 1 = kn v) : ∃ w' m' B o, f_X9_tearAndBrake w (kn (100 - h / 400)) = some (w', ln B) ∧ (∃ n : Nat, f_X11_second_21 m (kn (100 - h / 400)) = f_X11_second_54_b (f_X11_second_54 n) m' (kn (100 - h / 400)) (ln B) o (kn 9)) ∧ pu_W L w' (m' 1) ∧ (∀ c, c ≠ 1 → m' c = m c) ∧ w' 0 = w 0 ∧ B ≤ 9000000 ∧ pu_fl L (pu_n L w') w' o ∧ pu_kp w w' := by
  have hL : L ≤ 8 := hW.1.1
  obtain ⟨-, r1⟩ := pu_rel01 hW
  have hb : (((((2 : Int64) * (kn (100 - h / 400)).toInt64) * (kn v).toInt64) * (kn v).toInt64) / (10000 : Int64)) = ln (pu_pv 2 (100 - h / 400) v) := by
    rw [show (2 : Int64) = (kn 2).toInt64 by rw [kn_ln (by omega)]; rfl]
    exact pu_pull0 (by omega) (by omega) hv
  have hB0 : pu_pv 2 (100 - h / 400) v ≤ 801900 := pu_pv_r (by omega) (by omega) hv
  unfold f_X9_tearAndBrake f_X11_second_21
  rw [r1, w1, hb, k_lts, k_lts, pu_count hW.1.2.1, k_bds]
  obtain ⟨w', m', B', o', a1, a2, a3, a4, a5, a6, a7, a8⟩ := pu_layers hh hv L 0 w m (pu_pv 2 (100 - h / 400) v) 0 (by omega) hW w0 w1 (Or.inl ⟨rfl, fun j hj => by omega⟩)
  have hn' : pu_n L w' = pu_n L w := pu_n_congr (by rw [a5])
  have e1 := a1 (4000 - L)
  have e2 := a2 (4000 - L)
  rw [show 4000 - L + L = 4000 by omega] at e1 e2
  have e1' : f_X9_tearAndBrake_32 k_N w (kn (100 - h / 400)) (ln (pu_pv 2 (100 - h / 400) v)) (kn (pu_n L w)) 0 = f_X9_tearAndBrake_32 (4000 - L) w' (kn (100 - h / 400)) (ln B') (kn (pu_n L w)) (kn L) := e1
  have e2' : f_X11_second_54 k_N m (kn (100 - h / 400)) (ln (pu_pv 2 (100 - h / 400) v)) 0 0 = f_X11_second_54 (4000 - L) m' (kn (100 - h / 400)) (ln B') o' (kn L) := e2
  have e3 := pu_skip a3 (kn (100 - h / 400)) (ln B') o' (8 - L) L 3992 (by omega) (Nat.le_refl _)
  rw [show 3992 + (8 - L) = 4000 - L by omega] at e3
  rw [e1', e2', e3]
  have hfin : ∀ (n : Nat) (w2 : k_M) (b : Int64), f_X9_tearAndBrake_32 (n + 1) w2 (kn (100 - h / 400)) b (kn (pu_n L w)) (kn (pu_n L w)) = some (w2, b) := by
    intro n w2 b
    have hnr := pu_n_r (L := L) (w := w)
    show f_X9_tearAndBrake_32_b _ w2 _ b _ _ = _
    unfold f_X9_tearAndBrake_32_b
    rw [if_pos (by rw [kn_le (by omega) (by omega)]; omega)]
  rcases hW.2.1.1 with hR | hR
  · have hn : pu_n L w = L := by unfold pu_n; rw [if_pos hR]
    refine ⟨w', m', B', o', ?_, ⟨3990, ?_⟩, a3, a4, a5, by omega, by rw [hn', hn]; exact a7, a8⟩
    · have := hfin (3999 - L) w' (ln B')
      rw [show 3999 - L + 1 = 4000 - L by omega] at this
      rw [hn] at this ⊢
      exact this
    · have hth := pu_there (p := 8) a3.1.1 a3.1.2.2 a3.2.1.2.1 a3.2.1.1 (by omega)
      have hR' : w' 0 11 = 0 := by rw [a5]; exact hR
      rw [if_neg (by rintro (h | ⟨-, h⟩); omega; rw [hR'] at h; exact absurd h (by decide))] at hth
      show f_X11_second_54_b (f_X11_second_54 3991) m' (kn (100 - h / 400)) (ln B') o' (kn 8) = _
      rw [show f_X11_second_54_b (f_X11_second_54 3991) m' (kn (100 - h / 400)) (ln B') o' (kn 8) = f_X11_second_54 3991 m' (kn (100 - h / 400)) (ln B') o' (kn 9) by
        unfold f_X11_second_54_b f_X11_second_90 f_X11_second_125
        rw [if_neg (by rw [kn_lle (by omega) (by omega)]; omega), hth, k_bds, if_pos rfl, k_bds, if_pos rfl, k_lts, kn_addl]]
      rfl
  · have hn := pu_nR (L := L) hR
    have hR' : w' 0 11 = 1 := by rw [a5]; exact hR
    obtain ⟨w2, m2, B2, o2, b1, b2, b3, b4, b5, b6, b7, b8⟩ := pu_step a3 (i := L) (by rw [hn', hn]; omega) (B := B') hh hv (by rw [a5]; exact w0) (by rw [a5]; exact w1) a7
    rw [pu_p_n (Nat.lt_irrefl L)] at b2
    have hn2 : pu_n L w2 = L + 1 := by rw [pu_n_congr (show w2 0 11 = w' 0 11 by rw [b5]), hn', hn]
    refine ⟨w2, m2, B2, o2, ?_, ⟨3990, ?_⟩, b3, fun c hc => by rw [b4 c hc, a4 c hc], by rw [b5, a5], by omega, by rw [hn2]; exact b7, fun c x y => (b8 c x y).trans (a8 c x y)⟩
    · have e5 := b1 (3999 - L)
      rw [show 3999 - L + 1 = 4000 - L by omega, hn'] at e5
      rw [e5, hn]
      have := hfin (3998 - L) w2 (ln B2)
      rw [show 3998 - L + 1 = 3999 - L by omega, hn] at this
      exact this
    · have e5 := b2 3991
      rw [show 3991 + 1 = 3992 from rfl] at e5
      rw [e5]
      rfl

/-! which lines tear -/
def ln (n : Nat) : Int64 := Int64.ofNat n
theorem ln_int {n : Nat} (h : n < 9223372036854775808) : (ln n).toInt = (n : Int) := Int64.toInt_ofNat_of_lt h
theorem ln_mul (a b : Nat) : ln a * ln b = ln (a * b) := (Int64.ofNat_mul a b).symm
theorem ln_le {a b : Nat} (ha : a < 9223372036854775808) (hb : b < 9223372036854775808) : (ln a ≤ ln b) = (a ≤ b) := by
  rw [Int64.le_iff_toInt_le, ln_int ha, ln_int hb]
  exact propext (by omega)
theorem ln_div {a b : Nat} (ha : a < 9223372036854775808) (hb : b < 9223372036854775808) (h0 : 0 < b) : ln a / ln b = ln (a / b) := by
  have hq : a / b < 9223372036854775808 := Nat.lt_of_le_of_lt (Nat.div_le_self a b) ha
  refine Int64.toInt_inj.mp ?_
  rw [ln_int hq, Int64.toInt_div_of_ne_right, ln_int ha, ln_int hb]
  · rfl
  · intro h
    have := congrArg Int64.toInt h
    rw [ln_int hb] at this
    have h1 : (-1 : Int64).toInt = -1 := rfl
    rw [h1] at this
    omega
theorem kn_ln {n : Nat} (h : n < 2147483648) : (kn n).toInt64 = ln n := Int32.toInt64_ofNat' (by
  have : Int32.maxValue.toInt = 2147483647 := rfl
  rw [this]
  omega)
theorem ln_ne0 {n : Nat} (h : n < 2147483648) (h0 : 0 < n) : ¬ ln n = 0 := by
  intro e
  have := congrArg Int64.toInt e
  rw [ln_int (by omega)] at this
  have h1 : (0 : Int64).toInt = 0 := rfl
  rw [h1] at this
  omega
/-- the strength of line j at heat he -/
def pu_st (st he j : Nat) : Int64 := ln ((st + 3 * j) * (1000 - he) / 1000)
theorem pu_st_b {st he j : Nat} (hst : st ≤ 9999) (hj : j ≤ 12) : (st + 3 * j) * (1000 - he) ≤ 10035 * 1000 := Nat.mul_le_mul (by omega) (by omega)
theorem pu_st_c {st he j : Nat} (hst : st ≤ 9999) (hhe : he ≤ 999) (hj : j ≤ 12) : (((kn st + 3 * kn j) * (1000 - kn he)) / 1000).toInt64 = pu_st st he j := by
  have hb := pu_st_b (he := he) hst hj
  have e1 : (1000 : Int32) - kn he = kn (1000 - he) := kn_sub (a := 1000) (by omega)
  rw [kn_lmul, kn_add, e1, kn_mul, kn_divl (by omega) (by omega), kn_ln (by omega)]
  rfl
theorem pu_st_m {st he j : Nat} (hst : st ≤ 9999) (hhe : he ≤ 999) (hj : j ≤ 12) : ((kn st + 3 * kn j).toInt64 * (1000 - kn he).toInt64) / (1000 : Int64) = pu_st st he j := by
  have hb := pu_st_b (he := he) hst hj
  have e1 : (1000 : Int32) - kn he = kn (1000 - he) := kn_sub (a := 1000) (by omega)
  rw [kn_lmul, kn_add, e1, kn_ln (by omega), kn_ln (by omega), ln_mul, show (1000 : Int64) = ln 1000 from rfl, ln_div (by omega) (by omega) (by omega)]
  rfl
/-- whether line j tears under a load -/
def pu_tr (st he : Nat) (ld : Int64) (j : Nat) : Bool := decide (¬ 0 ≤ lg_cmp (pu_st st he j) ld)
theorem pu_tr_y {st he j : Nat} {ld : Int64} : pu_tr st he ld j = true ↔ ¬ 0 ≤ lg_cmp (pu_st st he j) ld := by
  unfold pu_tr
  exact decide_eq_true_iff
theorem pu_tr_n {st he j : Nat} {ld : Int64} : pu_tr st he ld j = false ↔ 0 ≤ lg_cmp (pu_st st he j) ld := by
  unfold pu_tr
  rw [decide_eq_false_iff_not]
  exact Classical.not_not
theorem pu_tr_mono {st he i j : Nat} {ld : Int64} (hst : st ≤ 9999) (hj : j ≤ 12) (hij : i ≤ j) (h : pu_tr st he ld i = false) : pu_tr st he ld j = false := by
  rw [pu_tr_n, lg_cmp_ge] at h ⊢
  have hb := pu_st_b (he := he) hst hj
  have hb2 := pu_st_b (he := he) hst (Nat.le_trans hij hj)
  have hm : pu_st st he i ≤ pu_st st he j := by
    unfold pu_st
    rw [ln_le (by omega) (by omega)]
    exact Nat.div_le_div_right (Nat.mul_le_mul_right _ (by omega))
  exact Int64.le_trans h hm
/-- the first line from g on that holds -/
def pu_adv (T : Nat → Bool) : Nat → Nat → Nat
  | g, 0 => g
  | g, k + 1 => if T g = true then pu_adv T (g + 1) k else g
theorem pu_adv_r {T : Nat → Bool} : ∀ (k g : Nat), g ≤ pu_adv T g k ∧ pu_adv T g k ≤ g + k := by
  intro k
  induction k with
  | zero => intro g; exact ⟨Nat.le_refl _, Nat.le_refl _⟩
  | succ k ih =>
    intro g
    unfold pu_adv
    by_cases h : T g = true
    · rw [if_pos h]
      have := ih (g + 1)
      omega
    · rw [if_neg h]
      omega
theorem pu_c39 {w : k_M} {q li st he : Nat} (h1 : w q 1 = kn li) (h2 : w q 2 = kn st) (hli : li ≤ 12) (hst : st ≤ 9999) (hhe : he ≤ 999) (K9 : k_M → Nat → Int64 → Int32 → Int32 → Int32 → Int32 → Option Int32) (P : Int64) (sl b : Int32) (ld : Int64) : ∀ (k g n : Nat), g + k = li → k < n → f_X0_linesThatTear_39 K9 n w q P sl (kn he) (kn g) b ld = K9 w q P sl (kn he) (kn (pu_adv (pu_tr st he ld) g k)) b := by
  intro k
  induction k with
  | zero =>
    intro g n hg hn
    obtain ⟨n, rfl⟩ : ∃ n9, n = n9 + 1 := ⟨n - 1, by omega⟩
    show f_X0_linesThatTear_39_b K9 _ w q P sl (kn he) (kn g) b ld = _
    unfold f_X0_linesThatTear_39_b
    rw [h1, if_pos (by rw [kn_le (by omega) (by omega)]; omega)]
    rfl
  | succ k ih =>
    intro g n hg hn
    obtain ⟨n, rfl⟩ : ∃ n9, n = n9 + 1 := ⟨n - 1, by omega⟩
    show f_X0_linesThatTear_39_b K9 _ w q P sl (kn he) (kn g) b ld = _
    unfold f_X0_linesThatTear_39_b f_X0_strengthOf
    rw [h1, if_neg (by rw [kn_le (by omega) (by omega)]; omega), k_bds, h2, pu_st_c hst hhe (by omega)]
    unfold pu_adv
    by_cases ht : pu_tr st he ld g = true
    · rw [if_pos ht, if_neg (pu_tr_y.mp ht), k_lts, kn_addl]
      exact ih (g + 1) n (by omega) (by omega)
    · have ht2 : pu_tr st he ld g = false := by
        cases h : pu_tr st he ld g
        · rfl
        · exact absurd h ht
      rw [if_neg ht, if_pos (pu_tr_n.mp ht2)]
      rfl
/-- what the reference does behind its row of lines -/
def pu_end (K12 : k_M → Int32 → Int32 → Int32 → Option Int32) (m : k_M) (a1 a2 a6 : Int32) : Option Int32 := if a6 = a2 then K12 m a1 a6 0 else K12 m a1 a6 1
theorem pu_m37s {m : k_M} {p li st he : Nat} (hp : p ≤ 8) (h1 : m 1 (29 + p) = kn li) (h2 : m 1 (38 + p) = kn st) (h3 : m 1 4 = kn he) (hli : li ≤ 12) (hst : st ≤ 9999) (hhe : he ≤ 999) (K12 : k_M → Int32 → Int32 → Int32 → Option Int32) {g : Nat} (hg : g ≤ li) (ld : Int64) (j : Nat) (n : Nat) (a6 : Int32) (hj : j < li) : f_X11_linesLeft_37 K12 (n + 1) m (kn p) (kmask li g) ld a6 (kn j) = if g ≤ j ∧ pu_tr st he ld j = true then f_X11_linesLeft_37 K12 n m (kn p) (kmask li g) ld (a6 &&& ((1 <<< (kn j &&& 31)) ^^^ (-1))) (kn (j + 1)) else f_X11_linesLeft_37 K12 n m (kn p) (kmask li g) ld a6 (kn (j + 1)) := by
  show f_X11_linesLeft_37_b K12 _ m (kn p) (kmask li g) ld a6 (kn j) = _
  unfold f_X11_linesLeft_37_b
  rw [kn_ladd, k_ckn (by omega) (by omega), kn_nat (by omega), h1, if_neg (by rw [kn_le (by omega) (by omega)]; omega), kmask_has li (by omega) g (by omega) j hj, k_bds]
  by_cases c1 : g ≤ j
  · rw [if_pos c1, if_neg (by decide)]
    unfold f_X11_strength
    rw [kn_ladd, k_ckn (by omega) (by omega), kn_nat (by omega), h2, k_bds, h3, pu_st_m hst hhe (by omega)]
    by_cases ht : pu_tr st he ld j = true
    · rw [if_neg (pu_tr_y.mp ht), k_lts, if_pos ⟨c1, ht⟩]
      unfold f_X11_linesLeft_100
      rw [k_lts, kn_addl]
    · have ht2 : pu_tr st he ld j = false := by
        cases h : pu_tr st he ld j
        · rfl
        · exact absurd h ht
      rw [if_pos (pu_tr_n.mp ht2), if_neg (fun h => ht h.2)]
      unfold f_X11_linesLeft_100
      rw [k_lts, kn_addl]
  · rw [if_neg c1, if_pos rfl, if_neg (fun h => c1 h.1)]
    unfold f_X11_linesLeft_100
    rw [k_lts, kn_addl]
theorem pu_m37e {m : k_M} {p li st he : Nat} (hp : p ≤ 8) (h1 : m 1 (29 + p) = kn li) (h2 : m 1 (38 + p) = kn st) (h3 : m 1 4 = kn he) (hli : li ≤ 12) (hst : st ≤ 9999) (hhe : he ≤ 999) (K12 : k_M → Int32 → Int32 → Int32 → Option Int32) {g : Nat} (ld : Int64) (n : Nat) (a6 : Int32) : f_X11_linesLeft_37 K12 (n + 1) m (kn p) (kmask li g) ld a6 (kn li) = pu_end K12 m (kn p) (kmask li g) a6 := by
  show f_X11_linesLeft_37_b K12 _ m (kn p) (kmask li g) ld a6 (kn li) = _
  unfold f_X11_linesLeft_37_b
  rw [kn_ladd, k_ckn (by omega) (by omega), kn_nat (by omega), h1, if_pos (by rw [kn_le (by omega) (by omega)]; omega)]
  rfl
theorem pu_m37a {m : k_M} {p li st he : Nat} (hp : p ≤ 8) (h1 : m 1 (29 + p) = kn li) (h2 : m 1 (38 + p) = kn st) (h3 : m 1 4 = kn he) (hli : li ≤ 12) (hst : st ≤ 9999) (hhe : he ≤ 999) (K12 : k_M → Int32 → Int32 → Int32 → Option Int32) {g : Nat} (hg : g ≤ li) (ld : Int64) (a6 : Int32) : ∀ (k j n : Nat), j + k = li → k < n → (∀ i, j ≤ i → i < li → pu_tr st he ld i = false) → f_X11_linesLeft_37 K12 n m (kn p) (kmask li g) ld a6 (kn j) = pu_end K12 m (kn p) (kmask li g) a6 := by
  intro k
  induction k with
  | zero =>
    intro j n hj hn _
    obtain ⟨n, rfl⟩ : ∃ n9, n = n9 + 1 := ⟨n - 1, by omega⟩
    rw [show j = li by omega]
    exact pu_m37e hp h1 h2 h3 hli hst hhe K12 ld n a6
  | succ k ih =>
    intro j n hj hn hf
    obtain ⟨n, rfl⟩ : ∃ n9, n = n9 + 1 := ⟨n - 1, by omega⟩
    rw [pu_m37s hp h1 h2 h3 hli hst hhe K12 hg ld j n a6 (by omega), if_neg (by rw [hf j (Nat.le_refl _) (by omega)]; exact fun h => absurd h.2 (by decide))]
    exact ih (j + 1) n (by omega) (by omega) (fun i h4 h5 => hf i (by omega) h5)
theorem pu_m37b {m : k_M} {p li st he : Nat} (hp : p ≤ 8) (h1 : m 1 (29 + p) = kn li) (h2 : m 1 (38 + p) = kn st) (h3 : m 1 4 = kn he) (hli : li ≤ 12) (hst : st ≤ 9999) (hhe : he ≤ 999) (K12 : k_M → Int32 → Int32 → Int32 → Option Int32) {g : Nat} (hg : g ≤ li) (ld : Int64) : ∀ (k j n : Nat), j + k = li → k < n → g ≤ j → f_X11_linesLeft_37 K12 n m (kn p) (kmask li g) ld (kmask li j) (kn j) = pu_end K12 m (kn p) (kmask li g) (kmask li (pu_adv (pu_tr st he ld) j k)) := by
  intro k
  induction k with
  | zero =>
    intro j n hj hn _
    obtain ⟨n, rfl⟩ : ∃ n9, n = n9 + 1 := ⟨n - 1, by omega⟩
    have e : j = li := by omega
    subst e
    exact pu_m37e hp h1 h2 h3 hli hst hhe K12 ld n _
  | succ k ih =>
    intro j n hj hn hgj
    obtain ⟨n, rfl⟩ : ∃ n9, n = n9 + 1 := ⟨n - 1, by omega⟩
    unfold pu_adv
    by_cases ht : pu_tr st he ld j = true
    · rw [pu_m37s hp h1 h2 h3 hli hst hhe K12 hg ld j n _ (by omega), if_pos ⟨hgj, ht⟩, if_pos ht, kmask_drop li (by omega) j (by omega)]
      exact ih (j + 1) n (by omega) (by omega) (by omega)
    · have ht2 : pu_tr st he ld j = false := by
        cases h : pu_tr st he ld j
        · rfl
        · exact absurd h ht
      rw [if_neg ht]
      exact pu_m37a hp h1 h2 h3 hli hst hhe K12 hg ld _ (k + 1) j (n + 1) hj hn (fun i h4 h5 => pu_tr_mono hst (by omega) h4 ht2)
theorem pu_m37 {m : k_M} {p li st he : Nat} (hp : p ≤ 8) (h1 : m 1 (29 + p) = kn li) (h2 : m 1 (38 + p) = kn st) (h3 : m 1 4 = kn he) (hli : li ≤ 12) (hst : st ≤ 9999) (hhe : he ≤ 999) (K12 : k_M → Int32 → Int32 → Int32 → Option Int32) {g : Nat} (ld : Int64) : ∀ (d j n : Nat), j + d = g → g ≤ li → li - j < n → f_X11_linesLeft_37 K12 n m (kn p) (kmask li g) ld (kmask li g) (kn j) = pu_end K12 m (kn p) (kmask li g) (kmask li (pu_adv (pu_tr st he ld) g (li - g))) := by
  intro d
  induction d with
  | zero =>
    intro j n hj hg hn
    have e : j = g := by omega
    subst e
    exact pu_m37b hp h1 h2 h3 hli hst hhe K12 hg ld (li - j) j n (by omega) (by omega) (Nat.le_refl _)
  | succ d ih =>
    intro j n hj hg hn
    obtain ⟨n, rfl⟩ : ∃ n9, n = n9 + 1 := ⟨n - 1, by omega⟩
    rw [pu_m37s hp h1 h2 h3 hli hst hhe K12 hg ld j n _ (by omega), if_neg (fun h => by omega)]
    exact ih (j + 1) n (by omega) hg (by omega)
/-- the load of one line where n lines share -/
def pu_ld (P : Int64) (sl : Int32) (n : Nat) : Int64 := (((P * ((100 + (5 * (if 0 ≤ sl then sl else -sl))).toInt64)) / (100 : Int64)) + ln n - (1 : Int64)) / ln n
theorem pu_load_c {w : k_M} {q li g : Nat} (h1 : w q 1 = kn li) (hli : li ≤ 12) (hg : g < li) (P : Int64) (sl : Int32) : f_X0_loadOfOneLine w q P sl (kn g) = some (pu_ld P sl (li - g)) := by
  unfold f_X0_loadOfOneLine
  rw [h1, k_lts, kn_sub (by omega), if_pos (by rw [kn_lle (by omega) (by omega)]; omega)]
  unfold pu_ld
  by_cases c : 0 ≤ sl
  · rw [if_pos c, if_pos c]
    unfold f_X0_loadOfOneLine_27
    rw [k_lts, kn_ln (by omega), k_ckp (ln_ne0 (by omega) (by omega))]
  · rw [if_neg c, if_neg c]
    unfold f_X0_loadOfOneLine_27
    rw [k_lts, kn_ln (by omega), k_ckp (ln_ne0 (by omega) (by omega))]
theorem pu_load_m {m : k_M} {p n : Nat} {P : Int64} {sl : Int32} (hP : f_X11_pull m (kn p) = some P) (h5 : m 1 5 = sl) (hn : 0 < n) (hn2 : n ≤ 12) : f_X11_loadFor m (kn p) (kn n) = some (pu_ld P sl n) := by
  unfold f_X11_loadFor f_X11_size0
  rw [hP, k_bds, h5]
  unfold pu_ld
  by_cases c : 0 ≤ sl
  · rw [if_pos c, if_pos c, k_bds, k_lts, kn_ln (by omega), k_ckp (ln_ne0 (by omega) (by omega))]
  · rw [if_neg c, if_neg c, k_bds, k_lts, kn_ln (by omega), k_ckp (ln_ne0 (by omega) (by omega))]
theorem pu_left0 {w m : k_M} {q p li st he : Nat} {P : Int64} {sl : Int32} (hp : p ≤ 8) (c1 : w q 1 = kn li) (c2 : w q 2 = kn st) (h1 : m 1 (29 + p) = kn li) (h2 : m 1 (38 + p) = kn st) (h3 : m 1 4 = kn he) (h5 : m 1 5 = sl) (hP : f_X11_pull m (kn p) = some P) (hli : li ≤ 12) (hst : st ≤ 9999) (hhe : he ≤ 999) : ∀ (k g n n' : Nat) (b : Int32), g + k = li → k + 1 < n → k + 1 < n' → b < kn g → ∃ G, g ≤ G ∧ G ≤ li ∧ f_X0_linesThatTear_9 n w q P sl (kn he) (kn g) b = some (kn G - w q 7) ∧ f_X11_linesLeft_12 n' m (kn p) (kmask li g) 1 = some (kmask li G) := by
  intro k
  induction k using Nat.strongRecOn with
  | ind k ih =>
  intro g n n' b hg hn hn' hb
  obtain ⟨n, rfl⟩ : ∃ n9, n = n9 + 1 := ⟨n - 1, by omega⟩
  obtain ⟨n', rfl⟩ : ∃ n9, n' = n9 + 1 := ⟨n' - 1, by omega⟩
  show ∃ G, g ≤ G ∧ G ≤ li ∧ f_X0_linesThatTear_9_b _ w q P sl (kn he) (kn g) b = some (kn G - w q 7) ∧ f_X11_linesLeft_12_b _ m (kn p) (kmask li g) 1 = some (kmask li G)
  unfold f_X0_linesThatTear_9_b f_X11_linesLeft_12_b
  rw [if_neg (show ¬ kn g ≤ b by grind), c1, if_neg (show ¬ (1 : Int32) = 0 by decide)]
  by_cases e : li ≤ g
  · have e2 : g = li := by omega
    subst e2
    refine ⟨g, Nat.le_refl _, Nat.le_refl _, ?_, ?_⟩
    · rw [if_pos (by rw [kn_le (by omega) (by omega)]; omega)]
      rfl
    · rw [if_pos ((kmask_zero g (by omega) g (by omega)).mpr rfl)]
  · rw [if_neg (by rw [kn_le (by omega) (by omega)]; omega), pu_load_c c1 hli (by omega) P sl, k_bds, if_neg (fun h => e (Nat.le_of_eq ((kmask_zero li (by omega) g (by omega)).mp h))), kmask_bits li (by omega) g (by omega), k_bds, pu_load_m hP h5 (by omega) (by omega), k_bds]
    have hr := pu_adv_r (T := pu_tr st he (pu_ld P sl (li - g))) (li - g) g
    rw [pu_c39 c1 c2 hli hst hhe _ P sl (kn g) (pu_ld P sl (li - g)) (li - g) g k_N (by omega) (by unfold k_N; omega)]
    have hm := pu_m37 hp h1 h2 h3 hli hst hhe (f_X11_linesLeft_12 n') (g := g) (pu_ld P sl (li - g)) g 0 k_N (by omega) (by omega) (by unfold k_N; omega)
    rw [show (0 : Int32) = kn 0 from rfl, hm]
    generalize pu_adv (pu_tr st he (pu_ld P sl (li - g))) g (li - g) = g' at hr ⊢
    unfold pu_end
    by_cases c : g' = g
    · subst c
      obtain ⟨n, rfl⟩ : ∃ n9, n = n9 + 1 := ⟨n - 1, by omega⟩
      obtain ⟨n', rfl⟩ : ∃ n9, n' = n9 + 1 := ⟨n' - 1, by omega⟩
      refine ⟨g', Nat.le_refl _, by omega, ?_, ?_⟩
      · show f_X0_linesThatTear_9_b _ w q P sl (kn he) (kn g') (kn g') = _
        unfold f_X0_linesThatTear_9_b
        rw [if_pos (by rw [kn_le (by omega) (by omega)]; omega)]
        rfl
      · rw [if_pos rfl]
        show f_X11_linesLeft_12_b _ m (kn p) (kmask li g') 0 = _
        unfold f_X11_linesLeft_12_b
        rw [if_pos rfl]
    · rw [if_neg (fun h => c ((kmask_inj li (by omega) g' (by omega) g (by omega)).mp h))]
      obtain ⟨G, a1, a2, a3, a4⟩ := ih (li - g') (by omega) g' n n' (kn g) (by omega) (by omega) (by omega) (by rw [kn_lt (by omega) (by omega)]; omega)
      exact ⟨G, by omega, a2, a3, a4⟩
/-- both tear the same lines: the class says how many, the reference which are left -/
theorem pu_left {w m : k_M} {q p : Nat} {P : Int64} (hp : p ≤ 8) (hC : pu_C w q (m 1) p) {he : Nat} (hhe : he ≤ 999) (h4 : m 1 4 = kn he) (h5 : m 1 5 = w 0 5) (hP : f_X11_pull m (kn p) = some P) (hopen : w q 5 = 1) : ∃ li t G : Nat, w q 1 = kn li ∧ w q 7 = kn t ∧ t < li ∧ li ≤ 12 ∧ t ≤ G ∧ G ≤ li ∧ m 1 (74 + p) = kmask li t ∧ f_X0_linesThatTear w q P (w 0 5) (kn he) = some (kn (G - t)) ∧ f_X11_linesLeft m (kn p) = some (kmask li G) := by
  obtain ⟨ar, li, st, t, -, h2, h3, -, ⟨-, e1, e2, e7⟩, -, ho, -, ⟨-, e29, e38, -, -, -, e74, -⟩⟩ := hC
  have ht := ho hopen
  obtain ⟨G, g1, g2, g3, g4⟩ := pu_left0 hp e1 e2 e29 e38 h4 h5 hP h2.2 h3.2 hhe (li - t) t k_N k_N (-1) (by omega) (by unfold k_N; omega) (by unfold k_N; omega) (by
    rw [Int32.lt_iff_toInt_lt, kn_int (by omega)]
    have h1 : (-1 : Int32).toInt = -1 := rfl
    rw [h1]
    omega)
  refine ⟨li, t, G, e1, e7, ht, h2.2, g1, g2, e74, ?_, ?_⟩
  · unfold f_X0_linesThatTear
    rw [k_lts, e7, g3, e7, kn_sub g1]
  · unfold f_X11_linesLeft
    rw [kn_ladd, k_ckn (by omega) (by omega), kn_nat (by omega), k_lts, e74]
    exact g4
theorem pu_C_rows {w : k_M} {q p : Nat} {s : Nat → Int32} (h : pu_C w q s p) : s (20 + p) = w q 0 ∧ s (29 + p) = w q 1 ∧ s (65 + p) = w q 5 := by
  obtain ⟨ar, li, st, t, -, -, -, -, ⟨a0, a1, -, -⟩, -, -, -, ⟨b0, b1, -, -, -, b5, -, -⟩⟩ := h
  exact ⟨b0.trans a0.symm, b1.trans a1.symm, b5⟩

/-! the class's world w, the reference's row s. Chute i of L layers: its cell in the world, its place in the row; how many chutes -/
def pu_q (L i : Nat) : Nat := if i < L then 15 + i else 2
def pu_p (L i : Nat) : Nat := if i < L then i else 8
def pu_n (L : Nat) (w : k_M) : Nat := if w 0 11 = 0 then L else L + 1
def pu_sf (f : Nat → Int32) : Nat → Nat → Int32
  | _, 0 => 0
  | i, k + 1 => f i + pu_sf f (i + 1) k
theorem pu_sf_congr {f g : Nat → Int32} : ∀ (k i : Nat), (∀ j, i ≤ j → j < i + k → f j = g j) → pu_sf f i k = pu_sf g i k := by
  intro k
  induction k with
  | zero => intro i _; rfl
  | succ k ih =>
    intro i h
    show f i + pu_sf f (i + 1) k = g i + pu_sf g (i + 1) k
    rw [h i (by omega) (by omega), ih (i + 1) (fun j h1 h2 => h j (by omega) (by omega))]
theorem pu_q_r {L i : Nat} (hL : L ≤ 8) : pu_q L i = 2 ∨ (15 ≤ pu_q L i ∧ pu_q L i < 23) := by
  unfold pu_q
  split <;> omega
theorem pu_p_r {L i : Nat} (hL : L ≤ 8) : pu_p L i ≤ 8 := by
  unfold pu_p
  split <;> omega
theorem pu_q_l {L i : Nat} (h : i < L) : pu_q L i = 15 + i := if_pos h
theorem pu_p_l {L i : Nat} (h : i < L) : pu_p L i = i := if_pos h
theorem pu_q_n {L i : Nat} (h : ¬ i < L) : pu_q L i = 2 := if_neg h
theorem pu_p_n {L i : Nat} (h : ¬ i < L) : pu_p L i = 8 := if_neg h
theorem pu_n_r {L : Nat} {w : k_M} : pu_n L w = L ∨ pu_n L w = L + 1 := by
  unfold pu_n
  split
  · exact Or.inl rfl
  · exact Or.inr rfl
theorem pu_n_L {L : Nat} {w : k_M} {i : Nat} (h : i < L) : i < pu_n L w := by
  have := pu_n_r (L := L) (w := w)
  omega
theorem pu_q_inj {L i j : Nat} (hL : L ≤ 8) (hi : i ≤ L) (hj : j ≤ L) (h : pu_q L i = pu_q L j) : i = j := by
  unfold pu_q at h
  split at h <;> split at h <;> omega
theorem pu_p_inj {L i j : Nat} (hL : L ≤ 8) (hi : i ≤ L) (hj : j ≤ L) (h : pu_p L i = pu_p L j) : i = j := by
  unfold pu_p at h
  split at h <;> split at h <;> omega
def pu_lost (L : Nat) (w : k_M) : Int32 := pu_sf (fun i => if w (pu_q L i) 5 = 4 then w (pu_q L i) 1 - w (pu_q L i) 7 else 0) 0 (pu_n L w)
/-- a chute: its cell q, its place p -/
def pu_st5 (v : Int32) : Prop := v = 0 ∨ v = 1 ∨ v = 2 ∨ v = 3 ∨ v = 4
def pu_C (w : k_M) (q : Nat) (s : Nat → Int32) (p : Nat) : Prop :=
  ∃ ar li st t : Nat, (1 ≤ ar ∧ ar ≤ 99 ∧ pu_st5 (w q 5)) ∧ (1 ≤ li ∧ li ≤ 12) ∧ (1 ≤ st ∧ st ≤ 9999) ∧ t ≤ li ∧ (w q 0 = kn ar ∧ w q 1 = kn li ∧ w q 2 = kn st ∧ w q 7 = kn t) ∧ (w q 5 = 0 → t = 0) ∧ (w q 5 = 1 → t < li) ∧ (w q 6 = 0 ∨ w q 6 = 1) ∧
    (s (20 + p) = kn ar ∧ s (29 + p) = kn li ∧ s (38 + p) = kn st ∧ s (47 + p) = w q 3 ∧ s (56 + p) = w q 4 ∧ s (65 + p) = w q 5 ∧ s (74 + p) = kmask li t ∧ s (83 + p) = w q 6)
/-- the capsule's numbers -/
def pu_F (w : k_M) (s : Nat → Int32) : Prop :=
  ∃ h v he ma : Nat, (h ≤ 30000 ∧ v ≤ 900 ∧ he ≤ 999 ∧ 1 ≤ ma ∧ ma ≤ 99) ∧ (0 < h → 20 * h + v * v + 10 * v ≤ 764000) ∧ (w 0 0 = kn h ∧ w 0 1 = kn v ∧ w 0 4 = kn he ∧ w 0 3 = kn ma) ∧ (s 0 = kn h ∧ s 1 = kn v ∧ s 4 = kn he ∧ s 3 = kn ma) ∧
    s 2 = w 0 2 ∧ s 5 = w 0 5 ∧ s 6 = w 0 6 ∧ s 7 = w 0 7 ∧ s 13 = w 0 8 ∧ s 14 = w 0 9
/-- targets, winds -/
def pu_T (w : k_M) (s : Nat → Int32) (tc cnt base : Nat) : Prop :=
  ∃ n : Nat, n ≤ 8 ∧ w tc 2 = kn n ∧ s cnt = kn n ∧ ∀ k : Nat, k < n → s (base + 2 * k) = w (tc + 1) k ∧ s (base + 2 * k + 1) = w (tc + 2) k
def pu_S (w : k_M) (s : Nat → Int32) : Prop :=
  ∃ n : Nat, n ≤ 8 ∧ w 9 3 = kn n ∧ s 12 = kn n ∧ ∀ k : Nat, k < n → s (124 + 3 * k) = w 10 k ∧ s (124 + 3 * k + 1) = w 11 k ∧ s (124 + 3 * k + 2) = w 12 k
def pu_E (w : k_M) (s : Nat → Int32) : Prop :=
  ∃ e n : Nat, e < 30 ∧ n ≤ 30 ∧ w 13 1 = kn e ∧ w 13 2 = kn n ∧ s 16 = kn n ∧ ∀ i : Nat, i < n → ∀ j : Nat, j < 4 → s (148 + 4 * i + j) = w 14 ((e + i) % 30 * 4 + j)
def pu_W (L : Nat) (w : k_M) (s : Nat → Int32) : Prop :=
  (L ≤ 8 ∧ w 0 10 = kn L ∧ s 8 = kn L) ∧ ((w 0 11 = 0 ∨ w 0 11 = 1) ∧ s 9 = w 0 11 ∧ (w 2 6 = 0 ∨ w 2 6 = 1)) ∧ (∀ i : Nat, i < pu_n L w → pu_C w (pu_q L i) s (pu_p L i)) ∧ s 15 = pu_lost L w ∧ pu_F w s ∧ pu_T w s 3 10 92 ∧ pu_T w s 6 11 108 ∧ pu_S w s ∧ pu_E w s
/-- the tables of heights and of spots stay -/
def pu_kp (w w' : k_M) : Prop := ∀ c, 3 ≤ c → c < 13 → w' c = w c
/-! what is read straight -/
theorem pu_count {L : Nat} {w : k_M} (h : w 0 10 = kn L) : f_X9_chuteCount w = some (kn (pu_n L w)) := by
  unfold f_X9_chuteCount pu_n
  rw [h]
  by_cases h0 : w 0 11 = 0
  · rw [if_pos h0, if_pos h0]
  · rw [if_neg h0, if_neg h0, kn_addl]
theorem pu_has {L i : Nat} {w : k_M} (hL : L ≤ 8) (h : w 0 10 = kn L) (hi : i < 4000) : f_X9_hasLayer w (kn i) = some (if i < L then 1 else 0) := by
  unfold f_X9_hasLayer
  rw [h, if_neg (by rw [kn_ltl (by omega) (by omega)]; omega)]
  by_cases hi2 : i < L
  · rw [if_neg (by rw [kn_le (by omega) (by omega)]; omega), if_pos hi2]
  · rw [if_pos (by rw [kn_le (by omega) (by omega)]; omega), if_neg hi2]
theorem pu_at {L i : Nat} {w : k_M} (hL : L ≤ 8) (h : w 0 10 = kn L) (hi : i < 4000) : f_X9_chuteAt w (kn i) = some (pu_q L i) := by
  unfold f_X9_chuteAt
  rw [pu_has hL h hi, k_bds]
  by_cases hi2 : i < L
  · rw [if_pos hi2, if_neg (by decide), k_ckn (by omega) (by omega), kn_nat (by omega), pu_q_l hi2]
  · rw [if_neg hi2, if_pos rfl, pu_q_n hi2]
theorem pu_there {L p : Nat} {m w : k_M} (hL : L ≤ 8) (h8 : m 1 8 = kn L) (h9 : m 1 9 = w 0 11) (hR : w 0 11 = 0 ∨ w 0 11 = 1) (hp : p < 9) : f_X11_isThere m (kn p) = some (if (p < L ∨ (p = 8 ∧ w 0 11 = 1)) then 1 else 0) := by
  unfold f_X11_isThere
  rw [h8, h9]
  simp (disch := omega) only [kn_eql, kn_le]
  by_cases h1 : p = 8
  · subst h1
    rw [if_pos rfl]
    rcases hR with hR | hR
    · rw [hR, if_neg (by decide), if_neg (by rintro (h | ⟨-, h⟩); omega; exact absurd h (by decide))]
    · rw [hR, if_pos rfl, if_pos (Or.inr ⟨rfl, rfl⟩)]
  · rw [if_neg h1]
    by_cases h2 : p < L
    · rw [if_neg (by omega), if_pos (Or.inl h2)]
    · rw [if_pos (by omega), if_neg (by rintro (h | ⟨h, -⟩); exact h2 h; exact h1 h)]
theorem pu_air {w m : k_M} (h : m 1 0 = w 0 0) : f_X11_air (m 1 0) = f_X9_air w := by
  unfold f_X11_air f_X9_air
  rw [h]

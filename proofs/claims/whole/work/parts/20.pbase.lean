/-! THE PURE PART: the functions that the generator made of the class and of the reference, held against each other. kn n: the number n as an int -/
def kn (n : Nat) : Int32 := Int32.ofNat n
theorem kn_int {n : Nat} (h : n < 2147483648) : (kn n).toInt = (n : Int) := Int32.toInt_ofNat_of_lt h
theorem kn_nat {n : Nat} (h : n < 2147483648) : (kn n).toNatClampNeg = n := Int32.toNatClampNeg_ofNat_of_lt h
theorem kn_le {a b : Nat} (ha : a < 2147483648) (hb : b < 2147483648) : (kn a ≤ kn b) = (a ≤ b) := by
  rw [Int32.le_iff_toInt_le, kn_int ha, kn_int hb]
  exact propext (by omega)
theorem kn_lt {a b : Nat} (ha : a < 2147483648) (hb : b < 2147483648) : (kn a < kn b) = (a < b) := by
  rw [Int32.lt_iff_toInt_lt, kn_int ha, kn_int hb]
  exact propext (by omega)
theorem kn_inj {a b : Nat} (ha : a < 2147483648) (hb : b < 2147483648) : (kn a = kn b) = (a = b) := by
  rw [← Int32.toInt_inj, kn_int ha, kn_int hb]
  exact propext (by omega)
theorem kn_lit (m : Nat) : (OfNat.ofNat m : Int32) = kn m := rfl
theorem kn_ltl {a m : Nat} (ha : a < 2147483648) (hm : (OfNat.ofNat m : Nat) < 2147483648) : (kn a < (no_index (OfNat.ofNat m) : Int32)) = (a < (OfNat.ofNat m : Nat)) := kn_lt ha hm
theorem kn_lel {a m : Nat} (ha : a < 2147483648) (hm : (OfNat.ofNat m : Nat) < 2147483648) : (kn a ≤ (no_index (OfNat.ofNat m) : Int32)) = (a ≤ (OfNat.ofNat m : Nat)) := kn_le ha hm
theorem kn_llt {a m : Nat} (ha : a < 2147483648) (hm : (OfNat.ofNat m : Nat) < 2147483648) : ((no_index (OfNat.ofNat m) : Int32) < kn a) = ((OfNat.ofNat m : Nat) < a) := kn_lt hm ha
theorem kn_lle {a m : Nat} (ha : a < 2147483648) (hm : (OfNat.ofNat m : Nat) < 2147483648) : ((no_index (OfNat.ofNat m) : Int32) ≤ kn a) = ((OfNat.ofNat m : Nat) ≤ a) := kn_le hm ha
theorem kn_eql {a m : Nat} (ha : a < 2147483648) (hm : (OfNat.ofNat m : Nat) < 2147483648) : (kn a = (no_index (OfNat.ofNat m) : Int32)) = (a = (OfNat.ofNat m : Nat)) := kn_inj ha hm
theorem kn_leq {a m : Nat} (ha : a < 2147483648) (hm : (OfNat.ofNat m : Nat) < 2147483648) : ((no_index (OfNat.ofNat m) : Int32) = kn a) = ((OfNat.ofNat m : Nat) = a) := kn_inj hm ha
theorem kn_add (a b : Nat) : kn a + kn b = kn (a + b) := (Int32.ofNat_add a b).symm
theorem kn_addl (a m : Nat) : kn a + (no_index (OfNat.ofNat m) : Int32) = kn (a + (OfNat.ofNat m : Nat)) := (Int32.ofNat_add a m).symm
theorem kn_ladd (a m : Nat) : (no_index (OfNat.ofNat m) : Int32) + kn a = kn ((OfNat.ofNat m : Nat) + a) := (Int32.ofNat_add m a).symm
theorem kn_mul (a b : Nat) : kn a * kn b = kn (a * b) := (Int32.ofNat_mul a b).symm
theorem kn_mull (a m : Nat) : kn a * (no_index (OfNat.ofNat m) : Int32) = kn (a * (OfNat.ofNat m : Nat)) := (Int32.ofNat_mul a m).symm
theorem kn_lmul (a m : Nat) : (no_index (OfNat.ofNat m) : Int32) * kn a = kn ((OfNat.ofNat m : Nat) * a) := (Int32.ofNat_mul m a).symm
theorem kn_sub {a b : Nat} (h : b ≤ a) : kn a - kn b = kn (a - b) := by
  have e : kn a = kn (a - b) + kn b := by rw [kn_add, Nat.sub_add_cancel h]
  rw [e]
  exact Int32.add_sub_cancel _ _
theorem kn_subl {a m : Nat} (h : (OfNat.ofNat m : Nat) ≤ a) : kn a - (no_index (OfNat.ofNat m) : Int32) = kn (a - (OfNat.ofNat m : Nat)) := kn_sub h
theorem kn_div {a b : Nat} (ha : a < 2147483648) (hb : b < 2147483648) : kn a / kn b = kn (a / b) := by
  by_cases h0 : b = 0
  · subst h0
    rw [Nat.div_zero]
    exact Int32.div_zero
  · have hq : a / b < 2147483648 := Nat.lt_of_le_of_lt (Nat.div_le_self a b) ha
    refine Int32.toInt_inj.mp ?_
    rw [kn_int hq, Int32.toInt_div_of_ne_right, kn_int ha, kn_int hb]
    · rfl
    · intro h
      have := congrArg Int32.toInt h
      rw [kn_int hb] at this
      have h1 : (-1 : Int32).toInt = -1 := rfl
      rw [h1] at this
      omega
theorem kn_divl {a m : Nat} (ha : a < 2147483648) (hm : (OfNat.ofNat m : Nat) < 2147483648) : kn a / (no_index (OfNat.ofNat m) : Int32) = kn (a / (OfNat.ofNat m : Nat)) := kn_div ha hm
theorem kn_of {x : Int32} (h : 0 ≤ x) : ∃ n : Nat, n < 2147483648 ∧ x = kn n := ⟨x.toNatClampNeg, Int32.toNatClampNeg_lt x, (Int32.ofNat_toNatClampNeg x h).symm⟩
theorem kn_ofm {x : Int32} {m : Nat} (h : 0 ≤ x) (h1 : x < kn m) (hm : m < 2147483648) : ∃ n : Nat, n < m ∧ x = kn n := by
  obtain ⟨n, hn, rfl⟩ := kn_of h
  rw [kn_lt hn hm] at h1
  exact ⟨n, h1, rfl⟩
theorem kn_neg1 {a : Nat} (ha : a < 2147483648) : (kn a = -1) = False := by
  refine eq_false fun h => ?_
  have := congrArg Int32.toInt h
  rw [kn_int ha] at this
  have h1 : (-1 : Int32).toInt = -1 := rfl
  rw [h1] at this
  omega
theorem k_ckp {β : Type} {c : Prop} [Decidable c] {x : Option β} (h : c) : k_ck c x = x := if_pos h
theorem k_ckn {β : Type} {i m : Nat} {x : Option β} (h : i < (OfNat.ofNat m : Nat)) (hm : (OfNat.ofNat m : Nat) < 2147483648) : k_ck (0 ≤ kn i ∧ kn i < (no_index (OfNat.ofNat m) : Int32)) x = x := if_pos ⟨(Eq.mpr (kn_le (a := 0) (by decide) (Nat.lt_trans h hm)) (Nat.zero_le i) : kn 0 ≤ kn i), (Eq.mpr (kn_lt (Nat.lt_trans h hm) hm) h : kn i < kn m)⟩
theorem k_cki {β : Type} {i m : Nat} {x : Option β} {d : Decidable (i < m)} (h : i < m) : @k_ck β (i < m) d x = x := if_pos h
theorem k_bds {α β : Type} (x : α) (f : α → Option β) : k_bd (some x) f = f x := rfl
theorem k_bdx {α β : Type} {x : Option α} {y : α} (f : α → Option β) (h : x = some y) : k_bd x f = f y := by rw [h]; rfl
theorem k_lts {α β : Type} (x : α) (f : α → Option β) : k_lt x f = f x := rfl
theorem k_ups (w : k_M) (c i : Nat) (v : Int32) : k_up w c i v c i = v := if_pos ⟨rfl, rfl⟩
theorem k_upc (w : k_M) {c i c' : Nat} (v : Int32) (h : c' ≠ c) : k_up w c i v c' = w c' := by
  funext j
  exact if_neg fun e => h e.1
theorem k_upi (w : k_M) {c i i' : Nat} (v : Int32) (h : i' ≠ i) : k_up w c i v c i' = w c i' := if_neg fun e => h e.2
theorem k_upx (w : k_M) (c i c' i' : Nat) (v : Int32) : k_up w c i v c' i' = if c' = c ∧ i' = i then v else w c' i' := rfl
/-! lines: those from t on, of l -/
def kmask (l t : Nat) : Int32 := kn (2 ^ l - 2 ^ t)
theorem kmask_bits : ∀ l : Nat, l < 13 → ∀ t : Nat, t < l + 1 → f_X11_bits (kmask l t) = some (kn (l - t)) := by decide +kernel
theorem kmask_has : ∀ l : Nat, l < 13 → ∀ t : Nat, t < l + 1 → ∀ j : Nat, j < l → f_X11_has (kmask l t) (kn j) = some (if t ≤ j then 1 else 0) := by decide +kernel
theorem kmask_zero : ∀ l : Nat, l < 13 → ∀ t : Nat, t < l + 1 → (kmask l t = 0 ↔ l = t) := by decide +kernel
theorem kmask_inj : ∀ l : Nat, l < 13 → ∀ t : Nat, t < l + 1 → ∀ t' : Nat, t' < l + 1 → (kmask l t = kmask l t' ↔ t = t') := by decide +kernel
theorem kmask_drop : ∀ l : Nat, l < 13 → ∀ t : Nat, t < l → (kmask l t &&& ((1 <<< (kn t &&& 31)) ^^^ (-1))) = kmask l (t + 1) := by decide +kernel
theorem kmask_new : ∀ l : Nat, l < 13 → (1 <<< (kn l &&& 31)) - 1 = kmask l 0 := by decide +kernel

/-! append -/
def pu_d (x s : Int32) : Nat := if pu_bt x s = 0 then 0 else 1
def pu_cnb (x : Int32) : Nat := pu_d x 24 + pu_d x 16 + pu_d x 8 + pu_d x 0
theorem pu_cnb4 (x : Int32) : pu_cnb x ≤ 4 := by
  unfold pu_cnb pu_d
  split <;> split <;> split <;> split <;> omega
theorem pu_shr {s : Int32} (hs : s = 24 ∨ s = 16 ∨ s = 8 ∨ s = 0) (x : Int32) : (x >>> (s &&& 31)) &&& 255 = pu_bt x s := by
  rcases hs with rfl | rfl | rfl | rfl
  · exact pu_bt24 x
  · exact pu_bt16 x
  · exact pu_bt8 x
  · exact pu_bt0 x
theorem pu_s0 {s : Int32} (hs : s = 24 ∨ s = 16 ∨ s = 8 ∨ s = 0) : ¬ s < 0 := by
  rcases hs with rfl | rfl | rfl | rfl <;> decide
theorem pu_bytC1 {s : Int32} (hs : s = 24 ∨ s = 16 ∨ s = 8 ∨ s = 0) (x : Int32) (n a : Nat) : f_X4_bytesIn_5 (n + 1) x (kn a) s = f_X4_bytesIn_5 n x (kn (a + pu_d x s)) (s + -8) := by
  show f_X4_bytesIn_5_b _ x (kn a) s = _
  unfold f_X4_bytesIn_5_b f_X4_bytesIn_22 pu_d
  rw [if_neg (pu_s0 hs)]
  show (if pu_bt x s = 0 then _ else _) = _
  by_cases h : pu_bt x s = 0
  · rw [if_pos h, if_pos h, k_lts]
    rfl
  · rw [if_neg h, if_neg h, k_lts, k_lts]
    rw [show kn a + 1 = kn (a + 1) from kn_addl a 1]
theorem pu_bytM1 {s : Int32} (hs : s = 24 ∨ s = 16 ∨ s = 8 ∨ s = 0) (x : Int32) (n a : Nat) : f_X11_bytesIn_5 (n + 1) x (kn a) s = f_X11_bytesIn_5 n x (kn (a + pu_d x s)) (s + -8) := by
  show f_X11_bytesIn_5_b _ x (kn a) s = _
  unfold f_X11_bytesIn_5_b f_X11_bytesIn_25 pu_d
  rw [if_neg (pu_s0 hs), pu_shr hs]
  by_cases h : pu_bt x s = 0
  · rw [if_pos h, if_pos h, k_lts, k_lts]
    rw [show kn a + 0 = kn (a + 0) from kn_addl a 0]
  · rw [if_neg h, if_neg h, k_lts, k_lts]
    rw [show kn a + 1 = kn (a + 1) from kn_addl a 1]
theorem pu_bytC (x : Int32) : f_X4_bytesIn x = some (kn (pu_cnb x)) := by
  show f_X4_bytesIn_5 (3996 + 4) x (kn 0) 24 = _
  rw [pu_bytC1 (Or.inl rfl), show (24 + -8 : Int32) = 16 by decide, pu_bytC1 (Or.inr (Or.inl rfl)), show (16 + -8 : Int32) = 8 by decide, pu_bytC1 (Or.inr (Or.inr (Or.inl rfl))), show (8 + -8 : Int32) = 0 by decide, pu_bytC1 (Or.inr (Or.inr (Or.inr rfl))), show (0 + -8 : Int32) = -8 by decide]
  show f_X4_bytesIn_5_b _ x _ (-8) = _
  unfold f_X4_bytesIn_5_b
  rw [if_pos (by decide), Nat.zero_add]
  rfl
theorem pu_bytM (x : Int32) : f_X11_bytesIn x = some (kn (pu_cnb x)) := by
  show f_X11_bytesIn_5 (3996 + 4) x (kn 0) 24 = _
  rw [pu_bytM1 (Or.inl rfl), show (24 + -8 : Int32) = 16 by decide, pu_bytM1 (Or.inr (Or.inl rfl)), show (16 + -8 : Int32) = 8 by decide, pu_bytM1 (Or.inr (Or.inr (Or.inl rfl))), show (8 + -8 : Int32) = 0 by decide, pu_bytM1 (Or.inr (Or.inr (Or.inr rfl))), show (0 + -8 : Int32) = -8 by decide]
  show f_X11_bytesIn_5_b _ x _ (-8) = _
  unfold f_X11_bytesIn_5_b
  rw [if_pos (by decide), Nat.zero_add]
  rfl
/-- the text so far -/
def pu_Xl (r m : k_M) (len : Nat) : Prop := r 0 2 = kn len ∧ m 0 10 = kn len ∧ ∀ i, i < len → ∃ b : Nat, 1 ≤ b ∧ b ≤ 255 ∧ r 1 i = kn b ∧ f_X4_kindOf (kn b) = some (r 2 i) ∧ m 9 i = (kn b).toInt8.toInt32
def pu_fx (r r' m m' : k_M) : Prop := (∀ i, i ≠ 2 → r' 0 i = r 0 i) ∧ (∀ i, i ≠ 10 → m' 0 i = m 0 i) ∧ (∀ c, c ≠ 0 → c ≠ 9 → m' c = m c)
theorem pu_fx_tr {r r1 r2 m m1 m2 : k_M} (h1 : pu_fx r r1 m m1) (h2 : pu_fx r1 r2 m1 m2) : pu_fx r r2 m m2 := ⟨fun i hi => (h2.1 i hi).trans (h1.1 i hi), fun i hi => (h2.2.1 i hi).trans (h1.2.1 i hi), fun c a b => (h2.2.2 c a b).trans (h1.2.2 c a b)⟩
theorem pu_kinds (x : Int32) : ∃ k, f_X4_kindOf x = some k := by
  unfold f_X4_kindOf f_X4_kindOf_14 f_X4_kindOf_28
  repeat' split
  all_goals exact ⟨_, rfl⟩
theorem pu_add1 {s : Int32} (hs : s = 24 ∨ s = 16 ∨ s = 8 ∨ s = 0) {r m : k_M} {len : Nat} (h : pu_Xl r m len) (x : Int32) (hl : len + pu_d x s ≤ 600) (n n' : Nat) : ∃ r' m', f_X4_addBytesOf_3 (n + 1) r x s = f_X4_addBytesOf_3 n r' x (s + -8) ∧ f_X11_puts_3 (n' + 1) m x s = f_X11_puts_3 n' m' x (s + -8) ∧ pu_Xl r' m' (len + pu_d x s) ∧ pu_fx r r' m m' := by
  have hX : f_X4_addBytesOf_3 (n + 1) r x s = f_X4_addBytesOf_3_b (f_X4_addBytesOf_3 n) r x s := rfl
  have hY : f_X11_puts_3 (n' + 1) m x s = f_X11_puts_3_b (f_X11_puts_3 n') m x s := rfl
  unfold f_X4_addBytesOf_3_b f_X4_addBytesOf_62 at hX
  unfold f_X11_puts_3_b f_X11_puts_40 at hY
  rw [if_neg (pu_s0 hs), k_lts] at hX
  rw [if_neg (pu_s0 hs), pu_shr hs] at hY
  have hX : f_X4_addBytesOf_3 (n + 1) r x s = (if pu_bt x s = 0 then k_lt (s + -8) fun x62 => f_X4_addBytesOf_3 n r x x62 else (if 600 ≤ (r 0 2) then k_lt (s + -8) fun x62 => f_X4_addBytesOf_3 n r x x62 else k_ck (0 ≤ (r 0 2) ∧ (r 0 2) < 600) (k_lt (k_up r 1 ((r 0 2).toNatClampNeg) (pu_bt x s)) fun w38 => k_bd (f_X4_kindOf (pu_bt x s)) fun r48 => k_ck (0 ≤ (w38 0 2) ∧ (w38 0 2) < 600) (k_lt (k_up w38 2 ((w38 0 2).toNatClampNeg) r48) fun w51 => k_lt (k_up w51 0 2 ((w51 0 2) + 1)) fun w59 => k_lt (s + -8) fun x62 => f_X4_addBytesOf_3 n w59 x x62)))) := hX
  obtain ⟨h1, h2, h3⟩ := h
  by_cases hb : pu_bt x s = 0
  · have hd : pu_d x s = 0 := if_pos hb
    rw [if_pos hb, k_lts] at hX
    rw [if_pos hb, k_lts] at hY
    rw [hd]
    exact ⟨r, m, hX, hY, ⟨h1, h2, h3⟩, fun _ _ => rfl, fun _ _ => rfl, fun _ _ _ => rfl⟩
  · have hd : pu_d x s = 1 := if_neg hb
    rw [hd] at hl
    obtain ⟨k, hk⟩ := pu_kinds (pu_bt x s)
    rw [if_neg hb, h1, if_neg (by rw [kn_lle (by omega) (by omega)]; omega), k_ckn (by omega) (by decide), kn_nat (by omega), k_lts, hk, k_bds, k_upc _ _ (show 0 ≠ 1 by decide), h1, k_ckn (by omega) (by decide), kn_nat (by omega), k_lts, k_upc _ _ (show 0 ≠ 2 by decide), k_upc _ _ (show 0 ≠ 1 by decide), h1, k_lts, k_lts, show kn len + 1 = kn (len + 1) from kn_addl len 1] at hX
    rw [if_neg hb, h2, k_ckn (by omega) (by decide), kn_nat (by omega), k_lts, k_upc _ _ (show 0 ≠ 9 by decide), h2, k_lts, k_lts, show kn len + 1 = kn (len + 1) from kn_addl len 1] at hY
    rw [hd]
    refine ⟨_, _, hX, hY, ⟨k_ups _ _ _ _, k_ups _ _ _ _, fun i hi => ?_⟩, fun i hi => ?_, fun i hi => ?_, fun c a b => ?_⟩
    · rw [k_upc _ _ (show 1 ≠ 0 by decide), k_upc _ _ (show 1 ≠ 2 by decide), k_upc _ _ (show 2 ≠ 0 by decide), k_upc _ _ (show 9 ≠ 0 by decide)]
      by_cases hil : i = len
      · subst hil
        obtain ⟨b, b1, b2⟩ := pu_byte ((x.toUInt32 >>> (s.toUInt32 &&& Int32.toUInt32 31)).toInt32)
        have b2 : pu_bt x s = kn b := b2
        refine ⟨b, ?_, b1, ?_, ?_, ?_⟩
        · refine Nat.pos_of_ne_zero fun e => hb ?_
          rw [b2, e]
          rfl
        · rw [k_ups, b2]
        · rw [k_ups, ← b2]
          exact hk
        · rw [k_ups, pu_trunc2, pu_shr hs, b2]
      · rw [k_upi _ _ hil, k_upi _ _ hil, k_upc _ _ (show 2 ≠ 1 by decide), k_upi _ _ hil]
        exact h3 i (by omega)
    · rw [k_upi _ _ hi, k_upc _ _ (show 0 ≠ 2 by decide), k_upc _ _ (show 0 ≠ 1 by decide)]
    · rw [k_upi _ _ hi, k_upc _ _ (show 0 ≠ 9 by decide)]
    · rw [k_upc _ _ a, k_upc _ _ b]
theorem pu_addW {r m : k_M} {len : Nat} (h : pu_Xl r m len) (x : Int32) (hl : len + pu_cnb x ≤ 600) : ∃ r' m', f_X4_addBytesOf r x = some r' ∧ f_X11_puts m x = some m' ∧ pu_Xl r' m' (len + pu_cnb x) ∧ pu_fx r r' m m' := by
  unfold pu_cnb at hl ⊢
  obtain ⟨r1, m1, a1, b1, c1, d1⟩ := pu_add1 (s := 24) (Or.inl rfl) h x (by omega) 3999 3999
  obtain ⟨r2, m2, a2, b2, c2, d2⟩ := pu_add1 (s := 16) (Or.inr (Or.inl rfl)) c1 x (by omega) 3998 3998
  obtain ⟨r3, m3, a3, b3, c3, d3⟩ := pu_add1 (s := 8) (Or.inr (Or.inr (Or.inl rfl))) c2 x (by omega) 3997 3997
  obtain ⟨r4, m4, a4, b4, c4, d4⟩ := pu_add1 (s := 0) (Or.inr (Or.inr (Or.inr rfl))) c3 x (by omega) 3996 3996
  rw [show (24 + -8 : Int32) = 16 by decide] at a1 b1
  rw [show (16 + -8 : Int32) = 8 by decide] at a2 b2
  rw [show (8 + -8 : Int32) = 0 by decide] at a3 b3
  rw [show (0 + -8 : Int32) = -8 by decide] at a4 b4
  refine ⟨r4, m4, ?_, ?_, ?_, pu_fx_tr d1 (pu_fx_tr d2 (pu_fx_tr d3 d4))⟩
  · refine (a1.trans (a2.trans (a3.trans a4))).trans ?_
    show f_X4_addBytesOf_3_b _ r4 x (-8) = _
    unfold f_X4_addBytesOf_3_b
    rw [if_pos (by decide)]
  · refine (b1.trans (b2.trans (b3.trans b4))).trans ?_
    show f_X11_puts_3_b _ m4 x (-8) = _
    unfold f_X11_puts_3_b
    rw [if_pos (by decide)]
  · rw [show len + (pu_d x 24 + pu_d x 16 + pu_d x 8 + pu_d x 0) = len + pu_d x 24 + pu_d x 16 + pu_d x 8 + pu_d x 0 by omega]
    exact c4
theorem pu_c0 {u : k_U} (h : pu_P u) (x1 x2 x3 x4 x5 : Int32) : ∃ u', kLsel 0 u x1 x2 x3 x4 x5 = some u' ∧ pu_P u' := by
  show ∃ u', (k_bd (k_wrap [0] (f_X10_append u x1 x2 x3 x4 x5)) fun r => k_bd (f_X11_append (r.1 5) x1 x2 x3 x4 x5) fun q => kLck r q) = some u' ∧ _
  have hw0 : pu_R u (k_up (u 5) 0 0 0) := pu_R_th 0 h
  obtain ⟨⟨L, hW⟩, hA, ⟨hn, c, b1, b2, b3, b4, b5, b6⟩, hV, ⟨len, t1, t2, t3, t4⟩, ⟨ec, ep⟩, ⟨n, o1, o2, o3, o4⟩, hD⟩ := id hw0
  have q1 := pu_cnb4 x1
  have q2 := pu_cnb4 x2
  have q3 := pu_cnb4 x3
  have q4 := pu_cnb4 x4
  have q5 := pu_cnb4 x5
  have hX : f_X10_append u x1 x2 x3 x4 x5 = f_X10_append u x1 x2 x3 x4 x5 := rfl
  conv at hX => rhs; unfold f_X10_append f_X4_room
  rw [pu_bytC, k_bds, pu_bytC, k_bds, pu_bytC, k_bds, pu_bytC, k_bds, pu_bytC, k_bds, k_lts, k_bds, kn_add, kn_add, kn_add, kn_add, t2] at hX
  rw [show (600 : Int32) - kn len = kn (600 - len) from kn_sub (a := 600) (by omega)] at hX
  have hY : f_X11_append (u 5) x1 x2 x3 x4 x5 = f_X11_append (u 5) x1 x2 x3 x4 x5 := rfl
  conv at hY => rhs; unfold f_X11_append
  rw [k_lts, pu_bytM, k_bds, pu_bytM, k_bds, pu_bytM, k_bds, pu_bytM, k_bds, pu_bytM, k_bds, t3, kn_add, kn_add, kn_add, kn_add, kn_add] at hY
  unfold f_X11_append_48 at hY
  by_cases hfit : len + pu_cnb x1 + pu_cnb x2 + pu_cnb x3 + pu_cnb x4 + pu_cnb x5 ≤ 600
  · rw [if_pos (by rw [kn_le (by omega) (by omega)]; omega)] at hX
    rw [if_pos (by rw [kn_lel (by omega) (by omega)]; omega), pu_thr0 (pu_up00 0), k_bds, if_pos rfl] at hY
    dsimp only at hY
    obtain ⟨r1, m1, a1, z1, y1, f1⟩ := pu_addW (r := u 1) (m := k_up (u 5) 0 0 0) (len := len) ⟨t2, t3, t4⟩ x1 (by omega)
    obtain ⟨r2, m2, a2, z2, y2, f2⟩ := pu_addW y1 x2 (by omega)
    obtain ⟨r3, m3, a3, z3, y3, f3⟩ := pu_addW y2 x3 (by omega)
    obtain ⟨r4, m4, a4, z4, y4, f4⟩ := pu_addW y3 x4 (by omega)
    obtain ⟨r5, m5, a5, z5, y5, f5⟩ := pu_addW y4 x5 (by omega)
    have ff := pu_fx_tr f1 (pu_fx_tr f2 (pu_fx_tr f3 (pu_fx_tr f4 f5)))
    rw [a1, k_bds, k_lts, k_uc_s, a2, k_bds, k_lts, k_uc_s, a3, k_bds, k_lts, k_uc_s, a4, k_bds, k_lts, k_uc_s, a5, k_bds, k_lts, k_uc_s, y5.1] at hX
    rw [z1, k_bds, z2, k_bds, z3, k_bds, z4, k_bds, z5, k_bds, y5.2.1] at hY
    generalize hu1 : k_uc (k_uc (k_uc (k_uc (k_uc u 1 r1) 1 r2) 1 r3) 1 r4) 1 r5 = u1 at hX
    have g : ∀ k, k ≠ 1 → u1 k = u k := fun k hk => by rw [← hu1, pu_uc _ _ hk, pu_uc _ _ hk, pu_uc _ _ hk, pu_uc _ _ hk, pu_uc _ _ hk]
    have g1 : u1 1 = r5 := by rw [← hu1, k_uc_s]
    refine pu_okw (F := fun m => f_X11_append m x1 x2 x3 x4 x5) (u' := u1) (q := m5) hX ?_ (by rw [ff.2.1 0 (by decide), k_ups]) ?_
    · show f_X11_append (u1 5) x1 x2 x3 x4 x5 = _
      rw [g 5 (by decide)]
      exact hY
    · refine ⟨⟨L, ?_⟩, fun i hi => ?_, ⟨hn, c, b1, b2, ?_, ?_, ?_, fun j hj => ?_⟩, fun j hj => ?_, ⟨_, hfit, by rw [g1]; exact y5.1, y5.2.1, by rw [g1]; exact y5.2.2⟩, ⟨?_, ?_⟩, ⟨n, o1, ?_, ?_, ?_⟩, ?_⟩
      · rw [g 10 (by decide), ff.2.2 1 (by decide) (by decide)]
        exact hW
      · rw [g 0 (by decide), ff.2.2 7 (by decide) (by decide)]
        exact hA i hi
      · rw [g 4 (by decide), b3]
      · rw [g 4 (by decide), b4]
      · rw [ff.2.1 8 (by decide), b5]
      · rw [g _ (by omega), ff.2.2 4 (by decide) (by decide)]
        exact b6 j hj
      · rw [g 0 (by decide), g _ (by omega), ff.2.2 6 (by decide) (by decide), ff.2.2 5 (by decide) (by decide)]
        exact hV j hj
      · rw [g1, ff.1 3 (by decide), ff.2.1 15 (by decide), ec]
      · rw [g1, ff.1 4 (by decide), ff.2.1 16 (by decide), ep]
      · rw [g 3 (by decide), o2]
      · rw [ff.2.1 21 (by decide), o3]
      · rw [g 3 (by decide), ff.2.2 20 (by decide) (by decide)]
        exact o4
      · rw [g 14 (by decide)]
        exact hD
  · rw [if_neg (by rw [kn_le (by omega) (by omega)]; omega)] at hX
    rw [if_neg (by rw [kn_lel (by omega) (by omega)]; omega), pu_thr1 (pu_up00 0) (Or.inl rfl), k_bds, if_neg (show ¬ (1 : Int32) = 0 by decide)] at hY
    exact pu_erw (F := fun m => f_X11_append m x1 x2 x3 x4 x5) (u' := u) (j := 0) (v := 0) hX (by decide) hY (by show k_up (k_up (u 5) 0 0 0) 0 0 1 0 0 = _; rw [k_ups]; rfl) (by decide) (pu_R_th 1 hw0)

theorem pu_c1 {u : k_U} (h : pu_P u) (x1 x2 x3 x4 x5 : Int32) : ∃ u', kLsel 1 u x1 x2 x3 x4 x5 = some u' ∧ pu_P u' := by
  sorry
theorem pu_c2 {u : k_U} (h : pu_P u) (x1 x2 x3 x4 x5 : Int32) : ∃ u', kLsel 2 u x1 x2 x3 x4 x5 = some u' ∧ pu_P u' := by
  sorry
theorem pu_all {u : k_U} (h : pu_P u) (n : Nat) (x1 x2 x3 x4 x5 : Int32) : ∃ u', kLsel n u x1 x2 x3 x4 x5 = some u' ∧ pu_P u' :=
  match n with
  | 0 => pu_c0 h x1 x2 x3 x4 x5
  | 1 => pu_c1 h x1 x2 x3 x4 x5
  | 2 => pu_c2 h x1 x2 x3 x4 x5
  | 3 => pu_c3 h x1 x2 x3 x4 x5
  | 4 => pu_c4 h x1 x2 x3 x4 x5
  | 5 => pu_c5 h x1 x2 x3 x4 x5
  | 6 => pu_c6 h x1 x2 x3 x4 x5
  | 7 => pu_c7 h x1 x2 x3 x4 x5
  | 8 => pu_c8 h x1 x2 x3 x4 x5
  | 9 => pu_c9 h x1 x2 x3 x4 x5
  | 10 => pu_c10 h x1 x2 x3 x4 x5
  | 11 => pu_c11 h x1 x2 x3 x4 x5
  | 12 => pu_c12 h x1 x2 x3 x4 x5
  | 13 => pu_c13 h x1 x2 x3 x4 x5
  | 14 => pu_c14 h x1 x2 x3 x4 x5
  | 15 => pu_c15 h x1 x2 x3 x4 x5
  | 16 => pu_c16 h x1 x2 x3 x4 x5
  | 17 => pu_c17 h x1 x2 x3 x4 x5
  | 18 => pu_c18 h x1 x2 x3 x4 x5
  | 19 => pu_c19 h x1 x2 x3 x4 x5
  | 20 => pu_c20 h x1 x2 x3 x4 x5
  | 21 => pu_c21 h x1 x2 x3 x4 x5
  | 22 => pu_c22 h x1 x2 x3 x4 x5
  | 23 => pu_c23 h x1 x2 x3 x4 x5
  | 24 => pu_c24 h x1 x2 x3 x4 x5
  | 25 => pu_c25 h x1 x2 x3 x4 x5
  | 26 => pu_c26 h x1 x2 x3 x4 x5
  | 27 => pu_c27 h x1 x2 x3 x4 x5
  | 28 => pu_c28 h x1 x2 x3 x4 x5
  | 29 => pu_c29 h x1 x2 x3 x4 x5
  | 30 => pu_c30 h x1 x2 x3 x4 x5
  | 31 => pu_c31 h x1 x2 x3 x4 x5
  | 32 => pu_c32 h x1 x2 x3 x4 x5
  | 33 => pu_c33 h x1 x2 x3 x4 x5
  | 34 => pu_c34 h x1 x2 x3 x4 x5
  | 35 => pu_c35 h x1 x2 x3 x4 x5
  | 36 => pu_c36 h x1 x2 x3 x4 x5
  | 37 => pu_c37 h x1 x2 x3 x4 x5
  | 38 => pu_c38 h x1 x2 x3 x4 x5
  | 39 => pu_cx39 h x1 x2 x3 x4 x5
  | 40 => pu_c40 h x1 x2 x3 x4 x5
  | 41 => pu_c41 h x1 x2 x3 x4 x5
  | 42 => pu_c42 h x1 x2 x3 x4 x5
  | _ + 43 => ⟨u, rfl, h⟩
theorem pu_inv : ∃ (P : k_U → Prop) (r10 r11 : k_M), f_X9_begin kW0 3000 100 10 = some r10 ∧ f_X11_empties kM0 1 268 = some r11 ∧ P (kS_u0 r10 r11) ∧ ∀ (u : k_U) (n : Nat) (x1 x2 x3 x4 x5 : Int32), P u → ∃ u', kLsel n u x1 x2 x3 x4 x5 = some u' ∧ P u' := by
  obtain ⟨r10, r11, a, b, c⟩ := pu_start
  exact ⟨pu_P, r10, r11, a, b, c, fun u n x1 x2 x3 x4 x5 h => pu_all h n x1 x2 x3 x4 x5⟩

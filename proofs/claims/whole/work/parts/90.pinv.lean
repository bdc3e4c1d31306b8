theorem pu_inv : ∃ (P : k_U → Prop) (r10 r11 : k_M), f_X9_begin kW0 3000 100 10 = some r10 ∧ f_X11_empties kM0 1 268 = some r11 ∧ P (kS_u0 r10 r11) ∧ ∀ (u : k_U) (n : Nat) (x1 x2 x3 x4 x5 : Int32), P u → ∃ u', kLsel n u x1 x2 x3 x4 x5 = some u' ∧ P u' := by
  sorry

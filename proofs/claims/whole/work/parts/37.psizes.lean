/-! the queries that are read straight -/
theorem pu_F0 {L : Nat} {w : k_M} {s : Nat → Int32} (hW : pu_W L w s) : (s 0 = w 0 0 ∧ s 1 = w 0 1 ∧ s 2 = w 0 2 ∧ s 3 = w 0 3) ∧ (s 4 = w 0 4 ∧ s 5 = w 0 5 ∧ s 6 = w 0 6 ∧ s 7 = w 0 7) ∧ (s 13 = w 0 8 ∧ s 14 = w 0 9) := by
  obtain ⟨h, v, he, ma, -, -, ⟨a0, a1, a4, a3⟩, ⟨b0, b1, b4, b3⟩, c2, c5, c6, c7, c13, c14⟩ := hW.2.2.2.2.1
  exact ⟨⟨b0.trans a0.symm, b1.trans a1.symm, c2, b3.trans a3.symm⟩, ⟨b4.trans a4.symm, c5, c6, c7⟩, ⟨c13, c14⟩⟩
theorem pu_pos0 {L : Nat} {w : k_M} {s : Nat → Int32} (hW : pu_W L w s) : 0 ≤ w 0 0 := by
  obtain ⟨h, v, he, ma, ⟨hh, -⟩, -, ⟨a0, -⟩, -⟩ := hW.2.2.2.2.1
  rw [a0, show (0 : Int32) = kn 0 from rfl, kn_le (by decide) (by omega)]
  omega
theorem pu_c5 {u : k_U} (h : pu_P u) (x1 x2 x3 x4 x5 : Int32) : ∃ u', kLsel 5 u x1 x2 x3 x4 x5 = some u' ∧ pu_P u' := by
  show ∃ u', (k_bd (k_wrap0 [1] u (f_X10_capsule u x1)) fun r => k_bd (f_X11_capsule (r.1 5) x1) fun q => kLck r q) = some u' ∧ _
  obtain ⟨⟨L, hW⟩, -⟩ := id h
  have hw0 : pu_R u (k_up (u 5) 0 0 0) := pu_R_th 0 h
  have e1 : k_up (u 5) 0 0 0 1 = u 5 1 := k_upc _ _ (by decide)
  obtain ⟨⟨f0, f1, f2, f3⟩, ⟨f4, f5, f6, f7⟩, f13, f14⟩ := pu_F0 hW
  by_cases hb : 0 ≤ x1 ∧ x1 ≤ 8
  · obtain ⟨n, hn, rfl⟩ := kn_ofm (m := 9) (x := x1) hb.1 (by rw [show kn 9 = (9 : Int32) from rfl]; grind) (by decide)
    have key : ∃ v, f_X10_capsule u (kn n) = some (.inl v) ∧ f_X11_capsule (u 5) (kn n) = some (k_up (u 5) 0 0 0, v) := by
      unfold f_X10_capsule f_X11_capsule
      rw [pu_noPart, k_bds, if_pos hb, if_pos rfl]
      rw [show ((k_up (u 5) 0 0 0, (0 : Int32)).1) = k_up (u 5) 0 0 0 from rfl, e1]
      rcases (show n = 0 ∨ n = 1 ∨ n = 2 ∨ n = 3 ∨ n = 4 ∨ n = 5 ∨ n = 6 ∨ n = 7 ∨ n = 8 by omega) with rfl | rfl | rfl | rfl | rfl | rfl | rfl | rfl | rfl
      · refine ⟨u 10 0 0, ?_, ?_⟩
        · rw [if_pos (by decide)]
        · rw [if_neg (by decide), if_neg (by decide), k_ckn (by decide) (by decide), kn_nat (by decide), f0]
      · refine ⟨u 10 0 1, ?_, ?_⟩
        · rw [if_neg (by decide), if_pos (by decide)]
        · rw [if_neg (by decide), if_neg (by decide), k_ckn (by decide) (by decide), kn_nat (by decide), f1]
      · refine ⟨u 10 0 2, ?_, ?_⟩
        · rw [if_neg (by decide), if_neg (by decide), if_pos (by decide)]
        · rw [if_neg (by decide), if_neg (by decide), k_ckn (by decide) (by decide), kn_nat (by decide), f2]
      · refine ⟨u 10 0 3, ?_, ?_⟩
        · rw [if_neg (by decide), if_neg (by decide), if_neg (by decide), if_pos (by decide)]
        · rw [if_neg (by decide), if_neg (by decide), k_ckn (by decide) (by decide), kn_nat (by decide), f3]
      · refine ⟨u 10 0 4, ?_, ?_⟩
        · rw [if_neg (by decide), if_neg (by decide), if_neg (by decide), if_neg (by decide), if_pos (by decide)]
        · rw [if_neg (by decide), if_neg (by decide), k_ckn (by decide) (by decide), kn_nat (by decide), f4]
      · refine ⟨u 10 0 5, ?_, ?_⟩
        · rw [if_neg (by decide), if_neg (by decide), if_neg (by decide), if_neg (by decide), if_neg (by decide), if_pos (by decide)]
        · rw [if_neg (by decide), if_neg (by decide), k_ckn (by decide) (by decide), kn_nat (by decide), f5]
      · refine ⟨u 10 0 6, ?_, ?_⟩
        · rw [if_neg (by decide), if_neg (by decide), if_neg (by decide), if_neg (by decide), if_neg (by decide), if_neg (by decide), if_pos (by decide)]
        · rw [if_neg (by decide), if_neg (by decide), k_ckn (by decide) (by decide), kn_nat (by decide), f6]
      · obtain ⟨r, hr⟩ : ∃ r, f_X9_air (u 10) = some r := ⟨_, rfl⟩
        refine ⟨r, ?_, ?_⟩
        · rw [if_neg (by decide), if_neg (by decide), if_neg (by decide), if_neg (by decide), if_neg (by decide), if_neg (by decide), if_neg (by decide), if_pos (by decide), hr, k_bds]
        · rw [if_pos (by decide), pu_air (w := u 10) (m := u 5) f0, hr, k_bds]
      · obtain ⟨r, r1, r2⟩ := pu_result (w := u 10) (m := k_up (u 5) 0 0 0) (by rw [e1]; exact hW.2.2.2.2.2.2.2.1) (by rw [e1]; exact f0) (by rw [e1]; exact f1) (by rw [e1]; exact f2) (pu_pos0 hW)
        refine ⟨r, ?_, ?_⟩
        · rw [if_neg (by decide), if_neg (by decide), if_neg (by decide), if_neg (by decide), if_neg (by decide), if_neg (by decide), if_neg (by decide), if_neg (by decide), if_pos (by decide), r1, k_bds]
        · rw [if_neg (by decide), if_pos (by decide), r2, k_bds]
    obtain ⟨v, k1, k2⟩ := key
    exact pu_okw0 (F := fun m => f_X11_capsule m (kn n)) k1 k2 (k_ups _ _ _ _) hw0
  · refine pu_erw0 (F := fun m => f_X11_capsule m x1) (j := 1) (v := 0) (q := k_up (k_up (u 5) 0 0 0) 0 0 1) ?_ (by decide) ?_ (by rw [k_ups]; rfl) (by decide) (pu_R_th 1 hw0)
    · unfold f_X10_capsule
      rw [if_neg (fun h9 => hb (by rw [h9]; decide)), if_neg (fun h9 => hb (by rw [h9]; decide)), if_neg (fun h9 => hb (by rw [h9]; decide)), if_neg (fun h9 => hb (by rw [h9]; decide)), if_neg (fun h9 => hb (by rw [h9]; decide)), if_neg (fun h9 => hb (by rw [h9]; decide)), if_neg (fun h9 => hb (by rw [h9]; decide)), if_neg (fun h9 => hb (by rw [h9]; decide)), if_neg (fun h9 => hb (by rw [h9]; decide))]
    · show f_X11_capsule (u 5) x1 = _
      unfold f_X11_capsule
      rw [pu_noPart, k_bds, if_neg hb, if_neg (show ¬ (1 : Int32) = 0 by decide)]
theorem pu_cl10 (x y z : Int32) : pu_cl (kn 10) x y z = x := if_pos (by decide)
theorem pu_cl11 (x y z : Int32) : pu_cl (kn 11) x y z = (x - y) - z := by
  unfold pu_cl
  rw [if_neg (by decide), if_pos (by decide)]
theorem pu_cl12 (x y z : Int32) : pu_cl (kn 12) x y z = y := by
  unfold pu_cl
  rw [if_neg (by decide), if_neg (by decide), if_pos (by decide)]
theorem pu_cl13 (x y z : Int32) : pu_cl (kn 13) x y z = z := by
  unfold pu_cl
  rw [if_neg (by decide), if_neg (by decide), if_neg (by decide)]
theorem pu_c6 {u : k_U} (h : pu_P u) (x1 x2 x3 x4 x5 : Int32) : ∃ u', kLsel 6 u x1 x2 x3 x4 x5 = some u' ∧ pu_P u' := by
  show ∃ u', (k_bd (k_wrap0 [1] u (f_X10_size u x1)) fun r => k_bd (f_X11_size (r.1 5) x1) fun q => kLck r q) = some u' ∧ _
  obtain ⟨⟨L, hW⟩, -, ⟨hn', c', -, -, -, hc4, hc8, -⟩, -⟩ := id h
  have hw0 : pu_R u (k_up (u 5) 0 0 0) := pu_R_th 0 h
  have e1 : k_up (u 5) 0 0 0 1 = u 5 1 := k_upc _ _ (by decide)
  have hW0 : pu_W L (u 10) (k_up (u 5) 0 0 0 1) := by rw [e1]; exact hW
  have hL : L ≤ 8 := hW.1.1
  obtain ⟨⟨f0, f1, f2, f3⟩, ⟨f4, f5, f6, f7⟩, f13, f14⟩ := pu_F0 hW
  obtain ⟨nt, hnt, t1, t2, -⟩ := hW.2.2.2.2.2.1
  obtain ⟨nw, hnw, w1, w2, -⟩ := hW.2.2.2.2.2.2.1
  obtain ⟨ns, hns, s1, s2, -⟩ := hW.2.2.2.2.2.2.2.1
  obtain ⟨ee, ne, -, -, -, v1, v2, -⟩ := hW.2.2.2.2.2.2.2.2
  have all : f_X11_allLines (k_up (u 5) 0 0 0) = some (pu_sf (pu_g1 L (u 10)) 0 (pu_n L (u 10))) := pu_all_m hL hW0.1.2.2 hW0.2.1.2.1 hW0.2.1.1 (fun i hi => (pu_C_rows (hW0.2.2.1 i hi)).2.1)
  have thr : f_X11_linesThere (k_up (u 5) 0 0 0) = some (pu_sf (pu_gt L (u 10)) 0 (pu_n L (u 10))) := pu_thl_m hL hW0.1.2.2 hW0.2.1.2.1 hW0.2.1.1 (fun i hi => hW0.2.2.1 i hi)
  have lost : u 5 1 15 = pu_sf (pu_gc L (u 10)) 0 (pu_n L (u 10)) := hW.2.2.2.1
  have spl := pu_sf_split L (u 10) (pu_n L (u 10)) 0
  have cnt := fun a => pu_lines_c hL hW.1.2.1 a
  by_cases hb : 0 ≤ x1 ∧ x1 ≤ 15
  · obtain ⟨n, hn, rfl⟩ := kn_ofm (m := 16) (x := x1) hb.1 (by rw [show kn 16 = (16 : Int32) from rfl]; grind) (by decide)
    have key : ∃ v, f_X10_size u (kn n) = some (.inl v) ∧ f_X11_size (u 5) (kn n) = some (k_up (u 5) 0 0 0, v) := by
      unfold f_X10_size f_X11_size
      rw [pu_noPart, k_bds, if_pos hb, if_pos rfl, if_neg (by grind), if_pos hb.2]
      rw [show ((k_up (u 5) 0 0 0, (0 : Int32)).1) = k_up (u 5) 0 0 0 from rfl, e1]
      rcases (show n = 0 ∨ n = 1 ∨ n = 2 ∨ n = 3 ∨ n = 4 ∨ n = 5 ∨ n = 6 ∨ n = 7 ∨ n = 8 ∨ n = 9 ∨ n = 10 ∨ n = 11 ∨ n = 12 ∨ n = 13 ∨ n = 14 ∨ n = 15 by omega) with rfl | rfl | rfl | rfl | rfl | rfl | rfl | rfl | rfl | rfl | rfl | rfl | rfl | rfl | rfl | rfl
      · refine ⟨u 10 0 10, ?_, ?_⟩
        · rw [if_pos (by decide)]
        · rw [if_pos (by decide), hW.1.2.2, hW.1.2.1]
      · refine ⟨u 10 0 11, ?_, ?_⟩
        · rw [if_neg (by decide), if_pos (by decide)]
          rcases hW.2.1.1 with h9 | h9
          · rw [h9, if_pos rfl]
          · rw [h9, if_neg (by decide)]
        · rw [if_neg (by decide), if_pos (by decide), hW.2.1.2.1]
      · refine ⟨u 10 3 2, ?_, ?_⟩
        · rw [if_neg (by decide), if_neg (by decide), if_pos (by decide)]
        · rw [if_neg (by decide), if_neg (by decide), if_pos (by decide), t1, t2]
      · refine ⟨u 10 6 2, ?_, ?_⟩
        · rw [if_neg (by decide), if_neg (by decide), if_neg (by decide), if_pos (by decide)]
        · rw [if_neg (by decide), if_neg (by decide), if_neg (by decide), if_pos (by decide), w1, w2]
      · refine ⟨u 10 9 3, ?_, ?_⟩
        · rw [if_neg (by decide), if_neg (by decide), if_neg (by decide), if_neg (by decide), if_pos (by decide)]
        · rw [if_neg (by decide), if_neg (by decide), if_neg (by decide), if_neg (by decide), if_pos (by decide), s1, s2]
      · refine ⟨u 10 0 7, ?_, ?_⟩
        · rw [if_neg (by decide), if_neg (by decide), if_neg (by decide), if_neg (by decide), if_neg (by decide), if_pos (by decide)]
        · rw [if_neg (by decide), if_neg (by decide), if_neg (by decide), if_neg (by decide), if_neg (by decide), if_pos (by decide), f7]
      · refine ⟨pu_sf (pu_fs L (u 10) 1) 0 (pu_n L (u 10)), ?_, ?_⟩
        · rw [if_neg (by decide), if_neg (by decide), if_neg (by decide), if_neg (by decide), if_neg (by decide), if_neg (by decide), if_pos (by decide), (pu_openN hW).1, k_bds]
        · rw [if_neg (by decide), if_neg (by decide), if_neg (by decide), if_neg (by decide), if_neg (by decide), if_neg (by decide), if_pos (by decide), (pu_openN hW0).2, k_bds]
      · refine ⟨pu_sf (pu_ff (u 10)) 0 L, ?_, ?_⟩
        · rw [if_neg (by decide), if_neg (by decide), if_neg (by decide), if_neg (by decide), if_neg (by decide), if_neg (by decide), if_neg (by decide), if_pos (by decide), (pu_failed hW).1, k_bds]
        · rw [if_neg (by decide), if_neg (by decide), if_neg (by decide), if_neg (by decide), if_neg (by decide), if_neg (by decide), if_neg (by decide), if_pos (by decide), (pu_failed hW0).2, k_bds]
      · refine ⟨u 10 13 2, ?_, ?_⟩
        · rw [if_neg (by decide), if_neg (by decide), if_neg (by decide), if_neg (by decide), if_neg (by decide), if_neg (by decide), if_neg (by decide), if_neg (by decide), if_pos (by decide)]
        · rw [if_neg (by decide), if_neg (by decide), if_neg (by decide), if_neg (by decide), if_neg (by decide), if_neg (by decide), if_neg (by decide), if_neg (by decide), if_pos (by decide), v1, v2]
      · refine ⟨u 4 0 2, ?_, ?_⟩
        · rw [if_neg (by decide), if_neg (by decide), if_neg (by decide), if_neg (by decide), if_neg (by decide), if_neg (by decide), if_neg (by decide), if_neg (by decide), if_neg (by decide), if_pos (by decide)]
        · rw [if_neg (by decide), if_neg (by decide), if_neg (by decide), if_neg (by decide), if_neg (by decide), if_neg (by decide), if_neg (by decide), if_neg (by decide), if_neg (by decide), if_pos (by decide), k_upi _ _ (by decide), hc4, hc8]
      · refine ⟨pu_sf (pu_g1 L (u 10)) 0 (pu_n L (u 10)), ?_, ?_⟩
        · rw [if_neg (by decide), if_neg (by decide), if_neg (by decide), if_neg (by decide), if_neg (by decide), if_neg (by decide), if_neg (by decide), if_neg (by decide), if_neg (by decide), if_neg (by decide), if_pos (by decide), cnt, k_bds, pu_cl10]
        · rw [if_neg (by decide), if_neg (by decide), if_neg (by decide), if_neg (by decide), if_neg (by decide), if_neg (by decide), if_neg (by decide), if_neg (by decide), if_neg (by decide), if_neg (by decide), if_pos (by decide), all, k_bds]
      · refine ⟨(pu_sf (pu_g1 L (u 10)) 0 (pu_n L (u 10)) - pu_sf (pu_g7 L (u 10)) 0 (pu_n L (u 10))) - pu_sf (pu_gc L (u 10)) 0 (pu_n L (u 10)), ?_, ?_⟩
        · rw [if_neg (by decide), if_neg (by decide), if_neg (by decide), if_neg (by decide), if_neg (by decide), if_neg (by decide), if_neg (by decide), if_neg (by decide), if_neg (by decide), if_neg (by decide), if_neg (by decide), if_pos (by decide), cnt, k_bds, pu_cl11]
        · rw [if_neg (by decide), if_neg (by decide), if_neg (by decide), if_neg (by decide), if_neg (by decide), if_neg (by decide), if_neg (by decide), if_neg (by decide), if_neg (by decide), if_neg (by decide), if_neg (by decide), if_pos (by decide), thr, k_bds, spl]
      · refine ⟨pu_sf (pu_g7 L (u 10)) 0 (pu_n L (u 10)), ?_, ?_⟩
        · rw [if_neg (by decide), if_neg (by decide), if_neg (by decide), if_neg (by decide), if_neg (by decide), if_neg (by decide), if_neg (by decide), if_neg (by decide), if_neg (by decide), if_neg (by decide), if_neg (by decide), if_neg (by decide), if_pos (by decide), cnt, k_bds, pu_cl12]
        · rw [if_neg (by decide), if_neg (by decide), if_neg (by decide), if_neg (by decide), if_neg (by decide), if_neg (by decide), if_neg (by decide), if_neg (by decide), if_neg (by decide), if_neg (by decide), if_neg (by decide), if_neg (by decide), if_pos (by decide), all, k_bds, thr, k_bds, lost, spl]
          refine congrArg (fun z => some (k_up (u 5) 0 0 0, z)) ?_
          grind
      · refine ⟨pu_sf (pu_gc L (u 10)) 0 (pu_n L (u 10)), ?_, ?_⟩
        · rw [if_neg (by decide), if_neg (by decide), if_neg (by decide), if_neg (by decide), if_neg (by decide), if_neg (by decide), if_neg (by decide), if_neg (by decide), if_neg (by decide), if_neg (by decide), if_neg (by decide), if_neg (by decide), if_neg (by decide), if_pos (by decide), cnt, k_bds, pu_cl13]
        · rw [if_neg (by decide), if_neg (by decide), if_neg (by decide), if_neg (by decide), if_neg (by decide), if_neg (by decide), if_neg (by decide), if_neg (by decide), if_neg (by decide), if_neg (by decide), if_neg (by decide), if_neg (by decide), if_neg (by decide), if_pos (by decide), lost]
      · refine ⟨u 10 0 8, ?_, ?_⟩
        · rw [if_neg (by decide), if_neg (by decide), if_neg (by decide), if_neg (by decide), if_neg (by decide), if_neg (by decide), if_neg (by decide), if_neg (by decide), if_neg (by decide), if_neg (by decide), if_neg (by decide), if_neg (by decide), if_neg (by decide), if_neg (by decide), if_pos (by decide)]
        · rw [if_neg (by decide), if_neg (by decide), if_neg (by decide), if_neg (by decide), if_neg (by decide), if_neg (by decide), if_neg (by decide), if_neg (by decide), if_neg (by decide), if_neg (by decide), if_neg (by decide), if_neg (by decide), if_neg (by decide), if_neg (by decide), if_pos (by decide), f13]
      · refine ⟨u 10 0 9, ?_, ?_⟩
        · rw [if_neg (by decide), if_neg (by decide), if_neg (by decide), if_neg (by decide), if_neg (by decide), if_neg (by decide), if_neg (by decide), if_neg (by decide), if_neg (by decide), if_neg (by decide), if_neg (by decide), if_neg (by decide), if_neg (by decide), if_neg (by decide), if_neg (by decide), if_pos (by decide)]
        · rw [if_neg (by decide), if_neg (by decide), if_neg (by decide), if_neg (by decide), if_neg (by decide), if_neg (by decide), if_neg (by decide), if_neg (by decide), if_neg (by decide), if_neg (by decide), if_neg (by decide), if_neg (by decide), if_neg (by decide), if_neg (by decide), if_neg (by decide), f14]
    obtain ⟨v, k1, k2⟩ := key
    exact pu_okw0 (F := fun m => f_X11_size m (kn n)) k1 k2 (k_ups _ _ _ _) hw0
  · refine pu_erw0 (F := fun m => f_X11_size m x1) (j := 1) (v := 0) (q := k_up (k_up (u 5) 0 0 0) 0 0 1) ?_ (by decide) ?_ (by rw [k_ups]; rfl) (by decide) (pu_R_th 1 hw0)
    · unfold f_X10_size f_X10_size_10
      by_cases h1 : x1 < 0
      · rw [if_pos h1]
      · rw [if_neg h1, if_neg (by grind)]
    · show f_X11_size (u 5) x1 = _
      unfold f_X11_size
      rw [pu_noPart, k_bds, if_neg hb, if_neg (show ¬ (1 : Int32) = 0 by decide)]

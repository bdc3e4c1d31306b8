theorem pu_coolD {L : Nat} {w : k_M} {s s1 : Nat → Int32} (hD : pu_Dr L w s) {a : Int32} (h7 : s1 7 = a) (hs : ∀ j, j ≠ 7 → s1 j = s j) : pu_Dr L (k_up w 0 7 a) s1 := by
  obtain ⟨hW, h0, hz, h91⟩ := hD
  have hL := hW.1.1
  have hn : pu_n L (k_up w 0 7 a) = pu_n L w := pu_n_congr (k_upi _ _ (by decide))
  refine ⟨pu_W_scal hW (fun c hc => k_upc _ _ hc) (k_upi _ _ (by decide)) (k_upi _ _ (by decide)) (fun j h1 h2 h3 => hs j (by omega)) ?_, fun i hi => ?_, fun p hp => by rw [hs _ (by omega)]; exact hz p hp, by rw [hs 91 (by decide)]; exact h91⟩
  · obtain ⟨hh, v, he, ma, h1, h2, ⟨a0, a1, a4, a3⟩, ⟨b0, b1, b4, b3⟩, c2, c5, c6, c7, c13, c14⟩ := hW.2.2.2.2.1
    have e : ∀ i, i ≠ 7 → k_up w 0 7 a 0 i = w 0 i := fun i hi => k_upi _ _ hi
    exact ⟨hh, v, he, ma, h1, h2, ⟨by rw [e 0 (by decide)]; exact a0, by rw [e 1 (by decide)]; exact a1, by rw [e 4 (by decide)]; exact a4, by rw [e 3 (by decide)]; exact a3⟩, ⟨by rw [hs 0 (by decide)]; exact b0, by rw [hs 1 (by decide)]; exact b1, by rw [hs 4 (by decide)]; exact b4, by rw [hs 3 (by decide)]; exact b3⟩, by rw [hs 2 (by decide), e 2 (by decide)]; exact c2, by rw [hs 5 (by decide), e 5 (by decide)]; exact c5, by rw [hs 6 (by decide), e 6 (by decide)]; exact c6, by rw [h7, k_ups], by rw [hs 13 (by decide), e 8 (by decide)]; exact c13, by rw [hs 14 (by decide), e 9 (by decide)]; exact c14⟩
  · have hq := pu_q_r (i := i) hL
    rw [k_upc _ _ (by omega)]
    exact h0 i (by omega)
theorem pu_sCool {u : k_U} {m m1 : k_M} {len nx nx1 L : Nat} (h1 : pu_Rd (u 1) m1 len nx1) (hmf : pu_mf m m1) (hnx : nx < nx1) (hD : pu_Dr L (u 14) (m 2)) : pu_Re u m len nx (k_bd (f_X4_takeNumber (u 1) 0 99) fun r102 => k_lt (k_uc u 1 r102.1) fun u102 => k_lt (k_uc u102 14 (k_up (u102 14) 0 7 r102.2)) fun u105 => some u105) (k_bd (f_X11_takesInto m1 7 0 99) fun r91 => (if r91.2 = 0 then some (r91.1, 0) else some (r91.1, 1))) := by
  have hfl := hD.1.2.1.2.2
  rcases pu_into h1 (i := 7) (by omega) 0 99 with ⟨r', m', nx2, v, e1, e2, e3, e4, e5, e6, e7, e8, e9⟩ | ⟨r', m', e1, e2, e3, e4⟩
  · have e2 : f_X11_takesInto m1 7 0 99 = some (k_up m' 2 7 (kn v), 1) := e2
    rw [e1, k_bds, k_lts, k_lts, e2, k_bds, if_neg (show ¬ (1 : Int32) = 0 by decide)]
    refine Or.inl ⟨_, _, nx2, L, rfl, rfl, ?_, by omega, ?_, fun k a b => by rw [pu_uc _ _ b, pu_uc _ _ a], pu_mg_tr (pu_mg_mf (pu_mf_tr hmf e8)) (pu_mg_up _ _ _)⟩
    · rw [pu_uc _ _ (show 1 ≠ 14 by decide), k_uc_s]
      exact e6
    · rw [k_uc_s, pu_uc _ _ (show 14 ≠ 1 by decide)]
      show pu_Dr L (k_up (u 14) 0 7 (kn v)) (k_up m' 2 7 (kn v) 2)
      exact pu_coolD hD (k_ups _ _ _ _) (fun j hj => by rw [k_upi _ _ hj, e8.1 2 (by decide), hmf.1 2 (by decide)])
  · have e2 : f_X11_takesInto m1 7 0 99 = some (m', 0) := e2
    rw [e1, k_bds, k_lts, k_lts, e2, k_bds, if_pos rfl]
    refine Or.inr ⟨_, m', rfl, rfl, ?_, ?_, fun k a b => by rw [pu_uc _ _ b, pu_uc _ _ a], pu_mg_mf (pu_mf_tr hmf e4)⟩
    · rw [pu_uc _ _ (show 1 ≠ 14 by decide), k_uc_s]
      exact e3
    · rw [k_uc_s, pu_uc _ _ (show 14 ≠ 1 by decide), k_upc _ _ (show 2 ≠ 0 by decide)]
      exact hfl

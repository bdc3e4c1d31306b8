/-! the program's state u against the reference's cells m -/
def pu_A (u : k_U) (m : k_M) : Prop := ∀ i, i < 10 → u 0 3 i = m 7 i
def pu_H (u : k_U) (m : k_M) : Prop := ∃ hn c : Nat, hn < 8 ∧ c ≤ 8 ∧ u 4 0 1 = kn hn ∧ u 4 0 2 = kn c ∧ m 0 8 = kn c ∧ ∀ j, j < c → ∃ L, pu_W L (u (15 + (hn + 8 - c + j) % 8)) (fun i => m 4 (268 * j + i))
def pu_V (u : k_U) (m : k_M) : Prop := ∀ j, j < 2 → u 0 2 j = m 6 j ∧ (u 0 2 j = 0 ∨ (u 0 2 j = 1 ∧ ∃ L, pu_W L (u (12 + j)) (fun i => m 5 (268 * j + i))))
def pu_X (u : k_U) (m : k_M) : Prop := ∃ len : Nat, len ≤ 600 ∧ u 1 0 2 = kn len ∧ m 0 10 = kn len ∧ ∀ i, i < len → ∃ b : Nat, 1 ≤ b ∧ b ≤ 255 ∧ u 1 1 i = kn b ∧ f_X4_kindOf (kn b) = some (u 1 2 i) ∧ m 9 i = (kn b).toInt8.toInt32
def pu_O (u : k_U) (m : k_M) : Prop := ∃ n : Nat, n ≤ 60 ∧ u 3 0 1 = kn n ∧ m 0 21 = kn n ∧ ∀ i, i < n → u 3 1 i = m 20 i
def pu_R (u : k_U) (m : k_M) : Prop :=
  (∃ L, pu_W L (u 10) (m 1)) ∧ pu_A u m ∧ pu_H u m ∧ pu_V u m ∧ pu_X u m ∧ (u 1 0 3 = m 0 15 ∧ u 1 0 4 = m 0 16) ∧ pu_O u m ∧ (u 14 2 6 = 0 ∨ u 14 2 6 = 1)
def pu_P (u : k_U) : Prop := pu_R u (u 5)
theorem pu_uc (u : k_U) {k k' : Nat} (w : k_M) (h : k' ≠ k) : k_uc u k w k' = u k' := if_neg h
theorem pu_same_rf (L : Nat) (w : k_M) : pu_same L w w := ⟨fun _ _ => rfl, fun _ _ _ _ => rfl, fun _ _ => rfl, ⟨rfl, rfl, rfl, rfl, rfl⟩, fun _ _ _ _ => rfl, fun _ _ => rfl⟩
theorem pu_W_s {L : Nat} {w : k_M} {s s1 : Nat → Int32} (hW : pu_W L w s) (hs : ∀ j, j < 268 → s1 j = s j) : pu_W L w s1 := pu_W_same hW (pu_same_rf L w) hs
/-- what the relation reads -/
theorem pu_R_congr {u u1 : k_U} {m m1 : k_M} (h : pu_R u m) (hW : ∃ L, pu_W L (u1 10) (m1 1)) (h0 : u1 0 2 = u 0 2 ∧ u1 0 3 = u 0 3) (h1 : u1 1 = u 1) (h3 : u1 3 = u 3) (h4 : u1 4 = u 4) (h12 : u1 12 = u 12 ∧ u1 13 = u 13) (h14 : u1 14 2 6 = 0 ∨ u1 14 2 6 = 1) (hh : ∀ k, 15 ≤ k → k < 23 → u1 k = u k) (g0 : ∀ i, i ≠ 0 → i ≠ 1 → i ≠ 2 → i ≠ 11 → i ≠ 12 → i ≠ 13 → i ≠ 14 → i ≠ 17 → i ≠ 19 → m1 0 i = m 0 i) (g : ∀ c, c = 4 ∨ c = 5 ∨ c = 6 ∨ c = 7 ∨ c = 9 ∨ c = 20 → m1 c = m c) : pu_R u1 m1 := by
  obtain ⟨-, hA, ⟨hn, c, b1, b2, b3, b4, b5, b6⟩, hV, ⟨len, x1, x2, x3, x4⟩, ⟨e1, e2⟩, ⟨n, o1, o2, o3, o4⟩, hD⟩ := h
  refine ⟨hW, fun i hi => ?_, ⟨hn, c, b1, b2, by rw [h4, b3], by rw [h4, b4], by rw [g0 8 (by decide) (by decide) (by decide) (by decide) (by decide) (by decide) (by decide) (by decide) (by decide), b5], fun j hj => ?_⟩, fun j hj => ?_, ⟨len, x1, by rw [h1, x2], by rw [g0 10 (by decide) (by decide) (by decide) (by decide) (by decide) (by decide) (by decide) (by decide) (by decide), x3], by rw [h1, g 9 (by decide)]; exact x4⟩, ⟨by rw [h1, g0 15 (by decide) (by decide) (by decide) (by decide) (by decide) (by decide) (by decide) (by decide) (by decide), e1], by rw [h1, g0 16 (by decide) (by decide) (by decide) (by decide) (by decide) (by decide) (by decide) (by decide) (by decide), e2]⟩, ⟨n, o1, by rw [h3, o2], by rw [g0 21 (by decide) (by decide) (by decide) (by decide) (by decide) (by decide) (by decide) (by decide) (by decide), o3], by rw [h3, g 20 (by decide)]; exact o4⟩, h14⟩
  · rw [h0.2, g 7 (by decide)]
    exact hA i hi
  · rw [hh _ (by omega) (by omega), g 4 (by decide)]
    exact b6 j hj
  · rw [h0.1, g 6 (by decide), g 5 (by decide)]
    have e : u1 (12 + j) = u (12 + j) := by
      rcases (show j = 0 ∨ j = 1 by omega) with rfl | rfl
      · exact h12.1
      · exact h12.2
    rw [e]
    exact hV j hj
/-- the box of a call's answer and the reference's own component are none of its matter -/
theorem pu_R_box {u : k_U} {m : k_M} {k : Nat} {f : k_M} (hk : k = 5 ∨ k = 6) (h : pu_R u m) : pu_R (k_uc u k f) m := by
  have e : ∀ k', k' ≠ 5 → k' ≠ 6 → k_uc u k f k' = u k' := fun k' a b => pu_uc u f (by rintro rfl; rcases hk with h | h <;> omega)
  refine pu_R_congr h ?_ ?_ (e 1 (by decide) (by decide)) (e 3 (by decide) (by decide)) (e 4 (by decide) (by decide)) ⟨e 12 (by decide) (by decide), e 13 (by decide) (by decide)⟩ ?_ (fun k' a b => e k' (by omega) (by omega)) (fun _ _ _ _ _ _ _ _ _ _ => rfl) (fun _ _ => rfl)
  · rw [e 10 (by decide) (by decide)]
    exact h.1
  · rw [e 0 (by decide) (by decide)]
    exact ⟨rfl, rfl⟩
  · rw [e 14 (by decide) (by decide)]
    exact h.2.2.2.2.2.2.2
/-- the reference's thrown alone -/
theorem pu_R_th {u : k_U} {m : k_M} (v : Int32) (h : pu_R u m) : pu_R u (k_up m 0 0 v) := by
  refine pu_R_congr h ?_ ⟨rfl, rfl⟩ rfl rfl rfl ⟨rfl, rfl⟩ h.2.2.2.2.2.2.2 (fun _ _ _ => rfl) (fun i h0 _ _ _ _ _ _ _ _ => k_upi _ _ h0) (fun c hc => k_upc _ _ (by omega))
  rw [k_upc _ _ (by decide)]
  exact h.1
/-- the world and the reference's state alone -/
theorem pu_R_w {L : Nat} {u : k_U} {m m1 : k_M} {w1 : k_M} (h : pu_R u m) (hW : pu_W L w1 (m1 1)) (hm : ∀ c, c ≠ 1 → m1 c = m c) : pu_R (k_uc u 10 w1) m1 := by
  have e : ∀ k', k' ≠ 10 → k_uc u 10 w1 k' = u k' := fun k' a => pu_uc u w1 a
  refine pu_R_congr h ⟨L, by rw [k_uc_s]; exact hW⟩ ?_ (e 1 (by decide)) (e 3 (by decide)) (e 4 (by decide)) ⟨e 12 (by decide), e 13 (by decide)⟩ ?_ (fun k' a b => e k' (by omega)) (fun i _ _ _ _ _ _ _ _ _ => by rw [hm 0 (by decide)]) (fun c hc => hm c (by omega))
  · rw [e 0 (by decide)]
    exact ⟨rfl, rfl⟩
  · rw [e 14 (by decide)]
    exact h.2.2.2.2.2.2.2
/-! one call: both answer, the answers agree -/
theorem pu_okw {js : List Nat} {u' : k_U} {v : Int32} {x : Option (k_U × (Int32 ⊕ Nat))} {F : k_M → Option (k_M × Int32)} {q : k_M} (hx : x = some (u', .inl v)) (hq : F (u' 5) = some (q, v)) (h0 : q 0 0 = 0) (hR : pu_R u' q) : ∃ u'', (k_bd (k_wrap js x) fun r => k_bd (F (r.1 5)) fun q => kLck r q) = some u'' ∧ pu_P u'' := by
  refine ⟨k_uc (k_uc u' 6 (k_up (u' 6) 0 0 v)) 5 q, ?_, ?_⟩
  · rw [hx]
    show k_bd (F (k_uc u' 6 (k_up (u' 6) 0 0 v) 5)) _ = _
    rw [pu_uc _ _ (by decide), hq]
    show k_ck (q 0 0 = 0 ∧ ((0 : Int32) = 0 → k_uc u' 6 (k_up (u' 6) 0 0 v) 6 0 0 = v)) _ = _
    exact k_ckp ⟨h0, fun _ => by rw [k_uc_s, k_ups]⟩
  · show pu_R _ (k_uc _ 5 q 5)
    rw [k_uc_s]
    exact pu_R_box (Or.inl rfl) (pu_R_box (Or.inr rfl) hR)
theorem pu_erw {js : List Nat} {u' : k_U} {j : Nat} {v : Int32} {x : Option (k_U × (Int32 ⊕ Nat))} {F : k_M → Option (k_M × Int32)} {q : k_M} (hx : x = some (u', .inr j)) (hj : j ∈ js) (hq : F (u' 5) = some (q, v)) (h0 : q 0 0 = Int32.ofNat (js.idxOf j + 1)) (h1 : ¬ Int32.ofNat (js.idxOf j + 1) = 0) (hR : pu_R u' q) : ∃ u'', (k_bd (k_wrap js x) fun r => k_bd (F (r.1 5)) fun q => kLck r q) = some u'' ∧ pu_P u'' := by
  refine ⟨k_uc u' 5 q, ?_, ?_⟩
  · rw [hx]
    have e : k_wrap js (some (u', .inr j)) = some (u', Int32.ofNat (js.idxOf j + 1)) := if_pos hj
    rw [e]
    show k_bd (F (u' 5)) _ = _
    rw [hq]
    exact k_ckp ⟨h0, fun h => absurd h h1⟩
  · show pu_R _ (k_uc _ 5 q 5)
    rw [k_uc_s]
    exact pu_R_box (Or.inl rfl) hR
theorem pu_okw0 {js : List Nat} {u : k_U} {v : Int32} {x : Option (Int32 ⊕ Nat)} {F : k_M → Option (k_M × Int32)} {q : k_M} (hx : x = some (.inl v)) (hq : F (u 5) = some (q, v)) (h0 : q 0 0 = 0) (hR : pu_R u q) : ∃ u'', (k_bd (k_wrap0 js u x) fun r => k_bd (F (r.1 5)) fun q => kLck r q) = some u'' ∧ pu_P u'' := by
  obtain ⟨u'', e1, e2⟩ := pu_okw (js := js) (x := some (u, .inl v)) rfl hq h0 hR
  rw [hx]
  exact ⟨u'', e1, e2⟩
theorem pu_erw0 {js : List Nat} {u : k_U} {j : Nat} {v : Int32} {x : Option (Int32 ⊕ Nat)} {F : k_M → Option (k_M × Int32)} {q : k_M} (hx : x = some (.inr j)) (hj : j ∈ js) (hq : F (u 5) = some (q, v)) (h0 : q 0 0 = Int32.ofNat (js.idxOf j + 1)) (h1 : ¬ Int32.ofNat (js.idxOf j + 1) = 0) (hR : pu_R u q) : ∃ u'', (k_bd (k_wrap0 js u x) fun r => k_bd (F (r.1 5)) fun q => kLck r q) = some u'' ∧ pu_P u'' := by
  obtain ⟨u'', e1, e2⟩ := pu_erw (js := js) (x := some (u, .inr j)) rfl hj hq h0 h1 hR
  rw [hx]
  exact ⟨u'', e1, e2⟩
theorem pu_okr {u' : k_U} {v : Int32} {x : Option (k_U × Int32)} {F : k_M → Option (k_M × Int32)} {q : k_M} (hx : x = some (u', v)) (hq : F (u' 5) = some (q, v)) (hR : pu_R u' q) : ∃ u'', (k_bd x fun r => k_bd (F (r.1 5)) fun q => k_ck (r.2 = q.2) (some (k_uc r.1 5 q.1))) = some u'' ∧ pu_P u'' := by
  refine ⟨k_uc u' 5 q, ?_, ?_⟩
  · rw [hx]
    show k_bd (F (u' 5)) _ = _
    rw [hq]
    exact k_ckp rfl
  · show pu_R _ (k_uc _ 5 q 5)
    rw [k_uc_s]
    exact pu_R_box (Or.inl rfl) hR
theorem pu_okv {u : k_U} {v : Int32} {x : Option Int32} {F : k_M → Option (k_M × Int32)} {q : k_M} (hx : x = some v) (hq : F (u 5) = some (q, v)) (hR : pu_R u q) : ∃ u'', (k_bd x fun v => k_bd (F (u 5)) fun q => k_ck (v = q.2) (some (k_uc u 5 q.1))) = some u'' ∧ pu_P u'' := by
  refine ⟨k_uc u 5 q, ?_, ?_⟩
  · rw [hx]
    show k_bd (F (u 5)) _ = _
    rw [hq]
    exact k_ckp rfl
  · show pu_R _ (k_uc _ 5 q 5)
    rw [k_uc_s]
    exact pu_R_box (Or.inl rfl) hR
theorem pu_okl {u : k_U} {v : Int64} {x : Option Int64} {F : k_M → Option (k_M × Int64)} {q : k_M} (hx : x = some v) (hq : F (u 5) = some (q, v)) (hR : pu_R u q) : ∃ u'', (k_bd x fun v => k_bd (F (u 5)) fun q => k_ck (v = q.2) (some (k_uc u 5 q.1))) = some u'' ∧ pu_P u'' := by
  refine ⟨k_uc u 5 q, ?_, ?_⟩
  · rw [hx]
    show k_bd (F (u 5)) _ = _
    rw [hq]
    exact k_ckp rfl
  · show pu_R _ (k_uc _ 5 q 5)
    rw [k_uc_s]
    exact pu_R_box (Or.inl rfl) hR
/-! the reference's refusals by exception -/
theorem pu_in (a b c : Int32) : f_X11_within a b c = some (if b ≤ a ∧ a ≤ c then 1 else 0) := by
  unfold f_X11_within
  by_cases h1 : a < b
  · rw [if_pos h1, if_neg (by grind)]
  · rw [if_neg h1]
    by_cases h2 : c < a
    · rw [if_pos h2, if_neg (by grind)]
    · rw [if_neg h2, if_pos (by grind)]
theorem pu_thr0 {w : k_M} (h : w 0 0 = 0) (c : Int32) : f_X11_throwsIf w 0 c = some (w, 0) := by
  unfold f_X11_throwsIf f_X11_throwsIf_16
  rw [if_pos h, if_pos rfl, if_pos (by rw [h]; decide)]
theorem pu_thr1 {w : k_M} (h : w 0 0 = 0) {c : Int32} (hc : c = 1 ∨ c = 2 ∨ c = 3) : f_X11_throwsIf w 1 c = some (k_up w 0 0 c, 1) := by
  unfold f_X11_throwsIf f_X11_throwsIf_16
  rw [if_pos h, if_neg (by decide)]
  simp only [k_lts]
  rw [if_neg]
  rw [k_ups]
  rcases hc with rfl | rfl | rfl <;> decide
theorem pu_up00 {m : k_M} (v : Int32) : k_up m 0 0 v 0 0 = v := k_ups _ _ _ _
theorem pu_noPart {m : k_M} (x b : Int32) : f_X11_noPart m x b = some (if 0 ≤ x ∧ x ≤ b then (k_up m 0 0 0, 0) else (k_up (k_up m 0 0 0) 0 0 1, 1)) := by
  unfold f_X11_noPart f_X11_noPart_20
  simp only [k_lts, pu_in, k_bds]
  by_cases h : 0 ≤ x ∧ x ≤ b
  · rw [if_pos h, if_pos h, if_neg (by decide), pu_thr0 (pu_up00 0)]
    simp only [k_bds]
    exact k_ckp (Or.inl trivial)
  · rw [if_neg h, if_neg h, if_pos rfl, pu_thr1 (pu_up00 0) (Or.inl rfl)]
    simp only [k_bds]
    exact k_ckp (Or.inr trivial)
theorem pu_noSlot {m : k_M} (x : Int32) : f_X11_noSlot m x = some (if 0 ≤ x ∧ x ≤ 1 then (k_up m 0 0 0, 0) else (k_up (k_up m 0 0 0) 0 0 1, 1)) := by
  unfold f_X11_noSlot f_X11_noSlot_20
  simp only [k_lts, pu_in, k_bds]
  by_cases h : 0 ≤ x ∧ x ≤ 1
  · rw [if_pos h, if_pos h, if_neg (by decide), pu_thr0 (pu_up00 0)]
    simp only [k_bds]
    exact k_ckp (Or.inl trivial)
  · rw [if_neg h, if_neg h, if_pos rfl, pu_thr1 (pu_up00 0) (Or.inl rfl)]
    simp only [k_bds]
    exact k_ckp (Or.inr trivial)
/-- of n parts, the one numbered x -/
theorem pu_noLayer {m : k_M} {L : Nat} (hL : L < 4000) (h0 : m 0 0 = 0) (h8 : m 1 8 = kn L) (x : Int32) : f_X11_noLayer m x = some (if 0 ≤ x ∧ x < kn L then (m, 0) else (k_up m 0 0 1, 1)) := by
  unfold f_X11_noLayer f_X11_noLayer_23
  have e : (0 ≤ x ∧ x ≤ kn L - 1) ↔ (0 ≤ x ∧ x < kn L) := by
    have h1 : (0 : Int32) ≤ kn L := by
      rw [show (0 : Int32) = kn 0 from rfl, kn_le (by decide) (by omega)]
      omega
    grind
  rw [h8, pu_in]
  simp only [k_bds]
  by_cases h : 0 ≤ x ∧ x < kn L
  · rw [if_pos (e.mpr h), if_pos h, if_neg (by decide), pu_thr0 h0]
    simp only [k_bds]
    exact k_ckp (Or.inl trivial)
  · rw [if_neg (fun h9 => h (e.mp h9)), if_neg h, if_pos rfl, pu_thr1 h0 (Or.inl rfl)]
    simp only [k_bds]
    exact k_ckp (Or.inr trivial)
theorem pu_noChute {m : k_M} {n : Nat} (hn : n < 4000) (h0 : m 0 0 = 0) (hc : f_X11_chutes m = some (kn n)) (x : Int32) : f_X11_noChute m x = some (if 0 ≤ x ∧ x < kn n then (m, 0) else (k_up m 0 0 1, 1)) := by
  unfold f_X11_noChute f_X11_noChute_20
  have e : (0 ≤ x ∧ x ≤ kn n - 1) ↔ (0 ≤ x ∧ x < kn n) := by
    have h1 : (0 : Int32) ≤ kn n := by
      rw [show (0 : Int32) = kn 0 from rfl, kn_le (by decide) (by omega)]
      omega
    grind
  rw [hc]
  simp only [k_bds]
  rw [pu_in]
  simp only [k_bds]
  by_cases h : 0 ≤ x ∧ x < kn n
  · rw [if_pos (e.mpr h), if_pos h, if_neg (by decide), pu_thr0 h0]
    simp only [k_bds]
    exact k_ckp (Or.inl trivial)
  · rw [if_neg (fun h9 => h (e.mp h9)), if_neg h, if_pos rfl, pu_thr1 h0 (Or.inl rfl)]
    simp only [k_bds]
    exact k_ckp (Or.inr trivial)
theorem pu_noSpot {m : k_M} {n : Nat} (hn : n < 4000) (h0 : m 0 0 = 0) (hc : m 1 12 = kn n) (x : Int32) : f_X11_noSpot m x = some (if 0 ≤ x ∧ x < kn n then (m, 0) else (k_up m 0 0 1, 1)) := by
  unfold f_X11_noSpot f_X11_noSpot_23
  have e : (0 ≤ x ∧ x ≤ kn n - 1) ↔ (0 ≤ x ∧ x < kn n) := by
    have h1 : (0 : Int32) ≤ kn n := by
      rw [show (0 : Int32) = kn 0 from rfl, kn_le (by decide) (by omega)]
      omega
    grind
  rw [hc, pu_in]
  simp only [k_bds]
  by_cases h : 0 ≤ x ∧ x < kn n
  · rw [if_pos (e.mpr h), if_pos h, if_neg (by decide), pu_thr0 h0]
    simp only [k_bds]
    exact k_ckp (Or.inl trivial)
  · rw [if_neg (fun h9 => h (e.mp h9)), if_neg h, if_pos rfl, pu_thr1 h0 (Or.inl rfl)]
    simp only [k_bds]
    exact k_ckp (Or.inr trivial)

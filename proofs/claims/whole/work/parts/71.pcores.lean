/-! the acts once more, from where the relation stands: what a script's commands do -/
def pu_ac (u : k_U) (m : k_M) (X : Option (k_U × Int32)) (Y : Option (k_M × Int32)) : Prop := ∃ u1 m1 v, X = some (u1, v) ∧ Y = some (m1, v) ∧ pu_R u1 m1 ∧ (u1 2 = u 2 ∧ u1 5 = u 5) ∧ (m1 18 = m 18 ∧ m1 0 19 = m 0 19 ∧ m1 0 0 = m 0 0) ∧ (u1 10 0 10 = u 10 0 10 ∧ u1 10 0 11 = u 10 0 11)
theorem pu_beginU {u u1 : k_U} (h : f_X10_beginAct u = some u1) : u1 2 = u 2 := by
  unfold f_X10_beginAct f_X3_remember at h
  rw [k_lts] at h
  generalize hu9 : k_uc u 0 (k_up (u 0) 3 0 (u 0 3 0 + 1)) = u9 at h
  obtain ⟨x, hx, h⟩ := k_bdE h
  have hxu := Option.some.inj h
  obtain ⟨-, hx⟩ := k_ckE hx
  obtain ⟨r, hr, hx⟩ := k_bdE hx
  rw [k_lts, k_lts, k_lts] at hx
  have hx := Option.some.inj hx
  rw [← hxu, ← hx, pu_uc _ _ (show 2 ≠ 4 by decide), pu_uc _ _ (show 2 ≠ 4 by decide), pu_uc _ _ (by omega), ← hu9, pu_uc _ _ (show 2 ≠ 0 by decide)]
theorem pu_keepsF {m : k_M} {c : Nat} (hc : c ≤ 8) (b5 : m 0 8 = kn c) : ∃ m1, f_X11_keeps m = some m1 ∧ (∀ i, i ≠ 8 → m1 0 i = m 0 i) ∧ (∀ k, k ≠ 0 → k ≠ 4 → k ≠ 7 → m1 k = m k) := by
  unfold f_X11_keeps
  rw [b5]
  by_cases h8 : c = 8
  · subst h8
    rw [if_pos (show (kn 8 : Int32) = 8 from rfl)]
    simp only [k_lts]
    obtain ⟨m2, r1, r2, r3, r4⟩ := pu_keeps21 7 0 k_N (k_up m 0 8 (kn 7)) (by omega) (by unfold k_N; omega) (k_ups _ _ _ _)
    obtain ⟨m1, s1, s2, s3, s4, s5, s6, s7⟩ := pu_keeps58 (m := m2) (c := 7) (by decide) (by rw [r2 0 (by decide), k_ups])
    refine ⟨m1, ?_, fun i hi => by rw [s3 i hi, r2 0 (by decide), k_upi _ _ hi], fun k a b d => by rw [s7 k a b d, r2 k b, k_upc _ _ a]⟩
    rw [show (kn 8 : Int32) - 1 = kn 7 from rfl]
    exact r1.trans s1
  · rw [if_neg (by rw [kn_eql (by omega) (by decide)]; exact h8)]
    obtain ⟨m1, s1, s2, s3, s4, s5, s6, s7⟩ := pu_keeps58 (m := m) (c := c) (by omega) b5
    exact ⟨m1, s1, s3, s7⟩
def pu_bg (u : k_U) (m : k_M) (u1 : k_U) (m1 : k_M) : Prop := pu_R u1 m1 ∧ u1 10 = u 10 ∧ m1 1 = m 1 ∧ m1 0 0 = m 0 0 ∧ u1 5 = u 5 ∧ u1 2 = u 2 ∧ m1 18 = m 18 ∧ m1 0 19 = m 0 19
theorem pu_beginF {u : k_U} {m : k_M} (h : pu_R u m) : ∃ u1 m1, f_X10_beginAct u = some u1 ∧ f_X11_keeps m = some m1 ∧ pu_bg u m u1 m1 := by
  obtain ⟨u1, m1, r1, r2, r3, r4, r5, r6, r7⟩ := pu_begin h
  obtain ⟨-, -, ⟨hn, c, b1, b2, b3, b4, b5, b6⟩, -⟩ := h
  obtain ⟨m2, q1, q2, q3⟩ := pu_keepsF b2 b5
  have e : m2 = m1 := Option.some.inj (q1.symm.trans r2)
  rw [e] at q2 q3
  exact ⟨u1, m1, r1, r2, r3, r4, r5, r6, r7, pu_beginU r1, q3 18 (by decide) (by decide) (by decide), q2 19 (by decide)⟩
theorem pu_acF {u u1 : k_U} {m m1 m' w' : k_M} {v : Int32} {L : Nat} {X : Option (k_U × Int32)} {Y : Option (k_M × Int32)} (b : pu_bg u m u1 m1) (hW : pu_W L w' (m' 1)) (hm : ∀ c, c ≠ 1 → m' c = m1 c) (h10 : w' 0 10 = u1 10 0 10) (h11 : w' 0 11 = u1 10 0 11) (hX : X = some (k_uc u1 10 w', v)) (hY : Y = some (m', v)) : pu_ac u m X Y := by
  obtain ⟨b1, b2, b3, b4, b5, b6, b7, b8⟩ := b
  refine ⟨_, m', v, hX, hY, pu_R_w b1 hW hm, ⟨by rw [pu_uc _ _ (show 2 ≠ 10 by decide), b6], by rw [pu_uc _ _ (show 5 ≠ 10 by decide), b5]⟩, ⟨by rw [hm 18 (by decide), b7], by rw [hm 0 (by decide), b8], by rw [hm 0 (by decide), b4]⟩, ?_⟩
  rw [k_uc_s, h10, h11, b2]
  exact ⟨rfl, rfl⟩
theorem pu_acR {u : k_U} {m : k_M} (h : pu_R u m) {a : Int32} (ha : 0 ≤ a) (hb : a < 10) : pu_ac u m (f_X10_refuse u a) (f_X11_refused m a) := by
  obtain ⟨n, hn, rfl⟩ := kn_ofm (m := 10) ha hb (by decide)
  obtain ⟨u1, m1, r1, r2, r3, r4, r5⟩ := pu_refuse h hn
  have e1 : f_X10_refuse u (kn n) = some (k_uc u 0 (k_up (u 0) 3 n (u 0 3 n + 1)), -(kn n)) := by
    unfold f_X10_refuse
    rw [k_ckn hn (by decide), k_ckn hn (by decide), kn_nat (by omega), k_lts]
  have e2 : f_X11_refused m (kn n) = some (k_up m 7 n (m 7 n + 1), -(kn n)) := by
    unfold f_X11_refused
    rw [k_ckn hn (by decide), k_ckn hn (by decide), kn_nat (by omega), k_lts]
  have hu := (Prod.mk.inj (Option.some.inj (r1.symm.trans e1))).1
  have hm := (Prod.mk.inj (Option.some.inj (r2.symm.trans e2))).1
  refine ⟨u1, m1, _, r1, r2, r3, ⟨by rw [hu, pu_uc _ _ (show 2 ≠ 0 by decide)], r5⟩, ⟨by rw [hm, k_upc _ _ (show 18 ≠ 7 by decide)], by rw [hm, k_upc _ _ (show 0 ≠ 7 by decide)], r4⟩, ?_⟩
  rw [hu, pu_uc _ _ (show 10 ≠ 0 by decide)]
  exact ⟨rfl, rfl⟩
theorem pu_acB {u : k_U} {m : k_M} {X : Option (k_U × Int32)} {Y : Option (k_M × Int32)} (h : pu_ac u m X Y) : pu_ac u m (k_no (k_bd X fun r => some (r.1, (Sum.inl r.2 : Int32 ⊕ Nat)))) (k_bd Y fun r => some (r.1, r.2)) := by
  obtain ⟨u1, m1, v, e1, e2, e3⟩ := h
  refine ⟨u1, m1, v, ?_, ?_, e3⟩
  · rw [e1]
    rfl
  · rw [e2]
    rfl
theorem pu_acE {u : k_U} {m : k_M} {X : Option (k_U × Int32)} {Y : Option (k_M × Int32)} (h : pu_ac u m X Y) : pu_ac u m (k_bd X fun r => some (r.1, r.2)) (k_bd Y fun r => some (r.1, r.2)) := by
  obtain ⟨u1, m1, v, e1, e2, e3⟩ := h
  refine ⟨u1, m1, v, ?_, ?_, e3⟩
  · rw [e1]
    rfl
  · rw [e2]
    rfl
theorem pu_seconds11 {L : Nat} {goal : Int32} (hg : 0 ≤ goal) : ∀ (k i f f' : Nat) (w m : k_M), i + k ≤ 3000 → k < f → k < f' → pu_W L w (m 1) → ∃ w' m' j, f_X9_passUntil_2 f w goal (kn (i + k)) (kn i) = some (w', kn j) ∧ f_X11_seconds_2 f' m (kn (i + k)) goal (kn i) = some (m', kn j) ∧ pu_W L w' (m' 1) ∧ (∀ c, c ≠ 1 → m' c = m c) ∧ w' 0 11 = w 0 11 := by
  intro k
  induction k with
  | zero =>
    intro i f f' w m hi hf hf' hW
    obtain ⟨f, rfl⟩ : ∃ n9, f = n9 + 1 := ⟨f - 1, by omega⟩
    obtain ⟨f', rfl⟩ : ∃ n9, f' = n9 + 1 := ⟨f' - 1, by omega⟩
    refine ⟨w, m, i, ?_, ?_, hW, fun _ _ => rfl, rfl⟩
    · show f_X9_passUntil_2_b _ w goal (kn (i + 0)) (kn i) = _
      unfold f_X9_passUntil_2_b
      rw [if_pos (show kn (i + 0) ≤ kn i by rw [kn_le (by omega) (by omega)]; omega)]
      by_cases c : w 0 0 ≤ goal
      · rw [if_pos c]
      · rw [if_neg c]
    · show f_X11_seconds_2_b _ m (kn (i + 0)) goal (kn i) = _
      unfold f_X11_seconds_2_b
      rw [if_pos (by rw [kn_le (by omega) (by omega)]; omega)]
  | succ k ih =>
    intro i f f' w m hi hf hf' hW
    obtain ⟨f, rfl⟩ : ∃ n9, f = n9 + 1 := ⟨f - 1, by omega⟩
    obtain ⟨f', rfl⟩ : ∃ n9, f' = n9 + 1 := ⟨f' - 1, by omega⟩
    obtain ⟨r0, -⟩ := pu_rel01 hW
    have hlt : ¬ kn (i + (k + 1)) ≤ kn i := by
      rw [kn_le (by omega) (by omega)]
      omega
    show ∃ w' m' j, f_X9_passUntil_2_b _ w goal (kn (i + (k + 1))) (kn i) = some (w', kn j) ∧ f_X11_seconds_2_b _ m (kn (i + (k + 1))) goal (kn i) = some (m', kn j) ∧ pu_W L w' (m' 1) ∧ (∀ c, c ≠ 1 → m' c = m c) ∧ w' 0 11 = w 0 11
    unfold f_X9_passUntil_2_b f_X11_seconds_2_b
    rw [if_neg hlt, if_neg hlt, r0]
    by_cases c : w 0 0 ≤ goal
    · exact ⟨w, m, i, by rw [if_pos c], by rw [if_pos c], hW, fun _ _ => rfl, rfl⟩
    · rw [if_neg c, if_neg c]
      obtain ⟨w1, m1, e1, e2, e3, e4, e5, e6⟩ := pu_second hW (fun h => c (by rw [h]; exact hg))
      obtain ⟨w', m', j, g1, g2, g3, g4, g5⟩ := ih (i + 1) f f' w1 m1 (by omega) (by omega) (by omega) e3
      rw [show i + 1 + k = i + (k + 1) by omega] at g1 g2
      rw [e1, e2, k_bds, k_bds, k_lts, k_lts, kn_addl]
      exact ⟨w', m', j, g1, g2, g3, fun c hc => by rw [g4 c hc, e4 c hc], g5.trans e5⟩
theorem pu_passF {L : Nat} {w m : k_M} (hW : pu_W L w (m 1)) {goal : Int32} (hg : 0 ≤ goal) {n : Nat} (hn : n ≤ 3000) : ∃ w' m' v, f_X9_passUntil w goal (kn n) = some (w', v) ∧ f_X11_seconds m (kn n) goal = some (m', v) ∧ pu_W L w' (m' 1) ∧ (∀ c, c ≠ 1 → m' c = m c) ∧ w' 0 10 = w 0 10 ∧ w' 0 11 = w 0 11 := by
  obtain ⟨w', m', j, s1, s2, s3, s4, s5⟩ := pu_seconds11 hg n 0 k_N k_N w m (by omega) (by unfold k_N; omega) (by unfold k_N; omega) hW
  rw [Nat.zero_add] at s1 s2
  exact ⟨w', m', kn j, s1, s2, s3, s4, by rw [s3.1.2.1, hW.1.2.1], s5⟩
theorem pu_a0 {u : k_U} {m : k_M} (h : pu_R u m) {n : Nat} (hb : 1 ≤ n ∧ n ≤ 200) : pu_ac u m (k_no (f_X10_tick u (kn n))) (f_X11_ticks m (kn n)) := by
  obtain ⟨⟨L, hW⟩, -⟩ := id h
  have h10 : m 1 0 = u 10 0 0 := (pu_rel01 hW).1
  unfold f_X10_tick f_X11_ticks
  rw [if_neg (show ¬ kn n < 1 by rw [kn_ltl (by omega) (by omega)]; omega), if_pos (show kn n ≤ 200 by rw [kn_lel (by omega) (by omega)]; omega), pu_landed, k_bds, h10]
  by_cases c1 : u 10 0 0 = 0
  · rw [if_pos c1, if_pos c1, if_neg (by decide)]
    exact pu_acB (pu_acR h (by decide) (by decide))
  · rw [if_neg c1, if_neg c1, if_pos rfl]
    obtain ⟨u1, m1, r1, r2, b⟩ := pu_beginF h
    have hW1 : pu_W L (u1 10) (m1 1) := by
      rw [b.2.1, b.2.2.1]
      exact hW
    obtain ⟨w', m', v, s1, s2, s3, s4, s5, s6⟩ := pu_passF hW1 (goal := 0) (by decide) (n := n) (by omega)
    refine pu_acF b s3 s4 s5 s6 (v := v) ?_ ?_
    · rw [r1, k_bds, s1, k_bds, k_lts]
      rfl
    · rw [r2, k_bds, s2, k_bds]
theorem pu_a1 {u : k_U} {m : k_M} (h : pu_R u m) {x : Int32} (hb : 0 ≤ x ∧ x ≤ 30000) : pu_ac u m (k_no (f_X10_fallTo u x)) (f_X11_falls m x) := by
  obtain ⟨⟨L, hW⟩, -⟩ := id h
  have h10 : m 1 0 = u 10 0 0 := (pu_rel01 hW).1
  have hb1 : ¬ x < 0 := by
    have := hb.1
    grind
  unfold f_X10_fallTo f_X11_falls
  rw [if_neg hb1, if_pos hb.2, pu_landed, k_bds, h10]
  by_cases c1 : u 10 0 0 = 0
  · rw [if_pos c1, if_pos c1, if_neg (by decide)]
    exact pu_acB (pu_acR h (by decide) (by decide))
  · rw [if_neg c1, if_neg c1, if_pos rfl]
    by_cases c2 : x < u 10 0 0
    · rw [if_pos c2, if_pos c2]
      obtain ⟨u1, m1, r1, r2, b⟩ := pu_beginF h
      have hW1 : pu_W L (u1 10) (m1 1) := by
        rw [b.2.1, b.2.2.1]
        exact hW
      obtain ⟨w', m', v, s1, s2, s3, s4, s5, s6⟩ := pu_passF hW1 (goal := x) hb.1 (n := 3000) (by omega)
      refine pu_acF b s3 s4 s5 s6 (v := v) ?_ ?_
      · rw [r1, k_bds, show (3000 : Int32) = kn 3000 from rfl, s1, k_bds, k_lts]
        rfl
      · rw [r2, k_bds, show (3000 : Int32) = kn 3000 from rfl, s2, k_bds]
    · rw [if_neg c2, if_neg c2]
      exact pu_acB (pu_acR h (by decide) (by decide))
theorem pu_a2 {u : k_U} {m : k_M} (h : pu_R u m) {L i : Nat} (hW : pu_W L (u 10) (m 1)) (hi : i < L) : pu_ac u m (k_no (f_X10_open u (kn i))) (f_X11_opensIt m (kn i)) := by
  have hL : L ≤ 8 := hW.1.1
  obtain ⟨h10, h11⟩ := pu_rel01 hW
  have hrel := pu_rel65 hW i hi
  have hb : 0 ≤ kn i ∧ kn i < kn L := by
    rw [show (0 : Int32) = kn 0 from rfl, kn_le (by omega) (by omega), kn_lt (by omega) (by omega)]
    omega
  have ec : f_X10_open u (kn i) = (if u 10 0 0 = 0 then k_bd (f_X10_refuse u 1) fun r34 => some (r34.1, Sum.inl r34.2) else (if (u 10 (15 + i) 5) = 0 then (if (u 10 0 0) ≤ (u 10 (15 + i) 3) then (if (u 10 0 1) ≤ (u 10 (15 + i) 4) then k_bd (f_X10_beginAct u) fun r101 => k_bd (f_X9_openLayer (r101 10) (kn i)) fun r109 => k_lt (k_uc r101 10 r109) fun u109 => some (u109, Sum.inl (u109 10 (15 + i) 5)) else k_bd (f_X10_refuse u 5) fun r96 => some (r96.1, Sum.inl r96.2)) else k_bd (f_X10_refuse u 4) fun r76 => some (r76.1, Sum.inl r76.2)) else k_bd (f_X10_refuse u 3) fun r56 => some (r56.1, Sum.inl r56.2))) := by
    unfold f_X10_open
    rw [pu_hasI hL hW.1.2.1, if_pos hb, k_bds, if_neg (by decide), pu_landed, k_bds, pu_at hL hW.1.2.1 (by omega), k_bds, pu_q_l hi, k_ckp (by omega)]
    by_cases h9 : u 10 0 0 = 0
    · rw [if_pos h9, if_pos h9, if_neg (by decide)]
    · rw [if_neg h9, if_neg h9, if_pos rfl]
  have em3 : f_X11_opensIt m (kn i) = (if u 10 0 0 = 0 then f_X11_opensIt_74 m (kn i) 1 else (if (u 10 (15 + i) 5) = 0 then (if (u 10 0 0) ≤ (u 10 (15 + i) 3) then (if (u 10 0 1) ≤ (u 10 (15 + i) 4) then f_X11_opensIt_74 m (kn i) 0 else f_X11_opensIt_74 m (kn i) 5) else f_X11_opensIt_74 m (kn i) 4) else f_X11_opensIt_74 m (kn i) 3)) := by
    unfold f_X11_opensIt
    rw [kn_ladd, kn_ladd, kn_ladd, k_ckn (by omega) (by decide), k_ckn (by omega) (by decide), k_ckn (by omega) (by decide), kn_nat (by omega), kn_nat (by omega), kn_nat (by omega), h10, h11]
    rw [show (OfNat.ofNat 65 : Nat) + i = 65 + i from rfl, show (OfNat.ofNat 47 : Nat) + i = 47 + i from rfl, show (OfNat.ofNat 56 : Nat) + i = 56 + i from rfl, hrel.1, hrel.2.1, hrel.2.2.1]
  rw [ec, em3]
  have ref : ∀ (a : Int32), 0 < a → a < 10 → pu_ac u m (k_no (k_bd (f_X10_refuse u a) fun r => some (r.1, (Sum.inl r.2 : Int32 ⊕ Nat)))) (f_X11_opensIt_74 m (kn i) a) := by
    intro a ha hb
    unfold f_X11_opensIt_74
    rw [if_neg (by grind)]
    exact pu_acB (pu_acR h (by grind) hb)
  by_cases c1 : u 10 0 0 = 0
  · rw [if_pos c1, if_pos c1]
    exact ref 1 (by decide) (by decide)
  rw [if_neg c1, if_neg c1]
  by_cases c2 : u 10 (15 + i) 5 = 0
  · rw [if_pos c2, if_pos c2]
    by_cases c3 : (u 10 0 0) ≤ (u 10 (15 + i) 3)
    · rw [if_pos c3, if_pos c3]
      by_cases c4 : (u 10 0 1) ≤ (u 10 (15 + i) 4)
      · rw [if_pos c4, if_pos c4]
        obtain ⟨u1, m1, r1, r2, b⟩ := pu_beginF h
        have hW1 : pu_W L (u1 10) (m1 1) := by
          rw [b.2.1, b.2.2.1]
          exact hW
        obtain ⟨w', m', s1, s2, s3, s4, s5, -⟩ := pu_opens hW1 hi (by rw [b.2.1]; exact c2)
        refine pu_acF b s3 s4 (by rw [s5]) (by rw [s5]) (v := w' (15 + i) 5) ?_ ?_
        · rw [r1, k_bds, s1, k_bds, k_lts, k_uc_s]
          rfl
        · unfold f_X11_opensIt_74
          rw [if_pos (by decide), r2, k_bds, s2, k_bds, kn_ladd, k_ckn (by omega) (by decide), kn_nat (by omega)]
          have := (pu_rel65 s3 i hi).1
          rw [show (OfNat.ofNat 65 : Nat) + i = 65 + i from rfl, this]
      · rw [if_neg c4, if_neg c4]
        exact ref 5 (by decide) (by decide)
    · rw [if_neg c3, if_neg c3]
      exact ref 4 (by decide) (by decide)
  · rw [if_neg c2, if_neg c2]
    exact ref 3 (by decide) (by decide)
theorem pu_a3 {u : k_U} {m : k_M} (h : pu_R u m) (h0 : m 0 0 = 0) : pu_ac u m (f_X10_openReserve u) (f_X11_openReserve m) := by
  obtain ⟨⟨L, hW⟩, -⟩ := id h
  have hL : L ≤ 8 := hW.1.1
  obtain ⟨h10, h11⟩ := pu_rel01 hW
  have em0 : k_up m 0 0 0 = m := by
    funext c j
    rw [k_upx]
    split
    · next e => rw [e.1, e.2, h0]
    · rfl
  have ref : ∀ (a : Int32), 0 < a → a < 10 → pu_ac u m (k_bd (f_X10_refuse u a) fun r => some (r.1, r.2)) (f_X11_openReserve_95 m a) := by
    intro a ha hb
    unfold f_X11_openReserve_95
    rw [if_neg (by grind)]
    exact pu_acE (pu_acR h (by grind) hb)
  unfold f_X10_openReserve f_X10_openReserve_39 f_X11_openReserve f_X11_openReserve_38
  rw [pu_landed, k_bds, k_lts, em0, h10]
  by_cases c1 : u 10 0 0 = 0
  · rw [if_pos c1, if_pos c1, if_neg (by decide)]
    exact ref 1 (by decide) (by decide)
  rw [if_neg c1, if_neg c1, if_pos rfl, hW.2.1.2.1]
  by_cases c2 : u 10 0 11 = 0
  · rw [if_pos c2, if_pos c2]
    exact ref 3 (by decide) (by decide)
  rw [if_neg c2, if_neg c2]
  have hR : u 10 0 11 = 1 := hW.2.1.1.resolve_left c2
  obtain ⟨k73, k55, k64, -⟩ := pu_relR hW hR
  rw [k73, k55, k64]
  by_cases c3 : u 10 2 5 = 0
  · rw [if_pos c3, if_pos c3]
    by_cases c4 : u 10 0 0 ≤ u 10 2 3
    · rw [if_pos c4, if_pos c4, (pu_failed hW).2, (pu_failed hW).1, k_bds, k_bds]
      by_cases c5 : u 10 2 4 ≤ pu_sf (pu_ff (u 10)) 0 L
      · rw [if_pos c5, if_pos c5, (pu_first hW).2, (pu_first hW).1, k_bds, k_bds]
        by_cases c6 : pu_find (pu_may (u 10)) 0 L = -1
        · rw [if_pos c6, if_pos c6]
          obtain ⟨u1, m1, r1, r2, b⟩ := pu_beginF h
          have hW1 : pu_W L (u1 10) (m1 1) := by
            rw [b.2.1, b.2.2.1]
            exact hW
          obtain ⟨w', m', s1, s2, s3, s4, s5, s6, -⟩ := pu_opensR hW1 (by rw [b.2.1]; exact hR) (by rw [b.2.1]; exact c3)
          refine pu_acF b s3 s4 (by rw [s5]) (by rw [s5]) (v := pu_sf (pu_ff (u 10)) 0 L) ?_ ?_
          · rw [b.2.1] at s1
            rw [r1, k_bds, b.2.1, s1, k_bds, k_lts]
          · rw [b.2.1] at s6
            unfold f_X11_openReserve_95
            rw [if_pos (by decide), r2, k_bds, s2, k_bds, s6, k_bds]
        · rw [if_neg c6, if_neg c6]
          exact ref 7 (by decide) (by decide)
      · rw [if_neg c5, if_neg c5]
        exact ref 6 (by decide) (by decide)
    · rw [if_neg c4, if_neg c4]
      exact ref 4 (by decide) (by decide)
  · rw [if_neg c3, if_neg c3]
    exact ref 3 (by decide) (by decide)
theorem pu_cut0 {L i : Nat} {w m : k_M} (hW : pu_W L w (m 1)) (hi : i < pu_n L w) : ∃ w', f_X9_cutAway w (kn i) = some w' ∧ w' 0 = w 0 := by
  obtain ⟨⟨hL, a10, b8⟩, ⟨hR, b9, hJ⟩, hCh, hlo, hF, hT, hWi, hS, hE⟩ := hW
  have hq := pu_q_r (i := i) hL
  have hp := pu_p_r (i := i) hL
  have hnr := pu_n_r (L := L) (w := w)
  obtain ⟨-, -, -, -, -, -, -, -, -, -, c6, -⟩ := id hF
  generalize hd : w (pu_q L i) 1 - w (pu_q L i) 7 = d
  have e0 : (k_up w (pu_q L i) 5 4) 0 = w 0 := k_upc _ _ (by omega)
  have ms : ∀ j, j ≠ 15 → j ≠ 65 + pu_p L i → (k_up (k_up m 1 (65 + pu_p L i) 4) 1 15 (m 1 15 + d)) 1 j = m 1 j := fun j h1 h2 => by rw [k_upi _ _ h1, k_upi _ _ h2]
  have hE1 : pu_E (k_up w (pu_q L i) 5 4) ((k_up (k_up m 1 (65 + pu_p L i) 4) 1 15 (m 1 15 + d)) 1) := pu_E_congr hE (by rw [k_upc _ _ (by omega)]) (by rw [k_upc _ _ (by omega)]) (fun i _ => by rw [k_upc _ _ (by omega)]) (ms _ (by omega) (by omega)) (fun j h1 h2 => ms _ (by omega) (by omega))
  obtain ⟨w', m', r1, r2, r3, r4, r5, r6⟩ := pu_tells hE1 (by rw [ms _ (by omega) (by omega), e0]; exact c6) 5 (kn i) d
  refine ⟨w', ?_, by rw [r3 0 (by omega) (by omega), e0]⟩
  unfold f_X9_cutAway f_X0_linesThere
  rw [pu_at hL a10 (by omega), k_bds, k_ckp hq, k_lts, k_bds, k_upi _ _ (by decide), k_upi _ _ (by decide), hd, r1, k_bds]
theorem pu_a4 {u : k_U} {m : k_M} (h : pu_R u m) {L i : Nat} (hW : pu_W L (u 10) (m 1)) (hi : i < pu_n L (u 10)) : pu_ac u m (k_no (f_X10_cut u (kn i))) (f_X11_cuts m (kn i)) := by
  have hL : L ≤ 8 := hW.1.1
  have hnr := pu_n_r (L := L) (w := u 10)
  obtain ⟨h10, h11⟩ := pu_rel01 hW
  have hp := pu_p_r (i := i) hL
  have hq := pu_q_r (i := i) hL
  have hb : 0 ≤ kn i ∧ kn i < kn (pu_n L (u 10)) := by
    rw [show (0 : Int32) = kn 0 from rfl, kn_le (by omega) (by omega), kn_lt (by omega) (by omega)]
    omega
  generalize hY : f_X11_cuts m (kn i) = Y
  unfold f_X11_cuts at hY
  rw [pu_placeM hL hW.1.2.2 (by omega), k_bds, h10, kn_ladd, kn_ladd, k_ckn (by omega) (by decide), kn_nat (by omega), kn_nat (by omega)] at hY
  rw [show (OfNat.ofNat 65 : Nat) + pu_p L i = 65 + pu_p L i from rfl, show (OfNat.ofNat 74 : Nat) + pu_p L i = 74 + pu_p L i from rfl, pu_state hW hi] at hY
  generalize hX : f_X10_cut u (kn i) = X
  unfold f_X10_cut at hX
  rw [pu_hasCI hL hW.1.2.1, if_pos hb, k_bds, if_neg (by decide), pu_landed, k_bds, pu_at hL hW.1.2.1 (by omega), k_bds, k_ckp hq] at hX
  by_cases c1 : u 10 0 0 = 0
  · rw [if_pos c1] at hY
    rw [if_pos c1, if_neg (by decide)] at hX
    rw [← hX, ← hY]
    exact pu_acB (pu_acR h (by decide) (by decide))
  rw [if_neg c1] at hY
  rw [if_neg c1, if_pos rfl] at hX
  by_cases c2 : u 10 (pu_q L i) 5 = 1
  · rw [if_pos c2] at hY hX
    obtain ⟨u1, m1, r1, r2, b⟩ := pu_beginF h
    have hW1 : pu_W L (u1 10) (m1 1) := by
      rw [b.2.1, b.2.2.1]
      exact hW
    have hi1 : i < pu_n L (u1 10) := by rw [b.2.1]; exact hi
    obtain ⟨w', m', s1, s2, s3, s4⟩ := pu_cutW hW1 hi1 (by rw [b.2.1]; exact c2)
    obtain ⟨w9, z1, z2⟩ := pu_cut0 hW1 hi1
    have hw9 : w9 = w' := Option.some.inj (z1.symm.trans s1)
    rw [hw9] at z2
    refine pu_acF b s3 s4 (by rw [z2]) (by rw [z2]) (v := pu_sf (pu_fs L w' 1) 0 (pu_n L w')) ?_ ?_
    · rw [← hX, r1, k_bds, s1, k_bds, k_lts, k_uc_s, (pu_openN s3).1, k_bds]
      rfl
    · rw [← hY, r2, k_bds, k_ckn (by omega) (by decide)]
      rw [show (OfNat.ofNat 74 : Nat) + pu_p L i = 74 + pu_p L i from rfl, pu_bits (hW1.2.2.1 i hi1), k_bds, k_ckn (by omega) (by decide), k_lts, k_lts, k_upi _ _ (show 15 ≠ 65 + pu_p L i by omega)]
      rw [show (OfNat.ofNat 65 : Nat) + pu_p L i = 65 + pu_p L i from rfl, s2, k_bds, (pu_openN s3).2, k_bds]
  · rw [if_neg c2] at hY hX
    rw [← hX, ← hY]
    exact pu_acB (pu_acR h (by decide) (by decide))
theorem pu_a5 {u : k_U} {m : k_M} (h : pu_R u m) {x : Int32} (hb : -9 ≤ x ∧ x ≤ 9) : pu_ac u m (k_no (f_X10_steer u x)) (f_X11_steers m x) := by
  obtain ⟨⟨L, hW⟩, -⟩ := id h
  obtain ⟨h10, h11⟩ := pu_rel01 hW
  generalize hY : f_X11_steers m x = Y
  unfold f_X11_steers at hY
  rw [h10, (pu_openN hW).2] at hY
  generalize hX : f_X10_steer u x = X
  unfold f_X10_steer at hX
  rw [if_neg (by grind), if_pos hb.2, pu_landed, k_bds, (pu_openN hW).1] at hX
  by_cases c1 : u 10 0 0 = 0
  · rw [if_pos c1] at hY
    rw [if_pos c1, if_neg (by decide)] at hX
    rw [← hX, ← hY]
    exact pu_acB (pu_acR h (by decide) (by decide))
  rw [if_neg c1, k_bds] at hY
  rw [if_neg c1, if_pos rfl, k_bds] at hX
  by_cases c2 : pu_sf (pu_fs L (u 10) 1) 0 (pu_n L (u 10)) = 0
  · rw [if_pos c2] at hY hX
    rw [← hX, ← hY]
    exact pu_acB (pu_acR h (by decide) (by decide))
  · rw [if_neg c2] at hY hX
    obtain ⟨u1, m1, r1, r2, b⟩ := pu_beginF h
    have hW1 : pu_W L (u1 10) (m1 1) := by
      rw [b.2.1, b.2.2.1]
      exact hW
    refine pu_acF (w' := k_up (u1 10) 0 5 x) (m' := k_up m1 1 5 x) (L := L) b (pu_slipW hW1 (k_ups _ _ _ _) (fun j hj => k_upi _ _ hj)) (fun c hc => k_upc _ _ hc) (k_upi _ _ (by decide)) (k_upi _ _ (by decide)) (v := u1 10 0 5 + 9) ?_ ?_
    · rw [← hX, r1, k_bds, k_lts, k_lts]
      rfl
    · rw [← hY, r2, k_bds, k_lts, k_lts, pu_slip hW1]

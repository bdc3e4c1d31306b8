/-! advance: the whole of it -/
theorem pu_advance {r m : k_M} {len nx : Nat} (hl : len ≤ 600) (hX : pu_Xl r m len) (h7 : r 0 7 = kn nx) (h12 : m 0 12 = kn nx) (hnx : nx ≤ len) : ∃ r' m', f_X4_advance r = some r' ∧ f_X11_advance m = some m' ∧ pu_Tk r' m' len nx ∧ (∀ c, c ≠ 0 → r' c = r c) ∧ (∀ x, x ≠ 5 → x ≠ 6 → x ≠ 7 → x ≠ 8 → x ≠ 9 → r' 0 x = r 0 x) ∧ r' 0 9 = r 0 6 ∧ (∀ c, c ≠ 0 → m' c = m c) ∧ (∀ x, x ≠ 11 → x ≠ 12 → x ≠ 13 → x ≠ 14 → m' 0 x = m 0 x) := by
  have eX0 : f_X4_advance r = f_X4_advance_16 k_N (k_up (k_up r 0 9 (r 0 6)) 0 6 (kn nx)) := by
    unfold f_X4_advance
    rw [k_lts, k_lts, k_upi _ _ (show 7 ≠ 9 by decide), h7]
  generalize hr0 : k_up (k_up r 0 9 (r 0 6)) 0 6 (kn nx) = r0 at eX0
  have a6 : r0 0 6 = kn nx := by rw [← hr0, k_ups]
  have a9 : r0 0 9 = r 0 6 := by rw [← hr0, k_upi _ _ (by decide), k_ups]
  have a0 : ∀ x, x ≠ 6 → x ≠ 9 → r0 0 x = r 0 x := fun x h h' => by rw [← hr0, k_upi _ _ h, k_upi _ _ h']
  have ac : ∀ c, c ≠ 0 → r0 c = r c := fun c h => by rw [← hr0, k_upc _ _ h, k_upc _ _ h]
  have hX0 : pu_Xl r0 m len := pu_Xl_c hX (a0 2 (by decide) (by decide)) (ac 1 (by decide)) (ac 2 (by decide)) rfl rfl
  obtain ⟨r1, m1, f2, f2', j, s1, s2, s3, s4, s5, s6, s7, s8, s9, s10, s11⟩ := pu_sp hl (len - nx) nx k_N k_N r0 m (by omega) (by unfold k_N; omega) (by unfold k_N; omega) hX0 a6 h12
  have hX1 : pu_Xl r1 m1 len := pu_Xl_c hX0 (s4 2 (by decide)) (s3 1 (by decide)) (s3 2 (by decide)) (s6 10 (by decide)) (s5 9 (by decide))
  have eY0 : f_X11_advance m = f_X11_advance_0_b (f_X11_advance_0 f2') m1 := s2
  have eX1 : f_X4_advance r = f_X4_advance_53 r1 := eX0.trans s1
  generalize hM : k_up (k_up m1 0 11 (kn j)) 0 14 0 = M
  have M11 : M 0 11 = kn j := by rw [← hM, k_upi _ _ (by decide), k_ups]
  have M14 : M 0 14 = kn 0 := by rw [← hM, k_ups]; rfl
  have M0 : ∀ x, x ≠ 11 → x ≠ 14 → M 0 x = m1 0 x := fun x h h' => by rw [← hM, k_upi _ _ h', k_upi _ _ h]
  have Mc : ∀ c, c ≠ 0 → M c = m c := fun c h => by rw [← hM, k_upc _ _ h, k_upc _ _ h, s5 c h]
  have M12 : M 0 12 = kn j := by rw [M0 12 (by decide) (by decide), s8]
  have hXM : pu_Xl r1 M len := pu_Xl_c hX1 rfl rfl rfl (M0 10 (by decide) (by decide)) (by rw [Mc 9 (by decide), s5 9 (by decide)])
  have MF : ∀ x, x ≠ 11 → x ≠ 12 → x ≠ 13 → x ≠ 14 → M 0 x = m 0 x := fun x a b c d => by rw [M0 x a d, s6 x b]
  by_cases hj : j < len
  · obtain ⟨b, b1, b2, b5⟩ := s11.resolve_left (by omega)
    have b2 : r1 1 j = kn b := by rw [s3 1 (by decide)]; exact b2
    obtain ⟨b', b1', b0', b2', b3, b4, at1⟩ := pu_at_b hX1 hl hj
    have e : b' = b := by
      have := b2'.symm.trans b2
      rw [kn_inj (by omega) (by omega)] at this
      exact this
    subst e
    have kr := pu_kd_r b' b1
    have hsp : ¬ (kn b' = 32) ∧ ¬ (kn b' = 10) := ⟨fun e => b5 ((pu_space b' b1).mpr (Or.inl e)), fun e => b5 ((pu_space b' b1).mpr (Or.inr e))⟩
    have atM : f_X11_byteAt M (kn j) = some (kn b') := by
      obtain ⟨b9, q1, q0, q2, q3, q4, q5⟩ := pu_at_b hXM hl hj
      have e : b9 = b' := by
        have := q2.symm.trans b2
        rw [kn_inj (by omega) (by omega)] at this
        exact this
      rw [q5, e]
    have eY : f_X11_advance m = (if pu_kd b' = 1 then f_X11_advance_86 k_N (k_up M 0 13 1) else if pu_kd b' = 2 then f_X11_advance_125 k_N (k_up M 0 13 2) else (if kn b' = 59 then f_X11_advance_224 (k_up M 0 12 (kn (j + 1))) 4 else (if kn b' = 45 then f_X11_advance_224 (k_up M 0 12 (kn (j + 1))) 3 else f_X11_advance_224 (k_up M 0 12 (kn (j + 1))) 5))) := by
      rw [eY0]
      unfold f_X11_advance_0_b
      rw [s8, at1, k_bds, if_neg hsp.1, k_bds, if_neg hsp.2, k_lts, k_lts, hM, M12, atM, k_bds, if_neg (by rw [kn_neg1 (by omega)]; exact fun h => h), pu_letter b' b1, k_bds, pu_digit b' b1, k_bds, k_lts, k_lts, k_lts, show kn j + 1 = kn (j + 1) from kn_addl j 1]
      by_cases c1 : pu_kd b' = 1
      · rw [if_pos c1, if_pos c1, if_neg (by decide)]
      · rw [if_neg c1, if_neg c1, if_pos rfl]
        by_cases c2 : pu_kd b' = 2
        · rw [if_pos c2, if_pos c2, if_neg (by decide)]
        · rw [if_neg c2, if_neg c2, if_pos rfl]
    generalize hRR : k_up (k_up (k_up r1 0 7 (kn j)) 0 5 (kn (pu_kd b'))) 0 7 (kn (j + 1)) = R
    have R5 : R 0 5 = kn (pu_kd b') := by rw [← hRR, k_upi _ _ (by decide), k_ups]
    have R7 : R 0 7 = kn (j + 1) := by rw [← hRR, k_ups]
    have R0 : ∀ x, x ≠ 5 → x ≠ 7 → R 0 x = r1 0 x := fun x h h' => by rw [← hRR, k_upi _ _ h', k_upi _ _ h, k_upi _ _ h']
    have Rc : ∀ c, c ≠ 0 → R c = r c := fun c h => by rw [← hRR, k_upc _ _ h, k_upc _ _ h, k_upc _ _ h, s3 c h, ac c h]
    have R6 : R 0 6 = kn j := by rw [R0 6 (by decide) (by decide), s7]
    have R9 : R 0 9 = r 0 6 := by rw [R0 9 (by decide) (by decide), s4 9 (by decide), a9]
    have RF : ∀ x, x ≠ 5 → x ≠ 6 → x ≠ 7 → x ≠ 8 → x ≠ 9 → R 0 x = r 0 x := fun x a b c d e => by rw [R0 x a c, s4 x b, a0 x b e]
    have R1 : R 1 j = kn b' := by rw [Rc 1 (by decide), ← ac 1 (by decide), ← s3 1 (by decide)]; exact b2
    have hXR : ∀ m' : k_M, m' 0 10 = M 0 10 → m' 9 = M 9 → pu_Xl R m' len := fun m' x y => pu_Xl_c hXM (R0 2 (by decide) (by decide)) (by rw [Rc 1 (by decide), s3 1 (by decide), ac 1 (by decide)]) (by rw [Rc 2 (by decide), s3 2 (by decide), ac 2 (by decide)]) x y
    have eX : f_X4_advance r = (if kn (pu_kd b') = 1 then f_X4_advance_109 k_N R else (if kn (pu_kd b') = 2 then f_X4_advance_170 k_N (k_up R 0 8 (kn b' - 48)) else some R)) := by
      rw [eX1]
      unfold f_X4_advance_53
      rw [k_lts, s7, k_upi _ _ (show 6 ≠ 7 by decide), k_upi _ _ (show 2 ≠ 7 by decide), s7, hX1.1, if_pos (by rw [kn_lt (by omega) (by omega)]; exact hj), k_ckn (by omega) (by decide), k_upc _ _ (show 2 ≠ 0 by decide), kn_nat (by omega), b3, k_lts, k_upi _ _ (show 7 ≠ 5 by decide), k_ups, show kn j + 1 = kn (j + 1) from kn_addl j 1, hRR, k_lts, R5, R6, k_ckn (by omega) (by decide), kn_nat (by omega), R1, k_lts]
    by_cases c1 : pu_kd b' = 1
    · rw [c1, if_pos (by decide)] at eX
      rw [if_pos c1] at eY
      have eY2 := pu_let1 (r := R) (m := k_up M 0 13 1) (hXR _ (k_upi _ _ (by decide)) (k_upc _ _ (by decide))) hl hj b1 R1 c1 (by rw [k_upi _ _ (by decide), M12]) 3999
      obtain ⟨r', m', e, t1, t2, t3, t4, t5, t6, t7, t8, t9, t10, t11⟩ := pu_lets hl (len - (j + 1)) (j + 1) k_N 3999 R (k_up (k_up M 0 13 1) 0 12 (kn (j + 1))) (by omega) (by unfold k_N; omega) (by omega) (hXR _ (by rw [k_upi _ _ (by decide), k_upi _ _ (by decide)]) (by rw [k_upc _ _ (by decide), k_upc _ _ (by decide)])) R7 (k_ups _ _ _ _)
      refine ⟨r', m', eX.trans t1, eY.trans (eY2.trans t2), ⟨j, e, 1, s9, by omega, t10, by rw [t4 6 (by decide), R6], by rw [t6 11 (by decide), k_upi _ _ (by decide), k_upi _ _ (by decide), M11], t7, t8, by rw [t4 5 (by decide), R5, c1], by rw [t6 13 (by decide), k_upi _ _ (by decide), k_ups]; rfl, Or.inl (by decide), fun _ => by omega, fun _ x xa xb => ?_, fun h => absurd h (by decide)⟩, fun c hc => by rw [t3 c hc, Rc c hc], fun x a b c d e => by rw [t4 x c, RF x a b c d e], by rw [t4 9 (by decide), R9], fun c hc => by rw [t5 c hc, k_upc _ _ hc, k_upc _ _ hc, Mc c hc], fun x a b c d => by rw [t6 x b, k_upi _ _ b, k_upi _ _ c, MF x a b c d]⟩
      rw [t3 1 (by decide)]
      by_cases hxj : x = j
      · subst hxj
        exact ⟨b', b1, R1, c1⟩
      · exact t11 x (by omega) xb
    by_cases c2 : pu_kd b' = 2
    · have h48 := pu_kd2 b' b1 c2
      rw [c2, if_neg (by decide), if_pos (by decide), show kn b' - 48 = kn (b' - 48) from kn_sub (b := 48) h48.1] at eX
      rw [if_neg c1, if_pos c2] at eY
      have eY2 := pu_dgt1 (r := R) (m := k_up M 0 13 2) (v := 0) (hXR _ (k_upi _ _ (by decide)) (k_upc _ _ (by decide))) hl hj b1 R1 c2 (by rw [k_upi _ _ (by decide), M12]) (by rw [k_upi _ _ (by decide), M14]) (by omega) 3999
      rw [if_pos (show 0 ≤ 999999 by omega), show 10 * 0 + (b' - 48) = b' - 48 by omega] at eY2
      obtain ⟨r', m', e, v', t1, t2, t3, t4, t5, t6, t7, t8, t9, t10, t11, t12, t13⟩ := pu_digs hl (len - (j + 1)) (j + 1) k_N 3999 (b' - 48) (k_up R 0 8 (kn (b' - 48))) (k_up (k_up (k_up M 0 13 2) 0 14 (kn (b' - 48))) 0 12 (kn (j + 1))) (by omega) (by unfold k_N; omega) (by omega) (pu_Xl_c (hXR M rfl rfl) (k_upi _ _ (by decide)) (k_upc _ _ (by decide)) (k_upc _ _ (by decide)) (by rw [k_upi _ _ (by decide), k_upi _ _ (by decide), k_upi _ _ (by decide)]) (by rw [k_upc _ _ (by decide), k_upc _ _ (by decide), k_upc _ _ (by decide)])) (by rw [k_upi _ _ (by decide), R7]) (k_ups _ _ _ _) (k_ups _ _ _ _) (by rw [k_upi _ _ (by decide), k_ups]) (by omega)
      exact ⟨r', m', eX.trans t1, eY.trans (eY2.trans t2), ⟨j, e, 2, s9, by omega, t10, by rw [t4 6 (by decide) (by decide), k_upi _ _ (by decide), R6], by rw [t6 11 (by decide) (by decide), k_upi _ _ (by decide), k_upi _ _ (by decide), k_upi _ _ (by decide), M11], t7, t8, by rw [t4 5 (by decide) (by decide), k_upi _ _ (by decide), R5, c2], by rw [t6 13 (by decide) (by decide), k_upi _ _ (by decide), k_upi _ _ (by decide), k_ups]; rfl, Or.inl (by decide), fun _ => by omega, fun h => absurd h (by decide), fun _ => ⟨v', t13, t11, t12⟩⟩, fun c hc => by rw [t3 c hc, k_upc _ _ hc, Rc c hc], fun x a b c d e => by rw [t4 x c d, k_upi _ _ d, RF x a b c d e], by rw [t4 9 (by decide) (by decide), k_upi _ _ (by decide), R9], fun c hc => by rw [t5 c hc, k_upc _ _ hc, k_upc _ _ hc, k_upc _ _ hc, Mc c hc], fun x a b c d => by rw [t6 x b d, k_upi _ _ b, k_upi _ _ d, k_upi _ _ c, MF x a b c d]⟩
    · rw [if_neg (by rw [kn_eql (by omega) (by decide)]; exact c1), if_neg (by rw [kn_eql (by omega) (by decide)]; exact c2)] at eX
      rw [if_neg c1, if_neg c2] at eY
      have eY2 : f_X11_advance m = some (k_up (k_up M 0 12 (kn (j + 1))) 0 13 (kn (if pu_kd b' = 6 then 5 else pu_kd b'))) := by
        rw [eY]
        unfold f_X11_advance_224
        by_cases c4 : pu_kd b' = 4
        · rw [if_pos ((pu_semi b' b1).mp c4), k_lts, c4]
          rfl
        rw [if_neg (fun e => c4 ((pu_semi b' b1).mpr e))]
        by_cases c3 : pu_kd b' = 3
        · rw [if_pos ((pu_minus b' b1).mp c3), k_lts, c3]
          rfl
        rw [if_neg (fun e => c3 ((pu_minus b' b1).mpr e)), k_lts, if_pos (show pu_kd b' = 6 by omega)]
        rfl
      exact ⟨R, _, eX, eY2, ⟨j, j + 1, pu_kd b', s9, by omega, by omega, R6, by rw [k_upi _ _ (by decide), k_upi _ _ (by decide), M11], R7, by rw [k_upi _ _ (by decide), k_ups], R5, k_ups _ _ _ _, by omega, fun _ => by omega, fun h => absurd h c1, fun h => absurd h c2⟩, Rc, RF, R9, fun c hc => by rw [k_upc _ _ hc, k_upc _ _ hc, Mc c hc], fun x a b c d => by rw [k_upi _ _ c, k_upi _ _ b, MF x a b c d]⟩
  · have hjl : j = len := by omega
    have eX : f_X4_advance r = some (k_up (k_up r1 0 7 (kn j)) 0 5 0) := by
      rw [eX1]
      unfold f_X4_advance_53
      rw [k_lts, s7, k_upi _ _ (show 6 ≠ 7 by decide), k_upi _ _ (show 2 ≠ 7 by decide), s7, hX1.1, if_neg (by rw [kn_lt (by omega) (by omega)]; exact hj), k_lts]
    have eY : f_X11_advance m = some (k_up M 0 13 0) := by
      rw [eY0]
      unfold f_X11_advance_0_b
      rw [s8, pu_at_e hX1 hl (by omega) (by omega), k_bds, if_neg (by decide), k_bds, if_neg (by decide), k_lts, k_lts, hM, M12, pu_at_e hXM hl (by omega) (by omega), k_bds, if_pos rfl, k_lts]
    exact ⟨_, _, eX, eY, ⟨j, j, 0, s9, Nat.le_refl _, by omega, by rw [k_upi _ _ (by decide), k_upi _ _ (by decide), s7], by rw [k_upi _ _ (by decide), M11], by rw [k_upi _ _ (by decide), k_ups], by rw [k_upi _ _ (by decide), M12], k_ups _ _ _ _, k_ups _ _ _ _, Or.inl (by decide), fun h => absurd rfl h, fun h => absurd h (by decide), fun h => absurd h (by decide)⟩, fun c hc => by rw [k_upc _ _ hc, k_upc _ _ hc, s3 c hc, ac c hc], fun x a b c d e => by rw [k_upi _ _ a, k_upi _ _ c, s4 x b, a0 x b e], by rw [k_upi _ _ (by decide), k_upi _ _ (by decide), s4 9 (by decide), a9], fun c hc => by rw [k_upc _ _ hc, Mc c hc], fun x a b c d => by rw [k_upi _ _ c, MF x a b c d]⟩

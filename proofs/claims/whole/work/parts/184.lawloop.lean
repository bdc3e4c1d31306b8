theorem kL_i {n : Nat} (h : n < 4000) : (Int32.ofNat n).toInt = (n : Int) := Int32.toInt_ofNat_of_lt (Nat.lt_trans h (by decide))
theorem kL_add {n j : Nat} : Int32.ofNat n + Int32.ofNat j = Int32.ofNat (n + j) := (Int32.ofNat_add n j).symm
theorem kL_vin0 {L t : Nat} (hL : L ≤ 3072) (ht : 6 * t + 6 ≤ L) : vp_in (Int32.ofNat (6 * t)) L := by
  rw [vp_in_iff, kL_i (by omega)]
  omega
theorem kL_vin {L t : Nat} (hL : L ≤ 3072) (ht : 6 * t + 6 ≤ L) {j : Int32} (hj : j.toInt = 1 ∨ j.toInt = 2 ∨ j.toInt = 3 ∨ j.toInt = 4 ∨ j.toInt = 5) : vp_in (Int32.ofNat (6 * t) + j) L := by
  have key : ∀ n : Nat, n < 6 → j.toInt = (n : Int) → vp_in (Int32.ofNat (6 * t) + j) L := by
    intro n hn h
    have hj : j = Int32.ofNat n := Int32.toInt_inj.mp (h.trans (kL_i (by omega)).symm)
    rw [hj, kL_add, vp_in_iff, kL_i (by omega)]
    omega
  rcases hj with h | h | h | h | h
  · exact key 1 (by decide) h
  · exact key 2 (by decide) h
  · exact key 3 (by decide) h
  · exact key 4 (by decide) h
  · exact key 5 (by decide) h
theorem kL_gt {L t : Nat} (hL : L ≤ 3072) (ht : 6 * t ≤ 3072) : (Int32.ofNat L - 6 < Int32.ofNat (6 * t)) ↔ L < 6 * t + 6 := by
  have e : Int32.ofNat L - 6 = Int32.ofInt ((L : Int) - 6) := by
    rw [Int32.ofInt_sub, Int32.ofInt_eq_ofNat]
    rfl
  rw [e, Int32.lt_iff_toInt_lt, Int32.toInt_ofInt_of_le (by omega) (by omega), kL_i (by omega)]
  omega
theorem kL_next {t : Nat} : Int32.ofNat (6 * t) + Int32.ofInt 6 = Int32.ofNat (6 * (t + 1)) := by
  rw [show Int32.ofInt 6 = Int32.ofNat 6 from rfl, kL_add]
  rfl
set_option maxRecDepth 100000 in
set_option maxHeartbeats 8000000 in
theorem kL_loop {p : Program} {l : Launch} {e : Env} {s : State} {m : MethodId} {below : List Frame} {meth : Method} {c : Code} {D : va_G} {G : Nat → ClassId} {ad : Nat → Nat → Nat} {sz b L : Nat} {xs : Nat → Int32} (hL : L ≤ 3072) (hlT : l.stackTraces = false) (X0 : k_Cx p s m #[Value.ref b] c RL cL_law 9 D G ad sz) (hX : va_X b L xs s s.heap) (hbl : b < s.heap.size) (hbA : ¬ k_A ad sz b) (hA : ∀ q : Nat, k_A ad sz q → s.heap.size ≤ q) (hr : meth.sig.returnType = ret) (hlocks : meth.locks = false)
    {P : k_U → Prop} (hP : ∀ (u : k_U) (n : Nat) (x1 x2 x3 x4 x5 : Int32), P u → ∃ u', kLsel n u x1 x2 x3 x4 x5 = some u' ∧ P u') :
    ∀ (k t : Nat), L / 6 = t + k → ∀ (u : k_U) (d : Drawn) (H : Heap) (locs : List Loc) (ls : Array Slot) (cells slots : Nat), cells = 326 + t → slots = 9385 + 6 * t → P u → s.drawn.sameBut d lw_cs → k_Uv D G ad u H → va_S (k_A ad sz) s.heap H locs → lv_has ls 9 [(4, .int (Int32.ofNat (6 * t))), (3, .ref (ad 6 0)), (2, .ref (ad 5 0)), (1, .ref (ad 0 0)), (0, .ref b)] →
      W p l e room_1 (s.setDrawn d) m #[Value.ref b] below meth c H locs cells slots (lw_Z below #[Value.ref b] s) (F0 m 23 ls []) := by
  intro k
  induction k with
  | zero =>
    intro t hk u d H locs ls cells slots hce hsl hPu hd hU hS hl
    have X := k_Cxd X0 d
    have hX : va_X b L xs (s.setDrawn d) (s.setDrawn d).heap := hX
    have ht : t ≤ 512 := by omega
    refine lv_iload X.1 X.2.1 dL_law_23 (lv_at hl 0 rfl) ?_
    refine lv_aload_n X.1 X.2.1 dL_law_25 rfl (lv_at hl 4 rfl) ?_
    refine va_slen X.1 X.2.1 hX hbl hbA hS dL_law_26 ?_
    refine lv_bipush (v := 6) X.1 X.2.1 dL_law_27 (by decide) ?_
    refine lv_isub X.1 X.2.1 dL_law_29 ?_
    refine lv_icmp_gt (tgt := 2124) X.1 X.2.1 dL_law_30 (by decide) (fun _ => ?_) (fun q9 => absurd ((kL_gt hL (by omega)).mpr (by omega)) q9)
    refine lv_iconst (v := 1) X.1 X.2.1 dL_law_2124 (by decide) ?_
    refine va_forget (fun q hq => hA _ (hS.2.2 q hq)) ?_
    refine W.widen (k := 601024) (n := 7293034) (by omega) (by omega) ?_
    exact lw_ret hd X.1 X.2.1 hr hlocks dL_law_2125
  | succ k ih =>
    intro t hk u d H locs ls cells slots hce hsl hPu hd hU hS hl
    have X := k_Cxd X0 d
    have hX : va_X b L xs (s.setDrawn d) (s.setDrawn d).heap := hX
    have ht : t ≤ 512 := by omega
    have ht6 : 6 * t + 6 ≤ L := by omega
    have hcs : cells + 1 ≤ 601024 ∧ slots + 6 ≤ 7293034 := ⟨by omega, by omega⟩
    refine lv_iload X.1 X.2.1 dL_law_23 (lv_at hl 0 rfl) ?_
    refine lv_aload_n X.1 X.2.1 dL_law_25 rfl (lv_at hl 4 rfl) ?_
    refine va_slen X.1 X.2.1 hX hbl hbA hS dL_law_26 ?_
    refine lv_bipush (v := 6) X.1 X.2.1 dL_law_27 (by decide) ?_
    refine lv_isub X.1 X.2.1 dL_law_29 ?_
    refine lv_icmp_gt (tgt := 2124) X.1 X.2.1 dL_law_30 (by decide) (fun q9 => absurd ((kL_gt hL (by omega)).mp q9) (by omega)) (fun _ => ?_)
    refine lv_aload_n X.1 X.2.1 dL_law_33 rfl (lv_at hl 4 rfl) ?_
    refine lv_iload X.1 X.2.1 dL_law_34 (lv_at hl 0 rfl) ?_
    refine va_sld X.1 X.2.1 hX hbl hbA hS (kL_vin0 hL ht6) dL_law_36 ?_
    refine lv_bipush (v := 63) X.1 X.2.1 dL_law_37 (by decide) ?_
    refine lv_iand X.1 X.2.1 dL_law_39 ?_
    have K : ∀ (d1 : Drawn), s.drawn.sameBut d1 lw_cs → ∀ u' : k_U, P u' → ∀ (H : Heap) (locs : List Loc) (ls : Array Slot), k_Uv D G ad u' H → va_S (k_A ad sz) s.heap H locs → lv_has ls 9 [(4, .int (Int32.ofNat (6 * t))), (3, .ref (ad 6 0)), (2, .ref (ad 5 0)), (1, .ref (ad 0 0)), (0, .ref b)] → W p l e room_1 (s.setDrawn d1) m #[Value.ref b] below meth c H locs (cells + 1) (slots + 6) (lw_Z below #[Value.ref b] s) (F0 m 2118 ls []) := by
      intro d1 hd1 u' hPu' H locs ls hU hS hl
      refine lv_iinc (v := Int32.ofNat (6 * (t + 1))) (lv' := [(4, .int (Int32.ofNat (6 * (t + 1)))), (3, .ref (ad 6 0)), (2, .ref (ad 5 0)), (1, .ref (ad 0 0)), (0, .ref b)]) X.1 X.2.1 dL_law_2118 hl (k := 0) rfl kL_next (by decide) rfl (fun ls hl => ?_)
      refine lv_goto (tgt := 23) X.1 X.2.1 dL_law_2121 (by decide) ?_
      exact ih (t + 1) (by omega) u' d1 H locs ls _ _ (by omega) (by omega) hPu' hd1 hU hS hl
    generalize hve : xs (Int32.ofNat (6 * t)).toNatClampNeg &&& 63 = v
    by_cases hr42 : v.toInt < 0 ∨ 42 < v.toInt
    · refine lv_tableOut (tgt := 2118) X.1 X.2.1 dL_law_40 hr42 (by decide) ?_
      exact W.widen (k := cells + 1) (n := slots + 6) (by omega) (by omega) (K d hd u hPu H locs ls hU hS hl)
    · have hv : v.toInt = 0 ∨ v.toInt = 1 ∨ v.toInt = 2 ∨ v.toInt = 3 ∨ v.toInt = 4 ∨ v.toInt = 5 ∨ v.toInt = 6 ∨ v.toInt = 7 ∨ v.toInt = 8 ∨ v.toInt = 9 ∨ v.toInt = 10 ∨ v.toInt = 11 ∨ v.toInt = 12 ∨ v.toInt = 13 ∨ v.toInt = 14 ∨ v.toInt = 15 ∨ v.toInt = 16 ∨ v.toInt = 17 ∨ v.toInt = 18 ∨ v.toInt = 19 ∨ v.toInt = 20 ∨ v.toInt = 21 ∨ v.toInt = 22 ∨ v.toInt = 23 ∨ v.toInt = 24 ∨ v.toInt = 25 ∨ v.toInt = 26 ∨ v.toInt = 27 ∨ v.toInt = 28 ∨ v.toInt = 29 ∨ v.toInt = 30 ∨ v.toInt = 31 ∨ v.toInt = 32 ∨ v.toInt = 33 ∨ v.toInt = 34 ∨ v.toInt = 35 ∨ v.toInt = 36 ∨ v.toInt = 37 ∨ v.toInt = 38 ∨ v.toInt = 39 ∨ v.toInt = 40 ∨ v.toInt = 41 ∨ v.toInt = 42 := by omega
      rcases hv with hv | hv | hv | hv | hv | hv | hv | hv | hv | hv | hv | hv | hv | hv | hv | hv | hv | hv | hv | hv | hv | hv | hv | hv | hv | hv | hv | hv | hv | hv | hv | hv | hv | hv | hv | hv | hv | hv | hv | hv | hv | hv | hv
      · obtain ⟨u', hf, hPu'⟩ := hP u 0 (xs (Int32.ofNat (6 * t) + 1).toNatClampNeg) (xs (Int32.ofNat (6 * t) + 2).toNatClampNeg) (xs (Int32.ofNat (6 * t) + 3).toNatClampNeg) (xs (Int32.ofNat (6 * t) + 4).toNatClampNeg) (xs (Int32.ofNat (6 * t) + 5).toNatClampNeg) hPu
        refine lv_tableIn (off := 188) (tgt := 228) X.1 X.2.1 dL_law_40 (by rw [hv]; decide) (by rw [hv]; decide) (by rw [hv]; rfl) (by decide) ?_
        exact kL_0 hlT X hU hS hX hbl hbA hl (kL_vin hL ht6 (by decide)) (kL_vin hL ht6 (by decide)) (kL_vin hL ht6 (by decide)) (kL_vin hL ht6 (by decide)) (kL_vin hL ht6 (by decide)) hcs hf (fun H locs ls hU hS hl => K d hd u' hPu' H locs ls hU hS hl)
      · obtain ⟨u', hf, hPu'⟩ := hP u 1 (xs (Int32.ofNat (6 * t) + 1).toNatClampNeg) (xs (Int32.ofNat (6 * t) + 2).toNatClampNeg) (xs (Int32.ofNat (6 * t) + 3).toNatClampNeg) (xs (Int32.ofNat (6 * t) + 4).toNatClampNeg) (xs (Int32.ofNat (6 * t) + 5).toNatClampNeg) hPu
        refine lv_tableIn (off := 292) (tgt := 332) X.1 X.2.1 dL_law_40 (by rw [hv]; decide) (by rw [hv]; decide) (by rw [hv]; rfl) (by decide) ?_
        exact kL_1 hlT X hU hS hX hbl hbA hl (kL_vin hL ht6 (by decide)) (kL_vin hL ht6 (by decide)) (kL_vin hL ht6 (by decide)) (kL_vin hL ht6 (by decide)) (kL_vin hL ht6 (by decide)) hcs hf (fun H locs ls hU hS hl => K d hd u' hPu' H locs ls hU hS hl)
      · obtain ⟨u', hf, hPu'⟩ := hP u 2 (xs (Int32.ofNat (6 * t) + 1).toNatClampNeg) (xs (Int32.ofNat (6 * t) + 2).toNatClampNeg) (xs (Int32.ofNat (6 * t) + 3).toNatClampNeg) (xs (Int32.ofNat (6 * t) + 4).toNatClampNeg) (xs (Int32.ofNat (6 * t) + 5).toNatClampNeg) hPu
        refine lv_tableIn (off := 305) (tgt := 345) X.1 X.2.1 dL_law_40 (by rw [hv]; decide) (by rw [hv]; decide) (by rw [hv]; rfl) (by decide) ?_
        exact kL_2 hlT X hU hS hX hbl hbA hl (kL_vin hL ht6 (by decide)) (kL_vin hL ht6 (by decide)) (kL_vin hL ht6 (by decide)) (kL_vin hL ht6 (by decide)) (kL_vin hL ht6 (by decide)) hcs hf (fun H locs ls hU hS hl => K d hd u' hPu' H locs ls hU hS hl)
      · obtain ⟨u', hf, hPu'⟩ := hP u 3 (xs (Int32.ofNat (6 * t) + 1).toNatClampNeg) (xs (Int32.ofNat (6 * t) + 2).toNatClampNeg) (xs (Int32.ofNat (6 * t) + 3).toNatClampNeg) (xs (Int32.ofNat (6 * t) + 4).toNatClampNeg) (xs (Int32.ofNat (6 * t) + 5).toNatClampNeg) hPu
        refine lv_tableIn (off := 318) (tgt := 358) X.1 X.2.1 dL_law_40 (by rw [hv]; decide) (by rw [hv]; decide) (by rw [hv]; rfl) (by decide) ?_
        exact kL_3 hlT X hU hS hX hbl hbA hl (kL_vin hL ht6 (by decide)) (kL_vin hL ht6 (by decide)) (kL_vin hL ht6 (by decide)) (kL_vin hL ht6 (by decide)) (kL_vin hL ht6 (by decide)) hcs hf (fun H locs ls hU hS hl => K d hd u' hPu' H locs ls hU hS hl)
      · obtain ⟨u', hf, hPu'⟩ := hP u 4 (xs (Int32.ofNat (6 * t) + 1).toNatClampNeg) (xs (Int32.ofNat (6 * t) + 2).toNatClampNeg) (xs (Int32.ofNat (6 * t) + 3).toNatClampNeg) (xs (Int32.ofNat (6 * t) + 4).toNatClampNeg) (xs (Int32.ofNat (6 * t) + 5).toNatClampNeg) hPu
        refine lv_tableIn (off := 331) (tgt := 371) X.1 X.2.1 dL_law_40 (by rw [hv]; decide) (by rw [hv]; decide) (by rw [hv]; rfl) (by decide) ?_
        exact kL_4 hlT X hU hS hX hbl hbA hl (kL_vin hL ht6 (by decide)) (kL_vin hL ht6 (by decide)) (kL_vin hL ht6 (by decide)) (kL_vin hL ht6 (by decide)) (kL_vin hL ht6 (by decide)) hcs hf (fun H locs ls hU hS hl => K d hd u' hPu' H locs ls hU hS hl)
      · obtain ⟨u', hf, hPu'⟩ := hP u 5 (xs (Int32.ofNat (6 * t) + 1).toNatClampNeg) (xs (Int32.ofNat (6 * t) + 2).toNatClampNeg) (xs (Int32.ofNat (6 * t) + 3).toNatClampNeg) (xs (Int32.ofNat (6 * t) + 4).toNatClampNeg) (xs (Int32.ofNat (6 * t) + 5).toNatClampNeg) hPu
        refine lv_tableIn (off := 344) (tgt := 384) X.1 X.2.1 dL_law_40 (by rw [hv]; decide) (by rw [hv]; decide) (by rw [hv]; rfl) (by decide) ?_
        exact kL_5 hlT X hU hS hX hbl hbA hl (kL_vin hL ht6 (by decide)) (kL_vin hL ht6 (by decide)) (kL_vin hL ht6 (by decide)) (kL_vin hL ht6 (by decide)) (kL_vin hL ht6 (by decide)) hcs hf (fun H locs ls hU hS hl => K d hd u' hPu' H locs ls hU hS hl)
      · obtain ⟨u', hf, hPu'⟩ := hP u 6 (xs (Int32.ofNat (6 * t) + 1).toNatClampNeg) (xs (Int32.ofNat (6 * t) + 2).toNatClampNeg) (xs (Int32.ofNat (6 * t) + 3).toNatClampNeg) (xs (Int32.ofNat (6 * t) + 4).toNatClampNeg) (xs (Int32.ofNat (6 * t) + 5).toNatClampNeg) hPu
        refine lv_tableIn (off := 400) (tgt := 440) X.1 X.2.1 dL_law_40 (by rw [hv]; decide) (by rw [hv]; decide) (by rw [hv]; rfl) (by decide) ?_
        exact kL_6 hlT X hU hS hX hbl hbA hl (kL_vin hL ht6 (by decide)) (kL_vin hL ht6 (by decide)) (kL_vin hL ht6 (by decide)) (kL_vin hL ht6 (by decide)) (kL_vin hL ht6 (by decide)) hcs hf (fun H locs ls hU hS hl => K d hd u' hPu' H locs ls hU hS hl)
      · obtain ⟨u', hf, hPu'⟩ := hP u 7 (xs (Int32.ofNat (6 * t) + 1).toNatClampNeg) (xs (Int32.ofNat (6 * t) + 2).toNatClampNeg) (xs (Int32.ofNat (6 * t) + 3).toNatClampNeg) (xs (Int32.ofNat (6 * t) + 4).toNatClampNeg) (xs (Int32.ofNat (6 * t) + 5).toNatClampNeg) hPu
        refine lv_tableIn (off := 456) (tgt := 496) X.1 X.2.1 dL_law_40 (by rw [hv]; decide) (by rw [hv]; decide) (by rw [hv]; rfl) (by decide) ?_
        exact kL_7 hlT X hU hS hX hbl hbA hl (kL_vin hL ht6 (by decide)) (kL_vin hL ht6 (by decide)) (kL_vin hL ht6 (by decide)) (kL_vin hL ht6 (by decide)) (kL_vin hL ht6 (by decide)) hcs hf (fun H locs ls hU hS hl => K d hd u' hPu' H locs ls hU hS hl)
      · obtain ⟨u', hf, hPu'⟩ := hP u 8 (xs (Int32.ofNat (6 * t) + 1).toNatClampNeg) (xs (Int32.ofNat (6 * t) + 2).toNatClampNeg) (xs (Int32.ofNat (6 * t) + 3).toNatClampNeg) (xs (Int32.ofNat (6 * t) + 4).toNatClampNeg) (xs (Int32.ofNat (6 * t) + 5).toNatClampNeg) hPu
        refine lv_tableIn (off := 524) (tgt := 564) X.1 X.2.1 dL_law_40 (by rw [hv]; decide) (by rw [hv]; decide) (by rw [hv]; rfl) (by decide) ?_
        exact kL_8 hlT X hU hS hX hbl hbA hl (kL_vin hL ht6 (by decide)) (kL_vin hL ht6 (by decide)) (kL_vin hL ht6 (by decide)) (kL_vin hL ht6 (by decide)) (kL_vin hL ht6 (by decide)) hcs hf (fun H locs ls hU hS hl => K d hd u' hPu' H locs ls hU hS hl)
      · obtain ⟨u', hf, hPu'⟩ := hP u 9 (xs (Int32.ofNat (6 * t) + 1).toNatClampNeg) (xs (Int32.ofNat (6 * t) + 2).toNatClampNeg) (xs (Int32.ofNat (6 * t) + 3).toNatClampNeg) (xs (Int32.ofNat (6 * t) + 4).toNatClampNeg) (xs (Int32.ofNat (6 * t) + 5).toNatClampNeg) hPu
        refine lv_tableIn (off := 592) (tgt := 632) X.1 X.2.1 dL_law_40 (by rw [hv]; decide) (by rw [hv]; decide) (by rw [hv]; rfl) (by decide) ?_
        exact kL_9 hlT X hU hS hX hbl hbA hl (kL_vin hL ht6 (by decide)) (kL_vin hL ht6 (by decide)) (kL_vin hL ht6 (by decide)) (kL_vin hL ht6 (by decide)) (kL_vin hL ht6 (by decide)) hcs hf (fun H locs ls hU hS hl => K d hd u' hPu' H locs ls hU hS hl)
      · obtain ⟨u', hf, hPu'⟩ := hP u 10 (xs (Int32.ofNat (6 * t) + 1).toNatClampNeg) (xs (Int32.ofNat (6 * t) + 2).toNatClampNeg) (xs (Int32.ofNat (6 * t) + 3).toNatClampNeg) (xs (Int32.ofNat (6 * t) + 4).toNatClampNeg) (xs (Int32.ofNat (6 * t) + 5).toNatClampNeg) hPu
        refine lv_tableIn (off := 648) (tgt := 688) X.1 X.2.1 dL_law_40 (by rw [hv]; decide) (by rw [hv]; decide) (by rw [hv]; rfl) (by decide) ?_
        exact kL_10 hlT X hU hS hX hbl hbA hl (kL_vin hL ht6 (by decide)) (kL_vin hL ht6 (by decide)) (kL_vin hL ht6 (by decide)) (kL_vin hL ht6 (by decide)) (kL_vin hL ht6 (by decide)) hcs hf (fun H locs ls hU hS hl => K d hd u' hPu' H locs ls hU hS hl)
      · obtain ⟨u', hf, hPu'⟩ := hP u 11 (xs (Int32.ofNat (6 * t) + 1).toNatClampNeg) (xs (Int32.ofNat (6 * t) + 2).toNatClampNeg) (xs (Int32.ofNat (6 * t) + 3).toNatClampNeg) (xs (Int32.ofNat (6 * t) + 4).toNatClampNeg) (xs (Int32.ofNat (6 * t) + 5).toNatClampNeg) hPu
        refine lv_tableIn (off := 704) (tgt := 744) X.1 X.2.1 dL_law_40 (by rw [hv]; decide) (by rw [hv]; decide) (by rw [hv]; rfl) (by decide) ?_
        exact kL_11 hlT X hU hS hX hbl hbA hl (kL_vin hL ht6 (by decide)) (kL_vin hL ht6 (by decide)) (kL_vin hL ht6 (by decide)) (kL_vin hL ht6 (by decide)) (kL_vin hL ht6 (by decide)) hcs hf (fun H locs ls hU hS hl => K d hd u' hPu' H locs ls hU hS hl)
      · obtain ⟨u', hf, hPu'⟩ := hP u 12 (xs (Int32.ofNat (6 * t) + 1).toNatClampNeg) (xs (Int32.ofNat (6 * t) + 2).toNatClampNeg) (xs (Int32.ofNat (6 * t) + 3).toNatClampNeg) (xs (Int32.ofNat (6 * t) + 4).toNatClampNeg) (xs (Int32.ofNat (6 * t) + 5).toNatClampNeg) hPu
        refine lv_tableIn (off := 772) (tgt := 812) X.1 X.2.1 dL_law_40 (by rw [hv]; decide) (by rw [hv]; decide) (by rw [hv]; rfl) (by decide) ?_
        exact kL_12 hlT X hU hS hX hbl hbA hl (kL_vin hL ht6 (by decide)) (kL_vin hL ht6 (by decide)) (kL_vin hL ht6 (by decide)) (kL_vin hL ht6 (by decide)) (kL_vin hL ht6 (by decide)) hcs hf (fun H locs ls hU hS hl => K d hd u' hPu' H locs ls hU hS hl)
      · obtain ⟨u', hf, hPu'⟩ := hP u 13 (xs (Int32.ofNat (6 * t) + 1).toNatClampNeg) (xs (Int32.ofNat (6 * t) + 2).toNatClampNeg) (xs (Int32.ofNat (6 * t) + 3).toNatClampNeg) (xs (Int32.ofNat (6 * t) + 4).toNatClampNeg) (xs (Int32.ofNat (6 * t) + 5).toNatClampNeg) hPu
        refine lv_tableIn (off := 840) (tgt := 880) X.1 X.2.1 dL_law_40 (by rw [hv]; decide) (by rw [hv]; decide) (by rw [hv]; rfl) (by decide) ?_
        exact kL_13 hlT X hU hS hX hbl hbA hl (kL_vin hL ht6 (by decide)) (kL_vin hL ht6 (by decide)) (kL_vin hL ht6 (by decide)) (kL_vin hL ht6 (by decide)) (kL_vin hL ht6 (by decide)) hcs hf (fun H locs ls hU hS hl => K d hd u' hPu' H locs ls hU hS hl)
      · obtain ⟨u', hf, hPu'⟩ := hP u 14 (xs (Int32.ofNat (6 * t) + 1).toNatClampNeg) (xs (Int32.ofNat (6 * t) + 2).toNatClampNeg) (xs (Int32.ofNat (6 * t) + 3).toNatClampNeg) (xs (Int32.ofNat (6 * t) + 4).toNatClampNeg) (xs (Int32.ofNat (6 * t) + 5).toNatClampNeg) hPu
        refine lv_tableIn (off := 896) (tgt := 936) X.1 X.2.1 dL_law_40 (by rw [hv]; decide) (by rw [hv]; decide) (by rw [hv]; rfl) (by decide) ?_
        exact kL_14 hlT X hU hS hX hbl hbA hl (kL_vin hL ht6 (by decide)) (kL_vin hL ht6 (by decide)) (kL_vin hL ht6 (by decide)) (kL_vin hL ht6 (by decide)) (kL_vin hL ht6 (by decide)) hcs hf (fun H locs ls hU hS hl => K d hd u' hPu' H locs ls hU hS hl)
      · obtain ⟨u', hf, hPu'⟩ := hP u 15 (xs (Int32.ofNat (6 * t) + 1).toNatClampNeg) (xs (Int32.ofNat (6 * t) + 2).toNatClampNeg) (xs (Int32.ofNat (6 * t) + 3).toNatClampNeg) (xs (Int32.ofNat (6 * t) + 4).toNatClampNeg) (xs (Int32.ofNat (6 * t) + 5).toNatClampNeg) hPu
        refine lv_tableIn (off := 909) (tgt := 949) X.1 X.2.1 dL_law_40 (by rw [hv]; decide) (by rw [hv]; decide) (by rw [hv]; rfl) (by decide) ?_
        exact kL_15 hlT X hU hS hX hbl hbA hl (kL_vin hL ht6 (by decide)) (kL_vin hL ht6 (by decide)) (kL_vin hL ht6 (by decide)) (kL_vin hL ht6 (by decide)) (kL_vin hL ht6 (by decide)) hcs hf (fun H locs ls hU hS hl => K d hd u' hPu' H locs ls hU hS hl)
      · obtain ⟨u', hf, hPu'⟩ := hP u 16 (xs (Int32.ofNat (6 * t) + 1).toNatClampNeg) (xs (Int32.ofNat (6 * t) + 2).toNatClampNeg) (xs (Int32.ofNat (6 * t) + 3).toNatClampNeg) (xs (Int32.ofNat (6 * t) + 4).toNatClampNeg) (xs (Int32.ofNat (6 * t) + 5).toNatClampNeg) hPu
        refine lv_tableIn (off := 965) (tgt := 1005) X.1 X.2.1 dL_law_40 (by rw [hv]; decide) (by rw [hv]; decide) (by rw [hv]; rfl) (by decide) ?_
        exact kL_16 hlT X hU hS hX hbl hbA hl (kL_vin hL ht6 (by decide)) (kL_vin hL ht6 (by decide)) (kL_vin hL ht6 (by decide)) (kL_vin hL ht6 (by decide)) (kL_vin hL ht6 (by decide)) hcs hf (fun H locs ls hU hS hl => K d hd u' hPu' H locs ls hU hS hl)
      · obtain ⟨u', hf, hPu'⟩ := hP u 17 (xs (Int32.ofNat (6 * t) + 1).toNatClampNeg) (xs (Int32.ofNat (6 * t) + 2).toNatClampNeg) (xs (Int32.ofNat (6 * t) + 3).toNatClampNeg) (xs (Int32.ofNat (6 * t) + 4).toNatClampNeg) (xs (Int32.ofNat (6 * t) + 5).toNatClampNeg) hPu
        refine lv_tableIn (off := 978) (tgt := 1018) X.1 X.2.1 dL_law_40 (by rw [hv]; decide) (by rw [hv]; decide) (by rw [hv]; rfl) (by decide) ?_
        exact kL_17 hlT X hU hS hX hbl hbA hl (kL_vin hL ht6 (by decide)) (kL_vin hL ht6 (by decide)) (kL_vin hL ht6 (by decide)) (kL_vin hL ht6 (by decide)) (kL_vin hL ht6 (by decide)) hcs hf (fun H locs ls hU hS hl => K d hd u' hPu' H locs ls hU hS hl)
      · obtain ⟨u', hf, hPu'⟩ := hP u 18 (xs (Int32.ofNat (6 * t) + 1).toNatClampNeg) (xs (Int32.ofNat (6 * t) + 2).toNatClampNeg) (xs (Int32.ofNat (6 * t) + 3).toNatClampNeg) (xs (Int32.ofNat (6 * t) + 4).toNatClampNeg) (xs (Int32.ofNat (6 * t) + 5).toNatClampNeg) hPu
        refine lv_tableIn (off := 1034) (tgt := 1074) X.1 X.2.1 dL_law_40 (by rw [hv]; decide) (by rw [hv]; decide) (by rw [hv]; rfl) (by decide) ?_
        exact kL_18 hlT X hU hS hX hbl hbA hl (kL_vin hL ht6 (by decide)) (kL_vin hL ht6 (by decide)) (kL_vin hL ht6 (by decide)) (kL_vin hL ht6 (by decide)) (kL_vin hL ht6 (by decide)) hcs hf (fun H locs ls hU hS hl => K d hd u' hPu' H locs ls hU hS hl)
      · obtain ⟨u', hf, hPu'⟩ := hP u 19 (xs (Int32.ofNat (6 * t) + 1).toNatClampNeg) (xs (Int32.ofNat (6 * t) + 2).toNatClampNeg) (xs (Int32.ofNat (6 * t) + 3).toNatClampNeg) (xs (Int32.ofNat (6 * t) + 4).toNatClampNeg) (xs (Int32.ofNat (6 * t) + 5).toNatClampNeg) hPu
        refine lv_tableIn (off := 1090) (tgt := 1130) X.1 X.2.1 dL_law_40 (by rw [hv]; decide) (by rw [hv]; decide) (by rw [hv]; rfl) (by decide) ?_
        exact kL_19 hlT hd X0 hU hS hX hbl hbA hl (kL_vin hL ht6 (by decide)) (kL_vin hL ht6 (by decide)) (kL_vin hL ht6 (by decide)) (kL_vin hL ht6 (by decide)) (kL_vin hL ht6 (by decide)) hcs hf (fun d1 hd1 H locs ls hU hS hl => K d1 hd1 u' hPu' H locs ls hU hS hl)
      · obtain ⟨u', hf, hPu'⟩ := hP u 20 (xs (Int32.ofNat (6 * t) + 1).toNatClampNeg) (xs (Int32.ofNat (6 * t) + 2).toNatClampNeg) (xs (Int32.ofNat (6 * t) + 3).toNatClampNeg) (xs (Int32.ofNat (6 * t) + 4).toNatClampNeg) (xs (Int32.ofNat (6 * t) + 5).toNatClampNeg) hPu
        refine lv_tableIn (off := 1133) (tgt := 1173) X.1 X.2.1 dL_law_40 (by rw [hv]; decide) (by rw [hv]; decide) (by rw [hv]; rfl) (by decide) ?_
        exact kL_20 hlT hd X0 hU hS hX hbl hbA hl (kL_vin hL ht6 (by decide)) (kL_vin hL ht6 (by decide)) (kL_vin hL ht6 (by decide)) (kL_vin hL ht6 (by decide)) (kL_vin hL ht6 (by decide)) hcs hf (fun d1 hd1 H locs ls hU hS hl => K d1 hd1 u' hPu' H locs ls hU hS hl)
      · obtain ⟨u', hf, hPu'⟩ := hP u 21 (xs (Int32.ofNat (6 * t) + 1).toNatClampNeg) (xs (Int32.ofNat (6 * t) + 2).toNatClampNeg) (xs (Int32.ofNat (6 * t) + 3).toNatClampNeg) (xs (Int32.ofNat (6 * t) + 4).toNatClampNeg) (xs (Int32.ofNat (6 * t) + 5).toNatClampNeg) hPu
        refine lv_tableIn (off := 1174) (tgt := 1214) X.1 X.2.1 dL_law_40 (by rw [hv]; decide) (by rw [hv]; decide) (by rw [hv]; rfl) (by decide) ?_
        exact kL_21 hlT X hU hS hX hbl hbA hl (kL_vin hL ht6 (by decide)) (kL_vin hL ht6 (by decide)) (kL_vin hL ht6 (by decide)) (kL_vin hL ht6 (by decide)) (kL_vin hL ht6 (by decide)) hcs hf (fun H locs ls hU hS hl => K d hd u' hPu' H locs ls hU hS hl)
      · obtain ⟨u', hf, hPu'⟩ := hP u 22 (xs (Int32.ofNat (6 * t) + 1).toNatClampNeg) (xs (Int32.ofNat (6 * t) + 2).toNatClampNeg) (xs (Int32.ofNat (6 * t) + 3).toNatClampNeg) (xs (Int32.ofNat (6 * t) + 4).toNatClampNeg) (xs (Int32.ofNat (6 * t) + 5).toNatClampNeg) hPu
        refine lv_tableIn (off := 1187) (tgt := 1227) X.1 X.2.1 dL_law_40 (by rw [hv]; decide) (by rw [hv]; decide) (by rw [hv]; rfl) (by decide) ?_
        exact kL_22 hlT X hU hS hX hbl hbA hl (kL_vin hL ht6 (by decide)) (kL_vin hL ht6 (by decide)) (kL_vin hL ht6 (by decide)) (kL_vin hL ht6 (by decide)) (kL_vin hL ht6 (by decide)) hcs hf (fun H locs ls hU hS hl => K d hd u' hPu' H locs ls hU hS hl)
      · obtain ⟨u', hf, hPu'⟩ := hP u 23 (xs (Int32.ofNat (6 * t) + 1).toNatClampNeg) (xs (Int32.ofNat (6 * t) + 2).toNatClampNeg) (xs (Int32.ofNat (6 * t) + 3).toNatClampNeg) (xs (Int32.ofNat (6 * t) + 4).toNatClampNeg) (xs (Int32.ofNat (6 * t) + 5).toNatClampNeg) hPu
        refine lv_tableIn (off := 1231) (tgt := 1271) X.1 X.2.1 dL_law_40 (by rw [hv]; decide) (by rw [hv]; decide) (by rw [hv]; rfl) (by decide) ?_
        exact kL_23 hlT X hU hS hX hbl hbA hl (kL_vin hL ht6 (by decide)) (kL_vin hL ht6 (by decide)) (kL_vin hL ht6 (by decide)) (kL_vin hL ht6 (by decide)) (kL_vin hL ht6 (by decide)) hcs hf (fun H locs ls hU hS hl => K d hd u' hPu' H locs ls hU hS hl)
      · obtain ⟨u', hf, hPu'⟩ := hP u 24 (xs (Int32.ofNat (6 * t) + 1).toNatClampNeg) (xs (Int32.ofNat (6 * t) + 2).toNatClampNeg) (xs (Int32.ofNat (6 * t) + 3).toNatClampNeg) (xs (Int32.ofNat (6 * t) + 4).toNatClampNeg) (xs (Int32.ofNat (6 * t) + 5).toNatClampNeg) hPu
        refine lv_tableIn (off := 1244) (tgt := 1284) X.1 X.2.1 dL_law_40 (by rw [hv]; decide) (by rw [hv]; decide) (by rw [hv]; rfl) (by decide) ?_
        exact kL_24 hlT X hU hS hX hbl hbA hl (kL_vin hL ht6 (by decide)) (kL_vin hL ht6 (by decide)) (kL_vin hL ht6 (by decide)) (kL_vin hL ht6 (by decide)) (kL_vin hL ht6 (by decide)) hcs hf (fun H locs ls hU hS hl => K d hd u' hPu' H locs ls hU hS hl)
      · obtain ⟨u', hf, hPu'⟩ := hP u 25 (xs (Int32.ofNat (6 * t) + 1).toNatClampNeg) (xs (Int32.ofNat (6 * t) + 2).toNatClampNeg) (xs (Int32.ofNat (6 * t) + 3).toNatClampNeg) (xs (Int32.ofNat (6 * t) + 4).toNatClampNeg) (xs (Int32.ofNat (6 * t) + 5).toNatClampNeg) hPu
        refine lv_tableIn (off := 1257) (tgt := 1297) X.1 X.2.1 dL_law_40 (by rw [hv]; decide) (by rw [hv]; decide) (by rw [hv]; rfl) (by decide) ?_
        exact kL_25 hlT X hU hS hX hbl hbA hl (kL_vin hL ht6 (by decide)) (kL_vin hL ht6 (by decide)) (kL_vin hL ht6 (by decide)) (kL_vin hL ht6 (by decide)) (kL_vin hL ht6 (by decide)) hcs hf (fun H locs ls hU hS hl => K d hd u' hPu' H locs ls hU hS hl)
      · obtain ⟨u', hf, hPu'⟩ := hP u 26 (xs (Int32.ofNat (6 * t) + 1).toNatClampNeg) (xs (Int32.ofNat (6 * t) + 2).toNatClampNeg) (xs (Int32.ofNat (6 * t) + 3).toNatClampNeg) (xs (Int32.ofNat (6 * t) + 4).toNatClampNeg) (xs (Int32.ofNat (6 * t) + 5).toNatClampNeg) hPu
        refine lv_tableIn (off := 1313) (tgt := 1353) X.1 X.2.1 dL_law_40 (by rw [hv]; decide) (by rw [hv]; decide) (by rw [hv]; rfl) (by decide) ?_
        exact kL_26 hlT X hU hS hX hbl hbA hl (kL_vin hL ht6 (by decide)) (kL_vin hL ht6 (by decide)) (kL_vin hL ht6 (by decide)) (kL_vin hL ht6 (by decide)) (kL_vin hL ht6 (by decide)) hcs hf (fun H locs ls hU hS hl => K d hd u' hPu' H locs ls hU hS hl)
      · obtain ⟨u', hf, hPu'⟩ := hP u 27 (xs (Int32.ofNat (6 * t) + 1).toNatClampNeg) (xs (Int32.ofNat (6 * t) + 2).toNatClampNeg) (xs (Int32.ofNat (6 * t) + 3).toNatClampNeg) (xs (Int32.ofNat (6 * t) + 4).toNatClampNeg) (xs (Int32.ofNat (6 * t) + 5).toNatClampNeg) hPu
        refine lv_tableIn (off := 1326) (tgt := 1366) X.1 X.2.1 dL_law_40 (by rw [hv]; decide) (by rw [hv]; decide) (by rw [hv]; rfl) (by decide) ?_
        exact kL_27 hlT X hU hS hX hbl hbA hl (kL_vin hL ht6 (by decide)) (kL_vin hL ht6 (by decide)) (kL_vin hL ht6 (by decide)) (kL_vin hL ht6 (by decide)) (kL_vin hL ht6 (by decide)) hcs hf (fun H locs ls hU hS hl => K d hd u' hPu' H locs ls hU hS hl)
      · obtain ⟨u', hf, hPu'⟩ := hP u 28 (xs (Int32.ofNat (6 * t) + 1).toNatClampNeg) (xs (Int32.ofNat (6 * t) + 2).toNatClampNeg) (xs (Int32.ofNat (6 * t) + 3).toNatClampNeg) (xs (Int32.ofNat (6 * t) + 4).toNatClampNeg) (xs (Int32.ofNat (6 * t) + 5).toNatClampNeg) hPu
        refine lv_tableIn (off := 1339) (tgt := 1379) X.1 X.2.1 dL_law_40 (by rw [hv]; decide) (by rw [hv]; decide) (by rw [hv]; rfl) (by decide) ?_
        exact kL_28 hlT X hU hS hX hbl hbA hl (kL_vin hL ht6 (by decide)) (kL_vin hL ht6 (by decide)) (kL_vin hL ht6 (by decide)) (kL_vin hL ht6 (by decide)) (kL_vin hL ht6 (by decide)) hcs hf (fun H locs ls hU hS hl => K d hd u' hPu' H locs ls hU hS hl)
      · obtain ⟨u', hf, hPu'⟩ := hP u 29 (xs (Int32.ofNat (6 * t) + 1).toNatClampNeg) (xs (Int32.ofNat (6 * t) + 2).toNatClampNeg) (xs (Int32.ofNat (6 * t) + 3).toNatClampNeg) (xs (Int32.ofNat (6 * t) + 4).toNatClampNeg) (xs (Int32.ofNat (6 * t) + 5).toNatClampNeg) hPu
        refine lv_tableIn (off := 1395) (tgt := 1435) X.1 X.2.1 dL_law_40 (by rw [hv]; decide) (by rw [hv]; decide) (by rw [hv]; rfl) (by decide) ?_
        exact kL_29 hlT X hU hS hX hbl hbA hl (kL_vin hL ht6 (by decide)) (kL_vin hL ht6 (by decide)) (kL_vin hL ht6 (by decide)) (kL_vin hL ht6 (by decide)) (kL_vin hL ht6 (by decide)) hcs hf (fun H locs ls hU hS hl => K d hd u' hPu' H locs ls hU hS hl)
      · obtain ⟨u', hf, hPu'⟩ := hP u 30 (xs (Int32.ofNat (6 * t) + 1).toNatClampNeg) (xs (Int32.ofNat (6 * t) + 2).toNatClampNeg) (xs (Int32.ofNat (6 * t) + 3).toNatClampNeg) (xs (Int32.ofNat (6 * t) + 4).toNatClampNeg) (xs (Int32.ofNat (6 * t) + 5).toNatClampNeg) hPu
        refine lv_tableIn (off := 1408) (tgt := 1448) X.1 X.2.1 dL_law_40 (by rw [hv]; decide) (by rw [hv]; decide) (by rw [hv]; rfl) (by decide) ?_
        exact kL_30 hlT X hU hS hX hbl hbA hl (kL_vin hL ht6 (by decide)) (kL_vin hL ht6 (by decide)) (kL_vin hL ht6 (by decide)) (kL_vin hL ht6 (by decide)) (kL_vin hL ht6 (by decide)) hcs hf (fun H locs ls hU hS hl => K d hd u' hPu' H locs ls hU hS hl)
      · obtain ⟨u', hf, hPu'⟩ := hP u 31 (xs (Int32.ofNat (6 * t) + 1).toNatClampNeg) (xs (Int32.ofNat (6 * t) + 2).toNatClampNeg) (xs (Int32.ofNat (6 * t) + 3).toNatClampNeg) (xs (Int32.ofNat (6 * t) + 4).toNatClampNeg) (xs (Int32.ofNat (6 * t) + 5).toNatClampNeg) hPu
        refine lv_tableIn (off := 1464) (tgt := 1504) X.1 X.2.1 dL_law_40 (by rw [hv]; decide) (by rw [hv]; decide) (by rw [hv]; rfl) (by decide) ?_
        exact kL_31 hlT X hU hS hX hbl hbA hl (kL_vin hL ht6 (by decide)) (kL_vin hL ht6 (by decide)) (kL_vin hL ht6 (by decide)) (kL_vin hL ht6 (by decide)) (kL_vin hL ht6 (by decide)) hcs hf (fun H locs ls hU hS hl => K d hd u' hPu' H locs ls hU hS hl)
      · obtain ⟨u', hf, hPu'⟩ := hP u 32 (xs (Int32.ofNat (6 * t) + 1).toNatClampNeg) (xs (Int32.ofNat (6 * t) + 2).toNatClampNeg) (xs (Int32.ofNat (6 * t) + 3).toNatClampNeg) (xs (Int32.ofNat (6 * t) + 4).toNatClampNeg) (xs (Int32.ofNat (6 * t) + 5).toNatClampNeg) hPu
        refine lv_tableIn (off := 1520) (tgt := 1560) X.1 X.2.1 dL_law_40 (by rw [hv]; decide) (by rw [hv]; decide) (by rw [hv]; rfl) (by decide) ?_
        exact kL_32 hlT X hU hS hX hbl hbA hl (kL_vin hL ht6 (by decide)) (kL_vin hL ht6 (by decide)) (kL_vin hL ht6 (by decide)) (kL_vin hL ht6 (by decide)) (kL_vin hL ht6 (by decide)) hcs hf (fun H locs ls hU hS hl => K d hd u' hPu' H locs ls hU hS hl)
      · obtain ⟨u', hf, hPu'⟩ := hP u 33 (xs (Int32.ofNat (6 * t) + 1).toNatClampNeg) (xs (Int32.ofNat (6 * t) + 2).toNatClampNeg) (xs (Int32.ofNat (6 * t) + 3).toNatClampNeg) (xs (Int32.ofNat (6 * t) + 4).toNatClampNeg) (xs (Int32.ofNat (6 * t) + 5).toNatClampNeg) hPu
        refine lv_tableIn (off := 1576) (tgt := 1616) X.1 X.2.1 dL_law_40 (by rw [hv]; decide) (by rw [hv]; decide) (by rw [hv]; rfl) (by decide) ?_
        exact kL_33 hlT X hU hS hX hbl hbA hl (kL_vin hL ht6 (by decide)) (kL_vin hL ht6 (by decide)) (kL_vin hL ht6 (by decide)) (kL_vin hL ht6 (by decide)) (kL_vin hL ht6 (by decide)) hcs hf (fun H locs ls hU hS hl => K d hd u' hPu' H locs ls hU hS hl)
      · obtain ⟨u', hf, hPu'⟩ := hP u 34 (xs (Int32.ofNat (6 * t) + 1).toNatClampNeg) (xs (Int32.ofNat (6 * t) + 2).toNatClampNeg) (xs (Int32.ofNat (6 * t) + 3).toNatClampNeg) (xs (Int32.ofNat (6 * t) + 4).toNatClampNeg) (xs (Int32.ofNat (6 * t) + 5).toNatClampNeg) hPu
        refine lv_tableIn (off := 1589) (tgt := 1629) X.1 X.2.1 dL_law_40 (by rw [hv]; decide) (by rw [hv]; decide) (by rw [hv]; rfl) (by decide) ?_
        exact kL_34 hlT X hU hS hX hbl hbA hl (kL_vin hL ht6 (by decide)) (kL_vin hL ht6 (by decide)) (kL_vin hL ht6 (by decide)) (kL_vin hL ht6 (by decide)) (kL_vin hL ht6 (by decide)) hcs hf (fun H locs ls hU hS hl => K d hd u' hPu' H locs ls hU hS hl)
      · obtain ⟨u', hf, hPu'⟩ := hP u 35 (xs (Int32.ofNat (6 * t) + 1).toNatClampNeg) (xs (Int32.ofNat (6 * t) + 2).toNatClampNeg) (xs (Int32.ofNat (6 * t) + 3).toNatClampNeg) (xs (Int32.ofNat (6 * t) + 4).toNatClampNeg) (xs (Int32.ofNat (6 * t) + 5).toNatClampNeg) hPu
        refine lv_tableIn (off := 1645) (tgt := 1685) X.1 X.2.1 dL_law_40 (by rw [hv]; decide) (by rw [hv]; decide) (by rw [hv]; rfl) (by decide) ?_
        exact kL_35 hlT X hU hS hX hbl hbA hl (kL_vin hL ht6 (by decide)) (kL_vin hL ht6 (by decide)) (kL_vin hL ht6 (by decide)) (kL_vin hL ht6 (by decide)) (kL_vin hL ht6 (by decide)) hcs hf (fun H locs ls hU hS hl => K d hd u' hPu' H locs ls hU hS hl)
      · obtain ⟨u', hf, hPu'⟩ := hP u 36 (xs (Int32.ofNat (6 * t) + 1).toNatClampNeg) (xs (Int32.ofNat (6 * t) + 2).toNatClampNeg) (xs (Int32.ofNat (6 * t) + 3).toNatClampNeg) (xs (Int32.ofNat (6 * t) + 4).toNatClampNeg) (xs (Int32.ofNat (6 * t) + 5).toNatClampNeg) hPu
        refine lv_tableIn (off := 1701) (tgt := 1741) X.1 X.2.1 dL_law_40 (by rw [hv]; decide) (by rw [hv]; decide) (by rw [hv]; rfl) (by decide) ?_
        exact kL_36 hlT X hU hS hX hbl hbA hl (kL_vin hL ht6 (by decide)) (kL_vin hL ht6 (by decide)) (kL_vin hL ht6 (by decide)) (kL_vin hL ht6 (by decide)) (kL_vin hL ht6 (by decide)) hcs hf (fun H locs ls hU hS hl => K d hd u' hPu' H locs ls hU hS hl)
      · obtain ⟨u', hf, hPu'⟩ := hP u 37 (xs (Int32.ofNat (6 * t) + 1).toNatClampNeg) (xs (Int32.ofNat (6 * t) + 2).toNatClampNeg) (xs (Int32.ofNat (6 * t) + 3).toNatClampNeg) (xs (Int32.ofNat (6 * t) + 4).toNatClampNeg) (xs (Int32.ofNat (6 * t) + 5).toNatClampNeg) hPu
        refine lv_tableIn (off := 1769) (tgt := 1809) X.1 X.2.1 dL_law_40 (by rw [hv]; decide) (by rw [hv]; decide) (by rw [hv]; rfl) (by decide) ?_
        exact kL_37 hlT X hU hS hX hbl hbA hl (kL_vin hL ht6 (by decide)) (kL_vin hL ht6 (by decide)) (kL_vin hL ht6 (by decide)) (kL_vin hL ht6 (by decide)) (kL_vin hL ht6 (by decide)) hcs hf (fun H locs ls hU hS hl => K d hd u' hPu' H locs ls hU hS hl)
      · obtain ⟨u', hf, hPu'⟩ := hP u 38 (xs (Int32.ofNat (6 * t) + 1).toNatClampNeg) (xs (Int32.ofNat (6 * t) + 2).toNatClampNeg) (xs (Int32.ofNat (6 * t) + 3).toNatClampNeg) (xs (Int32.ofNat (6 * t) + 4).toNatClampNeg) (xs (Int32.ofNat (6 * t) + 5).toNatClampNeg) hPu
        refine lv_tableIn (off := 1853) (tgt := 1893) X.1 X.2.1 dL_law_40 (by rw [hv]; decide) (by rw [hv]; decide) (by rw [hv]; rfl) (by decide) ?_
        exact kL_38 hlT X hU hS hX hbl hbA hl (kL_vin hL ht6 (by decide)) (kL_vin hL ht6 (by decide)) (kL_vin hL ht6 (by decide)) (kL_vin hL ht6 (by decide)) (kL_vin hL ht6 (by decide)) hcs hf (fun H locs ls hU hS hl => K d hd u' hPu' H locs ls hU hS hl)
      · obtain ⟨u', hf, hPu'⟩ := hP u 39 (xs (Int32.ofNat (6 * t) + 1).toNatClampNeg) (xs (Int32.ofNat (6 * t) + 2).toNatClampNeg) (xs (Int32.ofNat (6 * t) + 3).toNatClampNeg) (xs (Int32.ofNat (6 * t) + 4).toNatClampNeg) (xs (Int32.ofNat (6 * t) + 5).toNatClampNeg) hPu
        refine lv_tableIn (off := 1866) (tgt := 1906) X.1 X.2.1 dL_law_40 (by rw [hv]; decide) (by rw [hv]; decide) (by rw [hv]; rfl) (by decide) ?_
        exact kL_39 hlT X hU hS hX hbl hbA hl (kL_vin hL ht6 (by decide)) (kL_vin hL ht6 (by decide)) (kL_vin hL ht6 (by decide)) (kL_vin hL ht6 (by decide)) (kL_vin hL ht6 (by decide)) hcs hf (fun H locs ls hU hS hl => K d hd u' hPu' H locs ls hU hS hl)
      · obtain ⟨u', hf, hPu'⟩ := hP u 40 (xs (Int32.ofNat (6 * t) + 1).toNatClampNeg) (xs (Int32.ofNat (6 * t) + 2).toNatClampNeg) (xs (Int32.ofNat (6 * t) + 3).toNatClampNeg) (xs (Int32.ofNat (6 * t) + 4).toNatClampNeg) (xs (Int32.ofNat (6 * t) + 5).toNatClampNeg) hPu
        refine lv_tableIn (off := 1922) (tgt := 1962) X.1 X.2.1 dL_law_40 (by rw [hv]; decide) (by rw [hv]; decide) (by rw [hv]; rfl) (by decide) ?_
        exact kL_40 hlT X hU hS hX hbl hbA hl (kL_vin hL ht6 (by decide)) (kL_vin hL ht6 (by decide)) (kL_vin hL ht6 (by decide)) (kL_vin hL ht6 (by decide)) (kL_vin hL ht6 (by decide)) hcs hf (fun H locs ls hU hS hl => K d hd u' hPu' H locs ls hU hS hl)
      · obtain ⟨u', hf, hPu'⟩ := hP u 41 (xs (Int32.ofNat (6 * t) + 1).toNatClampNeg) (xs (Int32.ofNat (6 * t) + 2).toNatClampNeg) (xs (Int32.ofNat (6 * t) + 3).toNatClampNeg) (xs (Int32.ofNat (6 * t) + 4).toNatClampNeg) (xs (Int32.ofNat (6 * t) + 5).toNatClampNeg) hPu
        refine lv_tableIn (off := 1966) (tgt := 2006) X.1 X.2.1 dL_law_40 (by rw [hv]; decide) (by rw [hv]; decide) (by rw [hv]; rfl) (by decide) ?_
        exact kL_41 hlT X hU hS hX hbl hbA hl (kL_vin hL ht6 (by decide)) (kL_vin hL ht6 (by decide)) (kL_vin hL ht6 (by decide)) (kL_vin hL ht6 (by decide)) (kL_vin hL ht6 (by decide)) hcs hf (fun H locs ls hU hS hl => K d hd u' hPu' H locs ls hU hS hl)
      · obtain ⟨u', hf, hPu'⟩ := hP u 42 (xs (Int32.ofNat (6 * t) + 1).toNatClampNeg) (xs (Int32.ofNat (6 * t) + 2).toNatClampNeg) (xs (Int32.ofNat (6 * t) + 3).toNatClampNeg) (xs (Int32.ofNat (6 * t) + 4).toNatClampNeg) (xs (Int32.ofNat (6 * t) + 5).toNatClampNeg) hPu
        refine lv_tableIn (off := 2022) (tgt := 2062) X.1 X.2.1 dL_law_40 (by rw [hv]; decide) (by rw [hv]; decide) (by rw [hv]; rfl) (by decide) ?_
        exact kL_42 hlT X hU hS hX hbl hbA hl (kL_vin hL ht6 (by decide)) (kL_vin hL ht6 (by decide)) (kL_vin hL ht6 (by decide)) (kL_vin hL ht6 (by decide)) (kL_vin hL ht6 (by decide)) hcs hf (fun H locs ls hU hS hl => K d hd u' hPu' H locs ls hU hS hl)
set_option maxRecDepth 100000 in
set_option maxHeartbeats 8000000 in
theorem kL_whole {p : Program} {e : Env} {s : State} {m : MethodId} {below : List Frame} {meth : Method} {c : Code} (l : Launch) (hflags : l.flags = flags0) {b L : Nat} {xs : Nat → Int32} (hL : L ≤ 3072) (C0 : lw_At p s m meth c b L xs)
    {P : k_U → Prop} {r10 r11 : k_M} (e10 : f_X9_begin kW0 3000 100 10 = some r10) (e11 : f_X11_empties kM0 1 268 = some r11) (hP0 : P (kS_u0 r10 r11)) (hP : ∀ (u : k_U) (n : Nat) (x1 x2 x3 x4 x5 : Int32), P u → ∃ u', kLsel n u x1 x2 x3 x4 x5 = some u' ∧ P u') :
    W p l e room_1 s m #[Value.ref b] below meth c s.heap [] 0 0 (lw_Z below #[Value.ref b] s) (entryFrame m ([Value.ref b] : List Value).toArray 9) := by
  obtain ⟨hx, hb, hr, hml, hown, hts0, hX, hbl, hlocks, hgv⟩ := id C0
  have hts : ∀ w ∈ lw_g, w.before #[Value.ref b] s = true := fun w h => hts0 w (k_gtbl w h)
  have hn := flat_of_before _ hgv
  have hlT : l.stackTraces = false := by
    rw [show l.stackTraces = !l.flags.contains noTraceFlag from rfl, hflags]
    decide +kernel
  have hA : ∀ q : Nat, s.heap.size ≤ q → (fun q : Nat => s.heap.size ≤ q) q := fun _ h => h
  obtain ⟨st, hWd⟩ := kS_Wd (args := #[Value.ref b]) (s := s) (A := fun q : Nat => s.heap.size ≤ q) (fun a ha => Nat.not_le.mpr ha) hn hts0
  have hWc := kS_Wc (args := #[Value.ref b]) (s := s) hts0
  obtain ⟨D, G, hK⟩ := kS_K (args := #[Value.ref b]) (s := s) hts0
  have hS : va_S (fun q : Nat => s.heap.size ≤ q) s.heap s.heap [] := va_S.rf
  have hl := lv_entry ([.ref b] : List Value) (n := 9) (Nat.le_of_ble_eq_true rfl)
  rw [lg_entry_eq]
  generalize (lg_sl ([.ref b]) ++ List.replicate (9 - (lg_sl ([.ref b])).length) Slot.unset).toArray = ls at hl ⊢
  have hl : lv_has ls 9 [(0, .ref b)] := hl
  generalize hB : s.heap.size = B at *
  refine kS_new (sh := k_shL) (u := k_uc kU0 10 r10) (ad := kAd B st) (A := fun q : Nat => B ≤ q) (own := RL) (nL := 9) (tag := 10) (N := 10) (n := 313) (h := B) (h1 := B + 314) (T := TX10) (ty0 := tyX10) (fs := fsX10) (ixN := 8) (ixC := 103) (mc := 313) (ms := 5116) (cells1 := 314) (slots1 := 5126) hx hb hml hown hts hK hWc (hWd B) (by rw [hB]; exact hA) hS hB (by omega) rfl in_X10 tyX10_ok (fun j hj => by rcases (show j = 0 ∨ j = 1 ∨ j = 2 ∨ j = 3 ∨ j = 4 ∨ j = 5 ∨ j = 6 ∨ j = 7 ∨ j = 8 ∨ j = 9 by omega) with rfl | rfl | rfl | rfl | rfl | rfl | rfl | rfl | rfl | rfl <;> rfl) (by decide +kernel) (by decide +kernel) (by decide +kernel) (c_X10_init l D G B (B + 1) rfl st e10) rfl rfl ⟨by decide +kernel, by decide +kernel, by decide +kernel⟩ (by decide +kernel) (by decide +kernel) (by decide +kernel) ⟨rfl, rfl⟩ ⟨by decide, by decide⟩ hl.1 (Nat.le_of_ble_eq_true rfl) rfl rfl ⟨by decide, by decide⟩ dL_law_0 dL_law_3 dL_law_4 (fun H1 locs1 z1 hU1 o1 hS => ?_)
  refine lv_astore_n (lv' := [(1, .ref B), (0, .ref b)]) hx hb dL_law_7 rfl hl (by decide) rfl (fun ls hl => ?_)
  refine kS_new (sh := k_shM) (u := k_uc kU0 5 (kM1 r11)) (ad := kAd B st) (A := fun q : Nat => B ≤ q) (own := RL) (nL := 9) (tag := 11) (N := 22) (n := 10) (h := B + 314) (h1 := B + 325) (T := TX11) (ty0 := tyX11) (fs := fsX11) (ixN := 104) (ixC := 106) (mc := 10) (ms := 4236) (cells1 := 325) (slots1 := 9384) hx hb hml hown hts hK hWc (hWd B) (by rw [hB]; exact hA) hS z1 (by omega) rfl in_X11 tyX11_ok (fun j hj => by rcases (show j = 0 ∨ j = 1 ∨ j = 2 ∨ j = 3 ∨ j = 4 ∨ j = 5 ∨ j = 6 ∨ j = 7 ∨ j = 8 ∨ j = 9 ∨ j = 10 ∨ j = 11 ∨ j = 12 ∨ j = 13 ∨ j = 14 ∨ j = 15 ∨ j = 16 ∨ j = 17 ∨ j = 18 ∨ j = 19 ∨ j = 20 ∨ j = 21 by omega) with rfl | rfl | rfl | rfl | rfl | rfl | rfl | rfl | rfl | rfl | rfl | rfl | rfl | rfl | rfl | rfl | rfl | rfl | rfl | rfl | rfl | rfl <;> rfl) (by decide +kernel) (by decide +kernel) (by decide +kernel) (c_X11_init l D G B (B + 314) (B + 315) rfl rfl st e11) rfl rfl ⟨by decide +kernel, by decide +kernel, by decide +kernel⟩ (by decide +kernel) (by decide +kernel) (by decide +kernel) ⟨rfl, rfl⟩ ⟨by decide, by decide⟩ hl.1 (Nat.le_of_ble_eq_true rfl) rfl rfl ⟨by decide, by decide⟩ dL_law_8 dL_law_11 dL_law_12 (fun H2 locs2 z2 hU2 o2 hS => ?_)
  refine lv_astore_n (lv' := [(2, .ref (B + 314)), (1, .ref B), (0, .ref b)]) hx hb dL_law_15 rfl hl (by decide) rfl (fun ls hl => ?_)
  refine lv_iconst (v := 1) hx hb dL_law_16 (by decide) ?_
  refine va_newaK (atype := .long) (N := 1) hx hb (hts _ (by decide +kernel)) rfl dL_law_17 rfl (by decide) (by decide) (by decide) (by decide) (by decide) z2 (fun H3 cA e3 z3 o3 hAr hNm => ?_)
  have hcA : cA = G 5 := Option.some.inj (hNm.symm.trans (hK.2 5 (G 5, .long) rfl).2)
  subst hcA
  have hU3 : k_Uv D G (kAd B st) (kS_u0 r10 r11) H3 := kS_join hU1 hU2 (fun q hq => o2 q (by rw [← z1]; exact hq)) (by omega) (fun q hq => o3 q (by rw [← z2]; exact hq)) e3
  refine W.eq (g2 := F0 m 19 ls [.ref (B + 325)]) rfl ?_
  refine lv_astore_n (lv' := [(3, .ref (B + 325)), (2, .ref (B + 314)), (1, .ref B), (0, .ref b)]) hx hb dL_law_19 rfl hl (by decide) rfl (fun ls hl => ?_)
  refine lv_iconst (v := 0) hx hb dL_law_20 (by decide) ?_
  refine lv_istore (lv' := [(4, .int 0), (3, .ref (B + 325)), (2, .ref (B + 314)), (1, .ref B), (0, .ref b)]) hx hb dL_law_21 hl (by decide) rfl (fun ls hl => ?_)
  have hkA : (fun q : Nat => B ≤ q) = k_A (kAd B st) B := by
    funext q
    exact propext ⟨fun h => Or.inr h, kS_A q⟩
  have hS3 : va_S (k_A (kAd B st) B) s.heap H3 locs2 := by
    rw [← hkA]
    exact ⟨by have := hS.1; omega, fun q h1 h2 => (o3 q (by omega)).trans (hS.2.1 q h1 h2), hS.2.2⟩
  have X0 : k_Cx p s m #[Value.ref b] c RL cL_law 9 D G (kAd B st) B := ⟨hx, hb, hml, hown, hts, hK, kAd_ok B st, hB, by rw [show kA k_sh (kAd B st) B = k_A (kAd B st) B from rfl, ← hkA]; exact hWd B⟩
  refine W.base ?_
  exact kL_loop hL hlT X0 hX (by rw [hB]; exact hbl) (fun h => absurd (kS_A b h) (Nat.not_le.mpr hbl)) (by rw [hB]; exact kS_A) hr hlocks hP (L / 6) 0 (by omega) (kS_u0 r10 r11) s.drawn H3 locs2 ls 326 9385 rfl rfl hP0 (Drawn.sameBut.refl s.drawn lw_cs) hU3 hS3 hl

def rm_X11_thrown : Room := { frames := 0, cells := 0, slots := 0, locals := 0 }
set_option maxRecDepth 100000 in
set_option maxHeartbeats 4000000 in
theorem c_X11_thrown {l : Launch} {D : va_G} {G : Nat → ClassId} {ad : Nat → Nat → Nat} {u : k_U} (hI : k_ok ad) {w : k_M} (hw : u 5 = w) {sz : Nat} {r : Int32} (hf : f_X11_thrown w = some r) : Met l yX11_thrown (.code yX11_thrown cX11_thrown 1 (some .int) :: lw_g) rm_X11_thrown (k_Pre D G ad u sz [.ref (ad 5 0)]) (k_Qi D G ad u r sz) 0 0 (k_A ad sz) := by
  refine k_ofW (by decide +kernel) hI (Nat.le_of_ble_eq_true rfl) ?_
  intro p e s m args below meth c X hr hlk hU hS ls hl
  have hl : lv_has ls 1 [(0, .ref (ad 5 0))] := hl
  have hU : k_Uv D G ad (k_uc u 5 w) s.heap := by rw [← hw, k_uc_id]; exact hU
  unfold f_X11_thrown at hf
  refine lv_aload_n X.1 X.2.1 dX11_thrown_0 rfl (lv_at hl 0 rfl) ?_
  refine k_getw (v := .int (w 0 0)) X hU sh_5_0 fl_X11_50 rfl dX11_thrown_1 ?_
  rw [← hw, k_uc_id] at hU
  have hz := Option.some.inj hf
  subst hz
  exact k_iret (v := w 0 0) X hU hS hr hlk rfl rfl dX11_thrown_4
def rm_X11_empties : Room := { frames := 0, cells := 0, slots := 0, locals := 0 }
set_option maxRecDepth 100000 in
set_option maxHeartbeats 4000000 in
theorem c_X11_empties {l : Launch} {D : va_G} {G : Nat → ClassId} {ad : Nat → Nat → Nat} {u : k_U} (hI : k_ok ad) {w : k_M} (hw : u 5 = w) {q0 : Nat} {N0 : Nat} (hs0 : k_sh 5 q0 = some (20, N0, k_r0)) (hN0 : (nI N0).toInt = (N0 : Int)) {sz : Nat} {r : k_M} (hf : f_X11_empties w q0 N0 = some r) : Met l yX11_empties (.code yX11_empties cX11_empties 2 none :: lw_g) rm_X11_empties (k_Pre D G ad u sz [.ref (ad 5 q0)]) (k_Qv D G ad (k_uc u 5 r) sz) 0 0 (k_A ad sz) := by
  refine k_ofW (by decide +kernel) hI (Nat.le_of_ble_eq_true rfl) ?_
  intro p e s m args below meth c X hr hlk hU hS ls hl
  have hl : lv_has ls 2 [(0, .ref (ad 5 q0))] := hl
  have hU : k_Uv D G ad (k_uc u 5 w) s.heap := by rw [← hw, k_uc_id]; exact hU
  have L2 : ∀ (n2 : Nat) (H : Heap) (locs : List Loc) (ls : Array Slot) (w : k_M) (a1 : Int32), k_Uv D G ad (k_uc u 5 w) H → va_S (k_A ad sz) s.heap H locs → lv_has ls 2 [(0, .ref (ad 5 q0)), (1, .int a1)] → f_X11_empties_2 n2 w q0 N0 a1 = some r → W p l e rm_X11_empties s m args below meth c H locs 0 0 (MQ below (k_Qv D G ad (k_uc u 5 r) sz) args s 0 0 (k_A ad sz)) (F0 m 2 ls []) := by
    intro n2
    induction n2 with
    | zero =>
      intro H locs ls w a1 hU hS hl hf
      cases (show none = some r from hf)
    | succ n2 ih2 =>
      intro H locs ls w a1 hU hS hl hf
      replace hf : f_X11_empties_2_b (f_X11_empties_2 n2) w q0 N0 a1 = some r := hf
      unfold f_X11_empties_2_b at hf
      refine lv_iload_n X.1 X.2.1 dX11_empties_2 rfl (lv_at hl 1 rfl) ?_
      refine lv_sipush (v := 268) X.1 X.2.1 dX11_empties_3 (by decide) ?_
      refine lv_icmp_ge (tgt := 19) X.1 X.2.1 dX11_empties_6 (by decide) (fun c6 => ?_) (fun c6 => ?_)
      · replace hf := k_ifP hf c6
        refine lv_aload_n X.1 X.2.1 dX11_empties_19 rfl (lv_at hl 0 rfl) ?_
        refine lv_bipush (v := 7) X.1 X.2.1 dX11_empties_20 (by decide) ?_
        refine lv_bipush (v := 20) X.1 X.2.1 dX11_empties_22 (by decide) ?_
        obtain ⟨hi24, hf⟩ := k_ckE hf
        obtain ⟨w24, e24, hf⟩ := k_ltE hf
        refine k_istw X hU hS hs0 e24 (k_vin hi24 hN0) (by decide) dX11_empties_24 (fun H locs hU hS => ?_)
        have hz := Option.some.inj hf
        subst hz
        exact k_vret X hU hS hr hlk dX11_empties_25
      · replace hf := k_ifN hf c6
        refine lv_aload_n X.1 X.2.1 dX11_empties_9 rfl (lv_at hl 0 rfl) ?_
        refine lv_iload_n X.1 X.2.1 dX11_empties_10 rfl (lv_at hl 1 rfl) ?_
        refine lv_iconst (v := 0) X.1 X.2.1 dX11_empties_11 (by decide) ?_
        obtain ⟨hi12, hf⟩ := k_ckE hf
        obtain ⟨w12, e12, hf⟩ := k_ltE hf
        refine k_istw X hU hS hs0 e12 (k_vin hi12 hN0) rfl dX11_empties_12 (fun H locs hU hS => ?_)
        obtain ⟨x13, e13, hf⟩ := k_ltE hf
        refine lv_iinc (v := x13) (lv' := [(1, .int x13), (0, .ref (ad 5 q0))]) X.1 X.2.1 dX11_empties_13 hl (k := 1) rfl (by rw [e13]; rfl) (by decide) rfl (fun ls hl => ?_)
        refine lv_goto (tgt := 2) X.1 X.2.1 dX11_empties_16 (by decide) ?_
        exact ih2 _ _ _ w12 x13 hU hS (lv_sub hl [1, 0] rfl) hf
  unfold f_X11_empties at hf
  refine lv_iconst (v := 0) X.1 X.2.1 dX11_empties_0 (by decide) ?_
  refine lv_istore_n (lv' := [(1, .int 0), (0, .ref (ad 5 q0))]) X.1 X.2.1 dX11_empties_1 rfl hl (by decide) rfl (fun ls hl => ?_)
  exact L2 k_N _ _ _ w 0 hU hS (lv_sub hl [1, 0] rfl) hf
def rm_X11_within : Room := { frames := 0, cells := 0, slots := 0, locals := 0 }
set_option maxRecDepth 100000 in
set_option maxHeartbeats 4000000 in
theorem c_X11_within {l : Launch} {D : va_G} {G : Nat → ClassId} {ad : Nat → Nat → Nat} {u : k_U} (hI : k_ok ad) {a0 : Int32} {a1 : Int32} {a2 : Int32} {sz : Nat} {r : Int32} (hf : f_X11_within a0 a1 a2 = some r) : Met l yX11_within (.code yX11_within cX11_within 3 (some .boolean) :: lw_g) rm_X11_within (k_Pre D G ad u sz [.int a0, .int a1, .int a2]) (k_Qi D G ad u r sz) 0 0 (k_A ad sz) := by
  refine k_ofW (by decide +kernel) hI (Nat.le_of_ble_eq_true rfl) ?_
  intro p e s m args below meth c X hr hlk hU hS ls hl
  have hl : lv_has ls 3 [(0, .int a0), (1, .int a1), (2, .int a2)] := hl
  unfold f_X11_within at hf
  refine lv_iload_n X.1 X.2.1 dX11_within_0 rfl (lv_at hl 0 rfl) ?_
  refine lv_iload_n X.1 X.2.1 dX11_within_1 rfl (lv_at hl 1 rfl) ?_
  refine lv_icmp_lt (tgt := 14) X.1 X.2.1 dX11_within_2 (by decide) (fun c2 => ?_) (fun c2 => ?_)
  · replace hf := k_ifP hf c2
    refine lv_iconst (v := 0) X.1 X.2.1 dX11_within_14 (by decide) ?_
    have hz := Option.some.inj hf
    subst hz
    exact k_iret (v := 0) X hU hS hr hlk rfl rfl dX11_within_15
  · replace hf := k_ifN hf c2
    refine lv_iload_n X.1 X.2.1 dX11_within_5 rfl (lv_at hl 0 rfl) ?_
    refine lv_iload_n X.1 X.2.1 dX11_within_6 rfl (lv_at hl 2 rfl) ?_
    refine lv_icmp_gt (tgt := 14) X.1 X.2.1 dX11_within_7 (by decide) (fun c7 => ?_) (fun c7 => ?_)
    · replace hf := k_ifP hf c7
      refine lv_iconst (v := 0) X.1 X.2.1 dX11_within_14 (by decide) ?_
      have hz := Option.some.inj hf
      subst hz
      exact k_iret (v := 0) X hU hS hr hlk rfl rfl dX11_within_15
    · replace hf := k_ifN hf c7
      refine lv_iconst (v := 1) X.1 X.2.1 dX11_within_10 (by decide) ?_
      refine lv_goto (tgt := 15) X.1 X.2.1 dX11_within_11 (by decide) ?_
      have hz := Option.some.inj hf
      subst hz
      exact k_iret (v := 1) X hU hS hr hlk rfl rfl dX11_within_15
def rm_X11_has : Room := { frames := 0, cells := 0, slots := 0, locals := 0 }
set_option maxRecDepth 100000 in
set_option maxHeartbeats 4000000 in
theorem c_X11_has {l : Launch} {D : va_G} {G : Nat → ClassId} {ad : Nat → Nat → Nat} {u : k_U} (hI : k_ok ad) {a0 : Int32} {a1 : Int32} {sz : Nat} {r : Int32} (hf : f_X11_has a0 a1 = some r) : Met l yX11_has (.code yX11_has cX11_has 2 (some .boolean) :: lw_g) rm_X11_has (k_Pre D G ad u sz [.int a0, .int a1]) (k_Qi D G ad u r sz) 0 0 (k_A ad sz) := by
  refine k_ofW (by decide +kernel) hI (Nat.le_of_ble_eq_true rfl) ?_
  intro p e s m args below meth c X hr hlk hU hS ls hl
  have hl : lv_has ls 2 [(0, .int a0), (1, .int a1)] := hl
  unfold f_X11_has at hf
  refine lv_iload_n X.1 X.2.1 dX11_has_0 rfl (lv_at hl 0 rfl) ?_
  refine lv_iload_n X.1 X.2.1 dX11_has_1 rfl (lv_at hl 1 rfl) ?_
  refine lv_ishr X.1 X.2.1 dX11_has_2 ?_
  refine lv_iconst (v := 1) X.1 X.2.1 dX11_has_3 (by decide) ?_
  refine lv_iand X.1 X.2.1 dX11_has_4 ?_
  refine lv_iconst (v := 1) X.1 X.2.1 dX11_has_5 (by decide) ?_
  refine lv_icmp_ne (tgt := 13) X.1 X.2.1 dX11_has_6 (by decide) (fun c6 => ?_) (fun c6 => ?_)
  · replace hf := k_ifN hf c6
    refine lv_iconst (v := 0) X.1 X.2.1 dX11_has_13 (by decide) ?_
    have hz := Option.some.inj hf
    subst hz
    exact k_iret (v := 0) X hU hS hr hlk rfl rfl dX11_has_14
  · replace hf := k_ifP hf c6
    refine lv_iconst (v := 1) X.1 X.2.1 dX11_has_9 (by decide) ?_
    refine lv_goto (tgt := 14) X.1 X.2.1 dX11_has_10 (by decide) ?_
    have hz := Option.some.inj hf
    subst hz
    exact k_iret (v := 1) X hU hS hr hlk rfl rfl dX11_has_14
def rm_X11_bits : Room := { frames := 0, cells := 0, slots := 0, locals := 0 }
set_option maxRecDepth 100000 in
set_option maxHeartbeats 4000000 in
theorem c_X11_bits {l : Launch} {D : va_G} {G : Nat → ClassId} {ad : Nat → Nat → Nat} {u : k_U} (hI : k_ok ad) {a0 : Int32} {sz : Nat} {r : Int32} (hf : f_X11_bits a0 = some r) : Met l yX11_bits (.code yX11_bits cX11_bits 3 (some .int) :: lw_g) rm_X11_bits (k_Pre D G ad u sz [.int a0]) (k_Qi D G ad u r sz) 0 0 (k_A ad sz) := by
  refine k_ofW (by decide +kernel) hI (Nat.le_of_ble_eq_true rfl) ?_
  intro p e s m args below meth c X hr hlk hU hS ls hl
  have hl : lv_has ls 3 [(0, .int a0)] := hl
  have L4 : ∀ (n4 : Nat) (H : Heap) (locs : List Loc) (ls : Array Slot) (a0 : Int32) (a1 : Int32) (a2 : Int32), k_Uv D G ad u H → va_S (k_A ad sz) s.heap H locs → lv_has ls 3 [(0, .int a0), (1, .int a1), (2, .int a2)] → f_X11_bits_4 n4 a0 a1 a2 = some r → W p l e rm_X11_bits s m args below meth c H locs 0 0 (MQ below (k_Qi D G ad u r sz) args s 0 0 (k_A ad sz)) (F0 m 4 ls []) := by
    intro n4
    induction n4 with
    | zero =>
      intro H locs ls a0 a1 a2 hU hS hl hf
      cases (show none = some r from hf)
    | succ n4 ih4 =>
      intro H locs ls a0 a1 a2 hU hS hl hf
      replace hf : f_X11_bits_4_b (f_X11_bits_4 n4) a0 a1 a2 = some r := hf
      unfold f_X11_bits_4_b at hf
      refine lv_iload_n X.1 X.2.1 dX11_bits_4 rfl (lv_at hl 2 rfl) ?_
      refine lv_bipush (v := 12) X.1 X.2.1 dX11_bits_5 (by decide) ?_
      refine lv_icmp_ge (tgt := 24) X.1 X.2.1 dX11_bits_7 (by decide) (fun c7 => ?_) (fun c7 => ?_)
      · replace hf := k_ifP hf c7
        refine lv_iload_n X.1 X.2.1 dX11_bits_24 rfl (lv_at hl 1 rfl) ?_
        have hz := Option.some.inj hf
        subst hz
        exact k_iret (v := a1) X hU hS hr hlk rfl rfl dX11_bits_25
      · replace hf := k_ifN hf c7
        refine lv_iload_n X.1 X.2.1 dX11_bits_10 rfl (lv_at hl 1 rfl) ?_
        refine lv_iload_n X.1 X.2.1 dX11_bits_11 rfl (lv_at hl 0 rfl) ?_
        refine lv_iload_n X.1 X.2.1 dX11_bits_12 rfl (lv_at hl 2 rfl) ?_
        refine lv_ishr X.1 X.2.1 dX11_bits_13 ?_
        refine lv_iconst (v := 1) X.1 X.2.1 dX11_bits_14 (by decide) ?_
        refine lv_iand X.1 X.2.1 dX11_bits_15 ?_
        refine lv_iadd X.1 X.2.1 dX11_bits_16 ?_
        obtain ⟨x17, e17, hf⟩ := k_ltE hf
        refine k_nmi e17 ?_
        refine lv_istore_n (lv' := [(1, .int x17), (0, .int a0), (2, .int a2)]) X.1 X.2.1 dX11_bits_17 rfl hl (by decide) rfl (fun ls hl => ?_)
        obtain ⟨x18, e18, hf⟩ := k_ltE hf
        refine lv_iinc (v := x18) (lv' := [(2, .int x18), (1, .int x17), (0, .int a0)]) X.1 X.2.1 dX11_bits_18 hl (k := 2) rfl (by rw [e18]; rfl) (by decide) rfl (fun ls hl => ?_)
        refine lv_goto (tgt := 4) X.1 X.2.1 dX11_bits_21 (by decide) ?_
        exact ih4 _ _ _ a0 x17 x18 hU hS (lv_sub hl [2, 1, 0] rfl) hf
  unfold f_X11_bits at hf
  refine lv_iconst (v := 0) X.1 X.2.1 dX11_bits_0 (by decide) ?_
  refine lv_istore_n (lv' := [(1, .int 0), (0, .int a0)]) X.1 X.2.1 dX11_bits_1 rfl hl (by decide) rfl (fun ls hl => ?_)
  refine lv_iconst (v := 0) X.1 X.2.1 dX11_bits_2 (by decide) ?_
  refine lv_istore_n (lv' := [(2, .int 0), (1, .int 0), (0, .int a0)]) X.1 X.2.1 dX11_bits_3 rfl hl (by decide) rfl (fun ls hl => ?_)
  exact L4 k_N _ _ _ a0 0 0 hU hS (lv_sub hl [2, 1, 0] rfl) hf
def rm_X11_size0 : Room := { frames := 0, cells := 0, slots := 0, locals := 0 }
set_option maxRecDepth 100000 in
set_option maxHeartbeats 4000000 in
theorem c_X11_size0 {l : Launch} {D : va_G} {G : Nat → ClassId} {ad : Nat → Nat → Nat} {u : k_U} (hI : k_ok ad) {a0 : Int32} {sz : Nat} {r : Int32} (hf : f_X11_size0 a0 = some r) : Met l yX11_size0 (.code yX11_size0 cX11_size0 1 (some .int) :: lw_g) rm_X11_size0 (k_Pre D G ad u sz [.int a0]) (k_Qi D G ad u r sz) 0 0 (k_A ad sz) := by
  refine k_ofW (by decide +kernel) hI (Nat.le_of_ble_eq_true rfl) ?_
  intro p e s m args below meth c X hr hlk hU hS ls hl
  have hl : lv_has ls 1 [(0, .int a0)] := hl
  unfold f_X11_size0 at hf
  refine lv_iload_n X.1 X.2.1 dX11_size0_0 rfl (lv_at hl 0 rfl) ?_
  refine lv_if_ge (tgt := 9) X.1 X.2.1 dX11_size0_1 (by decide) (fun c1 => ?_) (fun c1 => ?_)
  · replace hf := k_ifP hf c1
    refine lv_iload_n X.1 X.2.1 dX11_size0_9 rfl (lv_at hl 0 rfl) ?_
    have hz := Option.some.inj hf
    subst hz
    exact k_iret (v := a0) X hU hS hr hlk rfl rfl dX11_size0_10
  · replace hf := k_ifN hf c1
    refine lv_iload_n X.1 X.2.1 dX11_size0_4 rfl (lv_at hl 0 rfl) ?_
    refine lv_ineg X.1 X.2.1 dX11_size0_5 ?_
    refine lv_goto (tgt := 10) X.1 X.2.1 dX11_size0_6 (by decide) ?_
    have hz := Option.some.inj hf
    subst hz
    exact k_iret (v := (-a0)) X hU hS hr hlk rfl rfl dX11_size0_10
def rm_X11_throwsIf : Room := { frames := 0, cells := 0, slots := 0, locals := 0 }
set_option maxRecDepth 100000 in
set_option maxHeartbeats 4000000 in
theorem c_X11_throwsIf {l : Launch} {D : va_G} {G : Nat → ClassId} {ad : Nat → Nat → Nat} {u : k_U} (hI : k_ok ad) {w : k_M} (hw : u 5 = w) {a1 : Int32} {a2 : Int32} {sz : Nat} {r : (k_M × Int32)} (hf : f_X11_throwsIf w a1 a2 = some r) : Met l yX11_throwsIf (.code yX11_throwsIf cX11_throwsIf 3 (some .boolean) :: lw_g) rm_X11_throwsIf (k_Pre D G ad u sz [.ref (ad 5 0), .int a1, .int a2]) (k_Qi D G ad (k_uc u 5 r.1) r.2 sz) 0 0 (k_A ad sz) := by
  refine k_ofW (by decide +kernel) hI (Nat.le_of_ble_eq_true rfl) ?_
  intro p e s m args below meth c X hr hlk hU hS ls hl
  have hl : lv_has ls 3 [(0, .ref (ad 5 0)), (1, .int a1), (2, .int a2)] := hl
  have hU : k_Uv D G ad (k_uc u 5 w) s.heap := by rw [← hw, k_uc_id]; exact hU
  have J16 : ∀ (H : Heap) (locs : List Loc) (ls : Array Slot) (w : k_M), k_Uv D G ad (k_uc u 5 w) H → va_S (k_A ad sz) s.heap H locs → lv_has ls 3 [(0, .ref (ad 5 0))] → f_X11_throwsIf_16 w a1 a2 = some r → W p l e rm_X11_throwsIf s m args below meth c H locs 0 0 (MQ below (k_Qi D G ad (k_uc u 5 r.1) r.2 sz) args s 0 0 (k_A ad sz)) (F0 m 16 ls []) := by
    intro H locs ls w hU hS hl hf
    unfold f_X11_throwsIf_16 at hf
    refine lv_aload_n X.1 X.2.1 dX11_throwsIf_16 rfl (lv_at hl 0 rfl) ?_
    refine k_getw (v := .int (w 0 0)) X hU sh_5_0 fl_X11_50 rfl dX11_throwsIf_17 ?_
    refine lv_if_le (tgt := 27) X.1 X.2.1 dX11_throwsIf_20 (by decide) (fun c20 => ?_) (fun c20 => ?_)
    · replace hf := k_ifP hf c20
      refine lv_iconst (v := 0) X.1 X.2.1 dX11_throwsIf_27 (by decide) ?_
      have hz := Option.some.inj hf
      subst hz
      exact k_iret (v := 0) X hU hS hr hlk rfl rfl dX11_throwsIf_28
    · replace hf := k_ifN hf c20
      refine lv_iconst (v := 1) X.1 X.2.1 dX11_throwsIf_23 (by decide) ?_
      refine lv_goto (tgt := 28) X.1 X.2.1 dX11_throwsIf_24 (by decide) ?_
      have hz := Option.some.inj hf
      subst hz
      exact k_iret (v := 1) X hU hS hr hlk rfl rfl dX11_throwsIf_28
  unfold f_X11_throwsIf at hf
  refine lv_aload_n X.1 X.2.1 dX11_throwsIf_0 rfl (lv_at hl 0 rfl) ?_
  refine k_getw (v := .int (w 0 0)) X hU sh_5_0 fl_X11_50 rfl dX11_throwsIf_1 ?_
  refine lv_if_ne (tgt := 16) X.1 X.2.1 dX11_throwsIf_4 (by decide) (fun c4 => ?_) (fun c4 => ?_)
  · replace hf := k_ifN hf c4
    exact J16 _ _ _ w hU hS (lv_sub hl [0] rfl) hf
  · replace hf := k_ifP hf c4
    refine lv_iload_n X.1 X.2.1 dX11_throwsIf_7 rfl (lv_at hl 1 rfl) ?_
    refine lv_if_eq (tgt := 16) X.1 X.2.1 dX11_throwsIf_8 (by decide) (fun c8 => ?_) (fun c8 => ?_)
    · replace hf := k_ifP hf c8
      exact J16 _ _ _ w hU hS (lv_sub hl [0] rfl) hf
    · replace hf := k_ifN hf c8
      refine lv_aload_n X.1 X.2.1 dX11_throwsIf_11 rfl (lv_at hl 0 rfl) ?_
      refine lv_iload_n X.1 X.2.1 dX11_throwsIf_12 rfl (lv_at hl 2 rfl) ?_
      obtain ⟨w13, e13, hf⟩ := k_ltE hf
      refine k_putw X hU hS sh_5_0 fp_X11_50 rfl e13 rfl rfl dX11_throwsIf_13 (fun H locs hU hS => ?_)
      exact J16 _ _ _ w13 hU hS (lv_sub hl [0] rfl) hf
def rm_X11_copies : Room := { frames := 0, cells := 0, slots := 0, locals := 0 }
set_option maxRecDepth 100000 in
set_option maxHeartbeats 4000000 in
theorem c_X11_copies {l : Launch} {D : va_G} {G : Nat → ClassId} {ad : Nat → Nat → Nat} {u : k_U} (hI : k_ok ad) {w : k_M} (hw : u 5 = w) {q0 : Nat} {N0 : Nat} {a1 : Int32} {q2 : Nat} {N2 : Nat} {a3 : Int32} (hs0 : k_sh 5 q0 = some (20, N0, k_r0)) (hN0 : (nI N0).toInt = (N0 : Int)) (hs2 : k_sh 5 q2 = some (20, N2, k_r0)) (hN2 : (nI N2).toInt = (N2 : Int)) {sz : Nat} {r : k_M} (hf : f_X11_copies w q0 N0 a1 q2 N2 a3 = some r) : Met l yX11_copies (.code yX11_copies cX11_copies 5 none :: lw_g) rm_X11_copies (k_Pre D G ad u sz [.ref (ad 5 q0), .int a1, .ref (ad 5 q2), .int a3]) (k_Qv D G ad (k_uc u 5 r) sz) 0 0 (k_A ad sz) := by
  refine k_ofW (by decide +kernel) hI (Nat.le_of_ble_eq_true rfl) ?_
  intro p e s m args below meth c X hr hlk hU hS ls hl
  have hl : lv_has ls 5 [(0, .ref (ad 5 q0)), (1, .int a1), (2, .ref (ad 5 q2)), (3, .int a3)] := hl
  have hU : k_Uv D G ad (k_uc u 5 w) s.heap := by rw [← hw, k_uc_id]; exact hU
  have L3 : ∀ (n3 : Nat) (H : Heap) (locs : List Loc) (ls : Array Slot) (w : k_M) (a1 : Int32) (a3 : Int32) (a4 : Int32), k_Uv D G ad (k_uc u 5 w) H → va_S (k_A ad sz) s.heap H locs → lv_has ls 5 [(0, .ref (ad 5 q0)), (1, .int a1), (2, .ref (ad 5 q2)), (3, .int a3), (4, .int a4)] → f_X11_copies_3 n3 w q0 N0 q2 N2 a1 a3 a4 = some r → W p l e rm_X11_copies s m args below meth c H locs 0 0 (MQ below (k_Qv D G ad (k_uc u 5 r) sz) args s 0 0 (k_A ad sz)) (F0 m 3 ls []) := by
    intro n3
    induction n3 with
    | zero =>
      intro H locs ls w a1 a3 a4 hU hS hl hf
      cases (show none = some r from hf)
    | succ n3 ih3 =>
      intro H locs ls w a1 a3 a4 hU hS hl hf
      replace hf : f_X11_copies_3_b (f_X11_copies_3 n3) w q0 N0 q2 N2 a1 a3 a4 = some r := hf
      unfold f_X11_copies_3_b at hf
      refine lv_iload X.1 X.2.1 dX11_copies_3 (lv_at hl 4 rfl) ?_
      refine lv_sipush (v := 268) X.1 X.2.1 dX11_copies_5 (by decide) ?_
      refine lv_icmp_ge (tgt := 29) X.1 X.2.1 dX11_copies_8 (by decide) (fun c8 => ?_) (fun c8 => ?_)
      · replace hf := k_ifP hf c8
        have hz := Option.some.inj hf
        subst hz
        exact k_vret X hU hS hr hlk dX11_copies_29
      · replace hf := k_ifN hf c8
        refine lv_aload_n X.1 X.2.1 dX11_copies_11 rfl (lv_at hl 2 rfl) ?_
        refine lv_iload_n X.1 X.2.1 dX11_copies_12 rfl (lv_at hl 3 rfl) ?_
        refine lv_iload X.1 X.2.1 dX11_copies_13 (lv_at hl 4 rfl) ?_
        refine lv_iadd X.1 X.2.1 dX11_copies_15 ?_
        refine lv_aload_n X.1 X.2.1 dX11_copies_16 rfl (lv_at hl 0 rfl) ?_
        refine lv_iload_n X.1 X.2.1 dX11_copies_17 rfl (lv_at hl 1 rfl) ?_
        refine lv_iload X.1 X.2.1 dX11_copies_18 (lv_at hl 4 rfl) ?_
        refine lv_iadd X.1 X.2.1 dX11_copies_20 ?_
        obtain ⟨hi21, hf⟩ := k_ckE hf
        refine k_ildw (j0 := (a1 + a4).toNatClampNeg) X hU hs0 (k_vin hi21 hN0) rfl dX11_copies_21 ?_
        obtain ⟨hi22, hf⟩ := k_ckE hf
        obtain ⟨w22, e22, hf⟩ := k_ltE hf
        refine k_istw X hU hS hs2 e22 (k_vin hi22 hN2) rfl dX11_copies_22 (fun H locs hU hS => ?_)
        obtain ⟨x23, e23, hf⟩ := k_ltE hf
        refine lv_iinc (v := x23) (lv' := [(4, .int x23), (0, .ref (ad 5 q0)), (1, .int a1), (2, .ref (ad 5 q2)), (3, .int a3)]) X.1 X.2.1 dX11_copies_23 hl (k := 4) rfl (by rw [e23]; rfl) (by decide) rfl (fun ls hl => ?_)
        refine lv_goto (tgt := 3) X.1 X.2.1 dX11_copies_26 (by decide) ?_
        exact ih3 _ _ _ w22 a1 a3 x23 hU hS (lv_sub hl [1, 2, 3, 4, 0] rfl) hf
  unfold f_X11_copies at hf
  refine lv_iconst (v := 0) X.1 X.2.1 dX11_copies_0 (by decide) ?_
  refine lv_istore (lv' := [(4, .int 0), (0, .ref (ad 5 q0)), (1, .int a1), (2, .ref (ad 5 q2)), (3, .int a3)]) X.1 X.2.1 dX11_copies_1 hl (by decide) rfl (fun ls hl => ?_)
  exact L3 k_N _ _ _ w a1 a3 0 hU hS (lv_sub hl [1, 2, 3, 4, 0] rfl) hf
def rm_X11_chutes : Room := { frames := 0, cells := 0, slots := 0, locals := 0 }
set_option maxRecDepth 100000 in
set_option maxHeartbeats 4000000 in
theorem c_X11_chutes {l : Launch} {D : va_G} {G : Nat → ClassId} {ad : Nat → Nat → Nat} {u : k_U} (hI : k_ok ad) {w : k_M} (hw : u 5 = w) {sz : Nat} {r : Int32} (hf : f_X11_chutes w = some r) : Met l yX11_chutes (.code yX11_chutes cX11_chutes 1 (some .int) :: lw_g) rm_X11_chutes (k_Pre D G ad u sz [.ref (ad 5 0)]) (k_Qi D G ad u r sz) 0 0 (k_A ad sz) := by
  refine k_ofW (by decide +kernel) hI (Nat.le_of_ble_eq_true rfl) ?_
  intro p e s m args below meth c X hr hlk hU hS ls hl
  have hl : lv_has ls 1 [(0, .ref (ad 5 0))] := hl
  have hU : k_Uv D G ad (k_uc u 5 w) s.heap := by rw [← hw, k_uc_id]; exact hU
  unfold f_X11_chutes at hf
  refine lv_aload_n X.1 X.2.1 dX11_chutes_0 rfl (lv_at hl 0 rfl) ?_
  refine k_getw (v := .ref (ad 5 1)) X hU sh_5_0 fl_X11_7 rfl dX11_chutes_1 ?_
  refine lv_bipush (v := 8) X.1 X.2.1 dX11_chutes_4 (by decide) ?_
  refine k_ildw (j0 := 8) X hU sh_5_1 (k_vin (N := 268) (by decide) (by decide)) (by decide) dX11_chutes_6 ?_
  refine lv_aload_n X.1 X.2.1 dX11_chutes_7 rfl (lv_at hl 0 rfl) ?_
  refine k_getw (v := .ref (ad 5 1)) X hU sh_5_0 fl_X11_7 rfl dX11_chutes_8 ?_
  refine lv_bipush (v := 9) X.1 X.2.1 dX11_chutes_11 (by decide) ?_
  refine k_ildw (j0 := 9) X hU sh_5_1 (k_vin (N := 268) (by decide) (by decide)) (by decide) dX11_chutes_13 ?_
  refine lv_iadd X.1 X.2.1 dX11_chutes_14 ?_
  rw [← hw, k_uc_id] at hU
  have hz := Option.some.inj hf
  subst hz
  exact k_iret (v := ((w 1 8) + (w 1 9))) X hU hS hr hlk rfl rfl dX11_chutes_15
def rm_X11_placeOf : Room := { frames := 0, cells := 0, slots := 0, locals := 0 }
set_option maxRecDepth 100000 in
set_option maxHeartbeats 4000000 in
theorem c_X11_placeOf {l : Launch} {D : va_G} {G : Nat → ClassId} {ad : Nat → Nat → Nat} {u : k_U} (hI : k_ok ad) {w : k_M} (hw : u 5 = w) {a1 : Int32} {sz : Nat} {r : Int32} (hf : f_X11_placeOf w a1 = some r) : Met l yX11_placeOf (.code yX11_placeOf cX11_placeOf 2 (some .int) :: lw_g) rm_X11_placeOf (k_Pre D G ad u sz [.ref (ad 5 0), .int a1]) (k_Qi D G ad u r sz) 0 0 (k_A ad sz) := by
  refine k_ofW (by decide +kernel) hI (Nat.le_of_ble_eq_true rfl) ?_
  intro p e s m args below meth c X hr hlk hU hS ls hl
  have hl : lv_has ls 2 [(0, .ref (ad 5 0)), (1, .int a1)] := hl
  have hU : k_Uv D G ad (k_uc u 5 w) s.heap := by rw [← hw, k_uc_id]; exact hU
  unfold f_X11_placeOf at hf
  refine lv_iload_n X.1 X.2.1 dX11_placeOf_0 rfl (lv_at hl 1 rfl) ?_
  refine lv_aload_n X.1 X.2.1 dX11_placeOf_1 rfl (lv_at hl 0 rfl) ?_
  refine k_getw (v := .ref (ad 5 1)) X hU sh_5_0 fl_X11_7 rfl dX11_placeOf_2 ?_
  refine lv_bipush (v := 8) X.1 X.2.1 dX11_placeOf_5 (by decide) ?_
  refine k_ildw (j0 := 8) X hU sh_5_1 (k_vin (N := 268) (by decide) (by decide)) (by decide) dX11_placeOf_7 ?_
  refine lv_icmp_ge (tgt := 15) X.1 X.2.1 dX11_placeOf_8 (by decide) (fun c8 => ?_) (fun c8 => ?_)
  · replace hf := k_ifP hf c8
    refine lv_bipush (v := 8) X.1 X.2.1 dX11_placeOf_15 (by decide) ?_
    rw [← hw, k_uc_id] at hU
    have hz := Option.some.inj hf
    subst hz
    exact k_iret (v := 8) X hU hS hr hlk rfl rfl dX11_placeOf_17
  · replace hf := k_ifN hf c8
    refine lv_iload_n X.1 X.2.1 dX11_placeOf_11 rfl (lv_at hl 1 rfl) ?_
    refine lv_goto (tgt := 17) X.1 X.2.1 dX11_placeOf_12 (by decide) ?_
    rw [← hw, k_uc_id] at hU
    have hz := Option.some.inj hf
    subst hz
    exact k_iret (v := a1) X hU hS hr hlk rfl rfl dX11_placeOf_17
def rm_X11_numberOf : Room := { frames := 0, cells := 0, slots := 0, locals := 0 }
set_option maxRecDepth 100000 in
set_option maxHeartbeats 4000000 in
theorem c_X11_numberOf {l : Launch} {D : va_G} {G : Nat → ClassId} {ad : Nat → Nat → Nat} {u : k_U} (hI : k_ok ad) {w : k_M} (hw : u 5 = w) {a1 : Int32} {sz : Nat} {r : Int32} (hf : f_X11_numberOf w a1 = some r) : Met l yX11_numberOf (.code yX11_numberOf cX11_numberOf 2 (some .int) :: lw_g) rm_X11_numberOf (k_Pre D G ad u sz [.ref (ad 5 0), .int a1]) (k_Qi D G ad u r sz) 0 0 (k_A ad sz) := by
  refine k_ofW (by decide +kernel) hI (Nat.le_of_ble_eq_true rfl) ?_
  intro p e s m args below meth c X hr hlk hU hS ls hl
  have hl : lv_has ls 2 [(0, .ref (ad 5 0)), (1, .int a1)] := hl
  have hU : k_Uv D G ad (k_uc u 5 w) s.heap := by rw [← hw, k_uc_id]; exact hU
  unfold f_X11_numberOf at hf
  refine lv_iload_n X.1 X.2.1 dX11_numberOf_0 rfl (lv_at hl 1 rfl) ?_
  refine lv_bipush (v := 8) X.1 X.2.1 dX11_numberOf_1 (by decide) ?_
  refine lv_icmp_ne (tgt := 16) X.1 X.2.1 dX11_numberOf_3 (by decide) (fun c3 => ?_) (fun c3 => ?_)
  · replace hf := k_ifN hf c3
    refine lv_iload_n X.1 X.2.1 dX11_numberOf_16 rfl (lv_at hl 1 rfl) ?_
    rw [← hw, k_uc_id] at hU
    have hz := Option.some.inj hf
    subst hz
    exact k_iret (v := a1) X hU hS hr hlk rfl rfl dX11_numberOf_17
  · replace hf := k_ifP hf c3
    refine lv_aload_n X.1 X.2.1 dX11_numberOf_6 rfl (lv_at hl 0 rfl) ?_
    refine k_getw (v := .ref (ad 5 1)) X hU sh_5_0 fl_X11_7 rfl dX11_numberOf_7 ?_
    refine lv_bipush (v := 8) X.1 X.2.1 dX11_numberOf_10 (by decide) ?_
    refine k_ildw (j0 := 8) X hU sh_5_1 (k_vin (N := 268) (by decide) (by decide)) (by decide) dX11_numberOf_12 ?_
    refine lv_goto (tgt := 17) X.1 X.2.1 dX11_numberOf_13 (by decide) ?_
    rw [← hw, k_uc_id] at hU
    have hz := Option.some.inj hf
    subst hz
    exact k_iret (v := w 1 8) X hU hS hr hlk rfl rfl dX11_numberOf_17
def rm_X11_noChute : Room := { frames := 1, cells := 0, slots := 0, locals := 22 }
set_option maxRecDepth 100000 in
set_option maxHeartbeats 4000000 in
theorem c_X11_noChute {l : Launch} {D : va_G} {G : Nat → ClassId} {ad : Nat → Nat → Nat} {u : k_U} (hI : k_ok ad) {w : k_M} (hw : u 5 = w) {a1 : Int32} {sz : Nat} {r : (k_M × Int32)} (hf : f_X11_noChute w a1 = some r) : Met l yX11_noChute (.code yX11_noChute cX11_noChute 2 (some .boolean) :: lw_g) rm_X11_noChute (k_Pre D G ad u sz [.ref (ad 5 0), .int a1]) (k_Qi D G ad (k_uc u 5 r.1) r.2 sz) 0 0 (k_A ad sz) := by
  refine k_ofW (by decide +kernel) hI (Nat.le_of_ble_eq_true rfl) ?_
  intro p e s m args below meth c X hr hlk hU hS ls hl
  have hl : lv_has ls 2 [(0, .ref (ad 5 0)), (1, .int a1)] := hl
  have hU : k_Uv D G ad (k_uc u 5 w) s.heap := by rw [← hw, k_uc_id]; exact hU
  have J20 : ∀ (H : Heap) (locs : List Loc) (ls : Array Slot) (w : k_M) (as0 : Int32), k_Uv D G ad (k_uc u 5 w) H → va_S (k_A ad sz) s.heap H locs → lv_has ls 2 [] → f_X11_noChute_20 w a1 as0 = some r → W p l e rm_X11_noChute s m args below meth c H locs 0 0 (MQ below (k_Qi D G ad (k_uc u 5 r.1) r.2 sz) args s 0 0 (k_A ad sz)) (F0 m 20 ls [.int as0, .ref (ad 5 0)]) := by
    intro H locs ls w as0 hU hS hl hf
    unfold f_X11_noChute_20 at hf
    refine lv_iconst (v := 1) X.1 X.2.1 dX11_noChute_20 (by decide) ?_
    obtain ⟨r21, hr21, hf⟩ := k_bdE hf
    refine k_backi X hS (k_runV (As := [.int as0, .int 1]) (rest := []) X hS hU sh_5_0 (by decide) rfl vl_X11_61 (c_X11_throwsIf X.2.2.2.2.2.2.1 (k_uc_s _ _ _) hr21) rfl rfl rfl hl.1 ⟨Nat.le_of_ble_eq_true rfl, Nat.le_of_ble_eq_true rfl⟩ (Nat.le_of_ble_eq_true rfl) dX11_noChute_21 ⟨Nat.zero_le _, Nat.zero_le _⟩) (fun H locs hU hS => ?_)
    rw [k_uc_uc] at hU
    obtain ⟨hi24, hf⟩ := k_ckE hf
    have hz := Option.some.inj hf
    subst hz
    exact k_iret (v := r21.2) X hU hS hr hlk (k_nb hi24) rfl dX11_noChute_24
  unfold f_X11_noChute at hf
  refine lv_aload_n X.1 X.2.1 dX11_noChute_0 rfl (lv_at hl 0 rfl) ?_
  refine lv_iload_n X.1 X.2.1 dX11_noChute_1 rfl (lv_at hl 1 rfl) ?_
  refine lv_iconst (v := 0) X.1 X.2.1 dX11_noChute_2 (by decide) ?_
  refine lv_aload_n X.1 X.2.1 dX11_noChute_3 rfl (lv_at hl 0 rfl) ?_
  obtain ⟨r4, hr4, hf⟩ := k_bdE hf
  refine k_backi X hS (k_runV (As := []) (rest := [.int 0, .int a1, .ref (ad 5 0)]) X hS hU sh_5_0 (by decide) rfl vl_X11_53 (c_X11_chutes X.2.2.2.2.2.2.1 (k_uc_s _ _ _) hr4) rfl rfl rfl hl.1 ⟨Nat.le_of_ble_eq_true rfl, Nat.le_of_ble_eq_true rfl⟩ (Nat.le_of_ble_eq_true rfl) dX11_noChute_4 ⟨Nat.zero_le _, Nat.zero_le _⟩) (fun H locs hU hS => ?_)
  refine lv_iconst (v := 1) X.1 X.2.1 dX11_noChute_7 (by decide) ?_
  refine lv_isub X.1 X.2.1 dX11_noChute_8 ?_
  obtain ⟨r9, hr9, hf⟩ := k_bdE hf
  refine k_backi X hS (k_runS (As := [.int a1, .int 0, .int (r4 - 1)]) (rest := [.ref (ad 5 0)]) X hS hU sl_X11_57 (c_X11_within X.2.2.2.2.2.2.1 hr9) rfl rfl rfl hl.1 ⟨Nat.le_of_ble_eq_true rfl, Nat.le_of_ble_eq_true rfl⟩ (Nat.le_of_ble_eq_true rfl) dX11_noChute_9 ⟨Nat.zero_le _, Nat.zero_le _⟩) (fun H locs hU hS => ?_)
  refine lv_if_ne (tgt := 19) X.1 X.2.1 dX11_noChute_12 (by decide) (fun c12 => ?_) (fun c12 => ?_)
  · replace hf := k_ifN hf c12
    refine lv_iconst (v := 0) X.1 X.2.1 dX11_noChute_19 (by decide) ?_
    exact J20 _ _ _ w 0 hU hS (lv_sub hl [] rfl) hf
  · replace hf := k_ifP hf c12
    refine lv_iconst (v := 1) X.1 X.2.1 dX11_noChute_15 (by decide) ?_
    refine lv_goto (tgt := 20) X.1 X.2.1 dX11_noChute_16 (by decide) ?_
    exact J20 _ _ _ w 1 hU hS (lv_sub hl [] rfl) hf
def rm_X11_noLayer : Room := { frames := 1, cells := 0, slots := 0, locals := 22 }
set_option maxRecDepth 100000 in
set_option maxHeartbeats 4000000 in
theorem c_X11_noLayer {l : Launch} {D : va_G} {G : Nat → ClassId} {ad : Nat → Nat → Nat} {u : k_U} (hI : k_ok ad) {w : k_M} (hw : u 5 = w) {a1 : Int32} {sz : Nat} {r : (k_M × Int32)} (hf : f_X11_noLayer w a1 = some r) : Met l yX11_noLayer (.code yX11_noLayer cX11_noLayer 2 (some .boolean) :: lw_g) rm_X11_noLayer (k_Pre D G ad u sz [.ref (ad 5 0), .int a1]) (k_Qi D G ad (k_uc u 5 r.1) r.2 sz) 0 0 (k_A ad sz) := by
  refine k_ofW (by decide +kernel) hI (Nat.le_of_ble_eq_true rfl) ?_
  intro p e s m args below meth c X hr hlk hU hS ls hl
  have hl : lv_has ls 2 [(0, .ref (ad 5 0)), (1, .int a1)] := hl
  have hU : k_Uv D G ad (k_uc u 5 w) s.heap := by rw [← hw, k_uc_id]; exact hU
  have J23 : ∀ (H : Heap) (locs : List Loc) (ls : Array Slot) (w : k_M) (as0 : Int32), k_Uv D G ad (k_uc u 5 w) H → va_S (k_A ad sz) s.heap H locs → lv_has ls 2 [] → f_X11_noLayer_23 w a1 as0 = some r → W p l e rm_X11_noLayer s m args below meth c H locs 0 0 (MQ below (k_Qi D G ad (k_uc u 5 r.1) r.2 sz) args s 0 0 (k_A ad sz)) (F0 m 23 ls [.int as0, .ref (ad 5 0)]) := by
    intro H locs ls w as0 hU hS hl hf
    unfold f_X11_noLayer_23 at hf
    refine lv_iconst (v := 1) X.1 X.2.1 dX11_noLayer_23 (by decide) ?_
    obtain ⟨r24, hr24, hf⟩ := k_bdE hf
    refine k_backi X hS (k_runV (As := [.int as0, .int 1]) (rest := []) X hS hU sh_5_0 (by decide) rfl vl_X11_61 (c_X11_throwsIf X.2.2.2.2.2.2.1 (k_uc_s _ _ _) hr24) rfl rfl rfl hl.1 ⟨Nat.le_of_ble_eq_true rfl, Nat.le_of_ble_eq_true rfl⟩ (Nat.le_of_ble_eq_true rfl) dX11_noLayer_24 ⟨Nat.zero_le _, Nat.zero_le _⟩) (fun H locs hU hS => ?_)
    rw [k_uc_uc] at hU
    obtain ⟨hi27, hf⟩ := k_ckE hf
    have hz := Option.some.inj hf
    subst hz
    exact k_iret (v := r24.2) X hU hS hr hlk (k_nb hi27) rfl dX11_noLayer_27
  unfold f_X11_noLayer at hf
  refine lv_aload_n X.1 X.2.1 dX11_noLayer_0 rfl (lv_at hl 0 rfl) ?_
  refine lv_iload_n X.1 X.2.1 dX11_noLayer_1 rfl (lv_at hl 1 rfl) ?_
  refine lv_iconst (v := 0) X.1 X.2.1 dX11_noLayer_2 (by decide) ?_
  refine lv_aload_n X.1 X.2.1 dX11_noLayer_3 rfl (lv_at hl 0 rfl) ?_
  refine k_getw (v := .ref (ad 5 1)) X hU sh_5_0 fl_X11_7 rfl dX11_noLayer_4 ?_
  refine lv_bipush (v := 8) X.1 X.2.1 dX11_noLayer_7 (by decide) ?_
  refine k_ildw (j0 := 8) X hU sh_5_1 (k_vin (N := 268) (by decide) (by decide)) (by decide) dX11_noLayer_9 ?_
  refine lv_iconst (v := 1) X.1 X.2.1 dX11_noLayer_10 (by decide) ?_
  refine lv_isub X.1 X.2.1 dX11_noLayer_11 ?_
  obtain ⟨r12, hr12, hf⟩ := k_bdE hf
  refine k_backi X hS (k_runS (As := [.int a1, .int 0, .int ((w 1 8) - 1)]) (rest := [.ref (ad 5 0)]) X hS hU sl_X11_57 (c_X11_within X.2.2.2.2.2.2.1 hr12) rfl rfl rfl hl.1 ⟨Nat.le_of_ble_eq_true rfl, Nat.le_of_ble_eq_true rfl⟩ (Nat.le_of_ble_eq_true rfl) dX11_noLayer_12 ⟨Nat.zero_le _, Nat.zero_le _⟩) (fun H locs hU hS => ?_)
  refine lv_if_ne (tgt := 22) X.1 X.2.1 dX11_noLayer_15 (by decide) (fun c15 => ?_) (fun c15 => ?_)
  · replace hf := k_ifN hf c15
    refine lv_iconst (v := 0) X.1 X.2.1 dX11_noLayer_22 (by decide) ?_
    exact J23 _ _ _ w 0 hU hS (lv_sub hl [] rfl) hf
  · replace hf := k_ifP hf c15
    refine lv_iconst (v := 1) X.1 X.2.1 dX11_noLayer_18 (by decide) ?_
    refine lv_goto (tgt := 23) X.1 X.2.1 dX11_noLayer_19 (by decide) ?_
    exact J23 _ _ _ w 1 hU hS (lv_sub hl [] rfl) hf
def rm_X11_isThere : Room := { frames := 0, cells := 0, slots := 0, locals := 0 }
set_option maxRecDepth 100000 in
set_option maxHeartbeats 4000000 in
theorem c_X11_isThere {l : Launch} {D : va_G} {G : Nat → ClassId} {ad : Nat → Nat → Nat} {u : k_U} (hI : k_ok ad) {w : k_M} (hw : u 5 = w) {a1 : Int32} {sz : Nat} {r : Int32} (hf : f_X11_isThere w a1 = some r) : Met l yX11_isThere (.code yX11_isThere cX11_isThere 2 (some .boolean) :: lw_g) rm_X11_isThere (k_Pre D G ad u sz [.ref (ad 5 0), .int a1]) (k_Qi D G ad u r sz) 0 0 (k_A ad sz) := by
  refine k_ofW (by decide +kernel) hI (Nat.le_of_ble_eq_true rfl) ?_
  intro p e s m args below meth c X hr hlk hU hS ls hl
  have hl : lv_has ls 2 [(0, .ref (ad 5 0)), (1, .int a1)] := hl
  have hU : k_Uv D G ad (k_uc u 5 w) s.heap := by rw [← hw, k_uc_id]; exact hU
  unfold f_X11_isThere at hf
  refine lv_iload_n X.1 X.2.1 dX11_isThere_0 rfl (lv_at hl 1 rfl) ?_
  refine lv_bipush (v := 8) X.1 X.2.1 dX11_isThere_1 (by decide) ?_
  refine lv_icmp_ne (tgt := 25) X.1 X.2.1 dX11_isThere_3 (by decide) (fun c3 => ?_) (fun c3 => ?_)
  · replace hf := k_ifN hf c3
    refine lv_iload_n X.1 X.2.1 dX11_isThere_25 rfl (lv_at hl 1 rfl) ?_
    refine lv_aload_n X.1 X.2.1 dX11_isThere_26 rfl (lv_at hl 0 rfl) ?_
    refine k_getw (v := .ref (ad 5 1)) X hU sh_5_0 fl_X11_7 rfl dX11_isThere_27 ?_
    refine lv_bipush (v := 8) X.1 X.2.1 dX11_isThere_30 (by decide) ?_
    refine k_ildw (j0 := 8) X hU sh_5_1 (k_vin (N := 268) (by decide) (by decide)) (by decide) dX11_isThere_32 ?_
    refine lv_icmp_ge (tgt := 40) X.1 X.2.1 dX11_isThere_33 (by decide) (fun c33 => ?_) (fun c33 => ?_)
    · replace hf := k_ifP hf c33
      refine lv_iconst (v := 0) X.1 X.2.1 dX11_isThere_40 (by decide) ?_
      rw [← hw, k_uc_id] at hU
      have hz := Option.some.inj hf
      subst hz
      exact k_iret (v := 0) X hU hS hr hlk rfl rfl dX11_isThere_41
    · replace hf := k_ifN hf c33
      refine lv_iconst (v := 1) X.1 X.2.1 dX11_isThere_36 (by decide) ?_
      refine lv_goto (tgt := 41) X.1 X.2.1 dX11_isThere_37 (by decide) ?_
      rw [← hw, k_uc_id] at hU
      have hz := Option.some.inj hf
      subst hz
      exact k_iret (v := 1) X hU hS hr hlk rfl rfl dX11_isThere_41
  · replace hf := k_ifP hf c3
    refine lv_aload_n X.1 X.2.1 dX11_isThere_6 rfl (lv_at hl 0 rfl) ?_
    refine k_getw (v := .ref (ad 5 1)) X hU sh_5_0 fl_X11_7 rfl dX11_isThere_7 ?_
    refine lv_bipush (v := 9) X.1 X.2.1 dX11_isThere_10 (by decide) ?_
    refine k_ildw (j0 := 9) X hU sh_5_1 (k_vin (N := 268) (by decide) (by decide)) (by decide) dX11_isThere_12 ?_
    refine lv_iconst (v := 1) X.1 X.2.1 dX11_isThere_13 (by decide) ?_
    refine lv_icmp_ne (tgt := 21) X.1 X.2.1 dX11_isThere_14 (by decide) (fun c14 => ?_) (fun c14 => ?_)
    · replace hf := k_ifN hf c14
      refine lv_iconst (v := 0) X.1 X.2.1 dX11_isThere_21 (by decide) ?_
      refine lv_goto (tgt := 41) X.1 X.2.1 dX11_isThere_22 (by decide) ?_
      rw [← hw, k_uc_id] at hU
      have hz := Option.some.inj hf
      subst hz
      exact k_iret (v := 0) X hU hS hr hlk rfl rfl dX11_isThere_41
    · replace hf := k_ifP hf c14
      refine lv_iconst (v := 1) X.1 X.2.1 dX11_isThere_17 (by decide) ?_
      refine lv_goto (tgt := 41) X.1 X.2.1 dX11_isThere_18 (by decide) ?_
      rw [← hw, k_uc_id] at hU
      have hz := Option.some.inj hf
      subst hz
      exact k_iret (v := 1) X hU hS hr hlk rfl rfl dX11_isThere_41
def rm_X11_inState : Room := { frames := 1, cells := 0, slots := 0, locals := 21 }
set_option maxRecDepth 100000 in
set_option maxHeartbeats 4000000 in
theorem c_X11_inState {l : Launch} {D : va_G} {G : Nat → ClassId} {ad : Nat → Nat → Nat} {u : k_U} (hI : k_ok ad) {w : k_M} (hw : u 5 = w) {a1 : Int32} {sz : Nat} {r : Int32} (hf : f_X11_inState w a1 = some r) : Met l yX11_inState (.code yX11_inState cX11_inState 4 (some .int) :: lw_g) rm_X11_inState (k_Pre D G ad u sz [.ref (ad 5 0), .int a1]) (k_Qi D G ad u r sz) 0 0 (k_A ad sz) := by
  refine k_ofW (by decide +kernel) hI (Nat.le_of_ble_eq_true rfl) ?_
  intro p e s m args below meth c X hr hlk hU hS ls hl
  have hl : lv_has ls 4 [(0, .ref (ad 5 0)), (1, .int a1)] := hl
  have hU : k_Uv D G ad (k_uc u 5 w) s.heap := by rw [← hw, k_uc_id]; exact hU
  have L4 : ∀ (n4 : Nat) (H : Heap) (locs : List Loc) (ls : Array Slot) (a1 : Int32) (a2 : Int32) (a3 : Int32), k_Uv D G ad (k_uc u 5 w) H → va_S (k_A ad sz) s.heap H locs → lv_has ls 4 [(0, .ref (ad 5 0)), (1, .int a1), (2, .int a2), (3, .int a3)] → f_X11_inState_4 n4 w a1 a2 a3 = some r → W p l e rm_X11_inState s m args below meth c H locs 0 0 (MQ below (k_Qi D G ad u r sz) args s 0 0 (k_A ad sz)) (F0 m 4 ls []) := by
    intro n4
    induction n4 with
    | zero =>
      intro H locs ls a1 a2 a3 hU hS hl hf
      cases (show none = some r from hf)
    | succ n4 ih4 =>
      have J37 : ∀ (H : Heap) (locs : List Loc) (ls : Array Slot) (a1 : Int32) (a3 : Int32) (as0 : Int32) (as1 : Int32), k_Uv D G ad (k_uc u 5 w) H → va_S (k_A ad sz) s.heap H locs → lv_has ls 4 [(0, .ref (ad 5 0)), (1, .int a1), (3, .int a3)] → f_X11_inState_37 (f_X11_inState_4 n4) w a1 a3 as0 as1 = some r → W p l e rm_X11_inState s m args below meth c H locs 0 0 (MQ below (k_Qi D G ad u r sz) args s 0 0 (k_A ad sz)) (F0 m 37 ls [.int as0, .int as1]) := by
        intro H locs ls a1 a3 as0 as1 hU hS hl hf
        unfold f_X11_inState_37 at hf
        refine lv_iadd X.1 X.2.1 dX11_inState_37 ?_
        obtain ⟨x38, e38, hf⟩ := k_ltE hf
        refine k_nmi e38 ?_
        refine lv_istore_n (lv' := [(2, .int x38), (0, .ref (ad 5 0)), (1, .int a1), (3, .int a3)]) X.1 X.2.1 dX11_inState_38 rfl hl (by decide) rfl (fun ls hl => ?_)
        obtain ⟨x39, e39, hf⟩ := k_ltE hf
        refine lv_iinc (v := x39) (lv' := [(3, .int x39), (2, .int x38), (0, .ref (ad 5 0)), (1, .int a1)]) X.1 X.2.1 dX11_inState_39 hl (k := 3) rfl (by rw [e39]; rfl) (by decide) rfl (fun ls hl => ?_)
        refine lv_goto (tgt := 4) X.1 X.2.1 dX11_inState_42 (by decide) ?_
        exact ih4 _ _ _ a1 x38 x39 hU hS (lv_sub hl [2, 3, 1, 0] rfl) hf
      have J36 : ∀ (H : Heap) (locs : List Loc) (ls : Array Slot) (a1 : Int32) (a3 : Int32) (as0 : Int32), k_Uv D G ad (k_uc u 5 w) H → va_S (k_A ad sz) s.heap H locs → lv_has ls 4 [(0, .ref (ad 5 0)), (1, .int a1), (3, .int a3)] → f_X11_inState_36 (f_X11_inState_4 n4) w a1 a3 as0 = some r → W p l e rm_X11_inState s m args below meth c H locs 0 0 (MQ below (k_Qi D G ad u r sz) args s 0 0 (k_A ad sz)) (F0 m 36 ls [.int as0]) := by
        intro H locs ls a1 a3 as0 hU hS hl hf
        unfold f_X11_inState_36 at hf
        refine lv_iconst (v := 0) X.1 X.2.1 dX11_inState_36 (by decide) ?_
        exact J37 _ _ _ a1 a3 0 as0 hU hS (lv_sub hl [0, 1, 2] rfl) hf
      intro H locs ls a1 a2 a3 hU hS hl hf
      replace hf : f_X11_inState_4_b (f_X11_inState_4 n4) w a1 a2 a3 = some r := hf
      unfold f_X11_inState_4_b at hf
      refine lv_iload_n X.1 X.2.1 dX11_inState_4 rfl (lv_at hl 3 rfl) ?_
      refine lv_bipush (v := 9) X.1 X.2.1 dX11_inState_5 (by decide) ?_
      refine lv_icmp_ge (tgt := 45) X.1 X.2.1 dX11_inState_7 (by decide) (fun c7 => ?_) (fun c7 => ?_)
      · replace hf := k_ifP hf c7
        refine lv_iload_n X.1 X.2.1 dX11_inState_45 rfl (lv_at hl 2 rfl) ?_
        rw [← hw, k_uc_id] at hU
        have hz := Option.some.inj hf
        subst hz
        exact k_iret (v := a2) X hU hS hr hlk rfl rfl dX11_inState_46
      · replace hf := k_ifN hf c7
        refine lv_iload_n X.1 X.2.1 dX11_inState_10 rfl (lv_at hl 2 rfl) ?_
        refine lv_aload_n X.1 X.2.1 dX11_inState_11 rfl (lv_at hl 0 rfl) ?_
        refine lv_iload_n X.1 X.2.1 dX11_inState_12 rfl (lv_at hl 3 rfl) ?_
        obtain ⟨r13, hr13, hf⟩ := k_bdE hf
        refine k_backi X hS (k_runV (As := [.int a3]) (rest := [.int a2]) X hS hU sh_5_0 (by decide) rfl vl_X11_65 (c_X11_isThere X.2.2.2.2.2.2.1 (k_uc_s _ _ _) hr13) rfl rfl rfl hl.1 ⟨Nat.le_of_ble_eq_true rfl, Nat.le_of_ble_eq_true rfl⟩ (Nat.le_of_ble_eq_true rfl) dX11_inState_13 ⟨Nat.zero_le _, Nat.zero_le _⟩) (fun H locs hU hS => ?_)
        refine lv_if_eq (tgt := 36) X.1 X.2.1 dX11_inState_16 (by decide) (fun c16 => ?_) (fun c16 => ?_)
        · replace hf := k_ifP hf c16
          exact J36 _ _ _ a1 a3 a2 hU hS (lv_sub hl [0, 1, 3] rfl) hf
        · replace hf := k_ifN hf c16
          refine lv_aload_n X.1 X.2.1 dX11_inState_19 rfl (lv_at hl 0 rfl) ?_
          refine k_getw (v := .ref (ad 5 1)) X hU sh_5_0 fl_X11_7 rfl dX11_inState_20 ?_
          refine lv_bipush (v := 65) X.1 X.2.1 dX11_inState_23 (by decide) ?_
          refine lv_iload_n X.1 X.2.1 dX11_inState_25 rfl (lv_at hl 3 rfl) ?_
          refine lv_iadd X.1 X.2.1 dX11_inState_26 ?_
          obtain ⟨hi27, hf⟩ := k_ckE hf
          refine k_ildw (j0 := (65 + a3).toNatClampNeg) X hU sh_5_1 (k_vin (n := 268) hi27 (by decide)) rfl dX11_inState_27 ?_
          refine lv_iload_n X.1 X.2.1 dX11_inState_28 rfl (lv_at hl 1 rfl) ?_
          refine lv_icmp_ne (tgt := 36) X.1 X.2.1 dX11_inState_29 (by decide) (fun c29 => ?_) (fun c29 => ?_)
          · replace hf := k_ifN hf c29
            exact J36 _ _ _ a1 a3 a2 hU hS (lv_sub hl [0, 1, 3] rfl) hf
          · replace hf := k_ifP hf c29
            refine lv_iconst (v := 1) X.1 X.2.1 dX11_inState_32 (by decide) ?_
            refine lv_goto (tgt := 37) X.1 X.2.1 dX11_inState_33 (by decide) ?_
            exact J37 _ _ _ a1 a3 1 a2 hU hS (lv_sub hl [0, 1, 3] rfl) hf
  unfold f_X11_inState at hf
  refine lv_iconst (v := 0) X.1 X.2.1 dX11_inState_0 (by decide) ?_
  refine lv_istore_n (lv' := [(2, .int 0), (0, .ref (ad 5 0)), (1, .int a1)]) X.1 X.2.1 dX11_inState_1 rfl hl (by decide) rfl (fun ls hl => ?_)
  refine lv_iconst (v := 0) X.1 X.2.1 dX11_inState_2 (by decide) ?_
  refine lv_istore_n (lv' := [(3, .int 0), (2, .int 0), (0, .ref (ad 5 0)), (1, .int a1)]) X.1 X.2.1 dX11_inState_3 rfl hl (by decide) rfl (fun ls hl => ?_)
  exact L4 k_N _ _ _ a1 0 0 hU hS (lv_sub hl [2, 3, 1, 0] rfl) hf
def rm_X11_failed : Room := { frames := 0, cells := 0, slots := 0, locals := 0 }
set_option maxRecDepth 100000 in
set_option maxHeartbeats 4000000 in
theorem c_X11_failed {l : Launch} {D : va_G} {G : Nat → ClassId} {ad : Nat → Nat → Nat} {u : k_U} (hI : k_ok ad) {w : k_M} (hw : u 5 = w) {sz : Nat} {r : Int32} (hf : f_X11_failed w = some r) : Met l yX11_failed (.code yX11_failed cX11_failed 3 (some .int) :: lw_g) rm_X11_failed (k_Pre D G ad u sz [.ref (ad 5 0)]) (k_Qi D G ad u r sz) 0 0 (k_A ad sz) := by
  refine k_ofW (by decide +kernel) hI (Nat.le_of_ble_eq_true rfl) ?_
  intro p e s m args below meth c X hr hlk hU hS ls hl
  have hl : lv_has ls 3 [(0, .ref (ad 5 0))] := hl
  have hU : k_Uv D G ad (k_uc u 5 w) s.heap := by rw [← hw, k_uc_id]; exact hU
  have L4 : ∀ (n4 : Nat) (H : Heap) (locs : List Loc) (ls : Array Slot) (a1 : Int32) (a2 : Int32), k_Uv D G ad (k_uc u 5 w) H → va_S (k_A ad sz) s.heap H locs → lv_has ls 3 [(0, .ref (ad 5 0)), (1, .int a1), (2, .int a2)] → f_X11_failed_4 n4 w a1 a2 = some r → W p l e rm_X11_failed s m args below meth c H locs 0 0 (MQ below (k_Qi D G ad u r sz) args s 0 0 (k_A ad sz)) (F0 m 4 ls []) := by
    intro n4
    induction n4 with
    | zero =>
      intro H locs ls a1 a2 hU hS hl hf
      cases (show none = some r from hf)
    | succ n4 ih4 =>
      have J47 : ∀ (H : Heap) (locs : List Loc) (ls : Array Slot) (a2 : Int32) (as0 : Int32) (as1 : Int32), k_Uv D G ad (k_uc u 5 w) H → va_S (k_A ad sz) s.heap H locs → lv_has ls 3 [(0, .ref (ad 5 0)), (2, .int a2)] → f_X11_failed_47 (f_X11_failed_4 n4) w a2 as0 as1 = some r → W p l e rm_X11_failed s m args below meth c H locs 0 0 (MQ below (k_Qi D G ad u r sz) args s 0 0 (k_A ad sz)) (F0 m 47 ls [.int as0, .int as1]) := by
        intro H locs ls a2 as0 as1 hU hS hl hf
        unfold f_X11_failed_47 at hf
        refine lv_iadd X.1 X.2.1 dX11_failed_47 ?_
        obtain ⟨x48, e48, hf⟩ := k_ltE hf
        refine k_nmi e48 ?_
        refine lv_istore_n (lv' := [(1, .int x48), (0, .ref (ad 5 0)), (2, .int a2)]) X.1 X.2.1 dX11_failed_48 rfl hl (by decide) rfl (fun ls hl => ?_)
        obtain ⟨x49, e49, hf⟩ := k_ltE hf
        refine lv_iinc (v := x49) (lv' := [(2, .int x49), (1, .int x48), (0, .ref (ad 5 0))]) X.1 X.2.1 dX11_failed_49 hl (k := 2) rfl (by rw [e49]; rfl) (by decide) rfl (fun ls hl => ?_)
        refine lv_goto (tgt := 4) X.1 X.2.1 dX11_failed_52 (by decide) ?_
        exact ih4 _ _ _ x48 x49 hU hS (lv_sub hl [2, 1, 0] rfl) hf
      have J42 : ∀ (H : Heap) (locs : List Loc) (ls : Array Slot) (a2 : Int32) (as0 : Int32), k_Uv D G ad (k_uc u 5 w) H → va_S (k_A ad sz) s.heap H locs → lv_has ls 3 [(0, .ref (ad 5 0)), (2, .int a2)] → f_X11_failed_42 (f_X11_failed_4 n4) w a2 as0 = some r → W p l e rm_X11_failed s m args below meth c H locs 0 0 (MQ below (k_Qi D G ad u r sz) args s 0 0 (k_A ad sz)) (F0 m 42 ls [.int as0]) := by
        intro H locs ls a2 as0 hU hS hl hf
        unfold f_X11_failed_42 at hf
        refine lv_iconst (v := 1) X.1 X.2.1 dX11_failed_42 (by decide) ?_
        refine lv_goto (tgt := 47) X.1 X.2.1 dX11_failed_43 (by decide) ?_
        exact J47 _ _ _ a2 1 as0 hU hS (lv_sub hl [0, 1] rfl) hf
      intro H locs ls a1 a2 hU hS hl hf
      replace hf : f_X11_failed_4_b (f_X11_failed_4 n4) w a1 a2 = some r := hf
      unfold f_X11_failed_4_b at hf
      refine lv_iload_n X.1 X.2.1 dX11_failed_4 rfl (lv_at hl 2 rfl) ?_
      refine lv_aload_n X.1 X.2.1 dX11_failed_5 rfl (lv_at hl 0 rfl) ?_
      refine k_getw (v := .ref (ad 5 1)) X hU sh_5_0 fl_X11_7 rfl dX11_failed_6 ?_
      refine lv_bipush (v := 8) X.1 X.2.1 dX11_failed_9 (by decide) ?_
      refine k_ildw (j0 := 8) X hU sh_5_1 (k_vin (N := 268) (by decide) (by decide)) (by decide) dX11_failed_11 ?_
      refine lv_icmp_ge (tgt := 55) X.1 X.2.1 dX11_failed_12 (by decide) (fun c12 => ?_) (fun c12 => ?_)
      · replace hf := k_ifP hf c12
        refine lv_iload_n X.1 X.2.1 dX11_failed_55 rfl (lv_at hl 1 rfl) ?_
        rw [← hw, k_uc_id] at hU
        have hz := Option.some.inj hf
        subst hz
        exact k_iret (v := a1) X hU hS hr hlk rfl rfl dX11_failed_56
      · replace hf := k_ifN hf c12
        refine lv_iload_n X.1 X.2.1 dX11_failed_15 rfl (lv_at hl 1 rfl) ?_
        refine lv_aload_n X.1 X.2.1 dX11_failed_16 rfl (lv_at hl 0 rfl) ?_
        refine k_getw (v := .ref (ad 5 1)) X hU sh_5_0 fl_X11_7 rfl dX11_failed_17 ?_
        refine lv_bipush (v := 65) X.1 X.2.1 dX11_failed_20 (by decide) ?_
        refine lv_iload_n X.1 X.2.1 dX11_failed_22 rfl (lv_at hl 2 rfl) ?_
        refine lv_iadd X.1 X.2.1 dX11_failed_23 ?_
        obtain ⟨hi24, hf⟩ := k_ckE hf
        refine k_ildw (j0 := (65 + a2).toNatClampNeg) X hU sh_5_1 (k_vin (n := 268) hi24 (by decide)) rfl dX11_failed_24 ?_
        refine lv_iconst (v := 2) X.1 X.2.1 dX11_failed_25 (by decide) ?_
        refine lv_icmp_eq (tgt := 42) X.1 X.2.1 dX11_failed_26 (by decide) (fun c26 => ?_) (fun c26 => ?_)
        · replace hf := k_ifP hf c26
          exact J42 _ _ _ a2 a1 hU hS (lv_sub hl [0, 2] rfl) hf
        · replace hf := k_ifN hf c26
          refine lv_aload_n X.1 X.2.1 dX11_failed_29 rfl (lv_at hl 0 rfl) ?_
          refine k_getw (v := .ref (ad 5 1)) X hU sh_5_0 fl_X11_7 rfl dX11_failed_30 ?_
          refine lv_bipush (v := 65) X.1 X.2.1 dX11_failed_33 (by decide) ?_
          refine lv_iload_n X.1 X.2.1 dX11_failed_35 rfl (lv_at hl 2 rfl) ?_
          refine lv_iadd X.1 X.2.1 dX11_failed_36 ?_
          obtain ⟨hi37, hf⟩ := k_ckE hf
          refine k_ildw (j0 := (65 + a2).toNatClampNeg) X hU sh_5_1 (k_vin (n := 268) hi37 (by decide)) rfl dX11_failed_37 ?_
          refine lv_iconst (v := 3) X.1 X.2.1 dX11_failed_38 (by decide) ?_
          refine lv_icmp_ne (tgt := 46) X.1 X.2.1 dX11_failed_39 (by decide) (fun c39 => ?_) (fun c39 => ?_)
          · replace hf := k_ifN hf c39
            refine lv_iconst (v := 0) X.1 X.2.1 dX11_failed_46 (by decide) ?_
            exact J47 _ _ _ a2 0 a1 hU hS (lv_sub hl [0, 2] rfl) hf
          · replace hf := k_ifP hf c39
            exact J42 _ _ _ a2 a1 hU hS (lv_sub hl [0, 2] rfl) hf
  unfold f_X11_failed at hf
  refine lv_iconst (v := 0) X.1 X.2.1 dX11_failed_0 (by decide) ?_
  refine lv_istore_n (lv' := [(1, .int 0), (0, .ref (ad 5 0))]) X.1 X.2.1 dX11_failed_1 rfl hl (by decide) rfl (fun ls hl => ?_)
  refine lv_iconst (v := 0) X.1 X.2.1 dX11_failed_2 (by decide) ?_
  refine lv_istore_n (lv' := [(2, .int 0), (1, .int 0), (0, .ref (ad 5 0))]) X.1 X.2.1 dX11_failed_3 rfl hl (by decide) rfl (fun ls hl => ?_)
  exact L4 k_N _ _ _ 0 0 hU hS (lv_sub hl [2, 1, 0] rfl) hf
def rm_X11_mayOpen : Room := { frames := 0, cells := 0, slots := 0, locals := 0 }
set_option maxRecDepth 100000 in
set_option maxHeartbeats 4000000 in
theorem c_X11_mayOpen {l : Launch} {D : va_G} {G : Nat → ClassId} {ad : Nat → Nat → Nat} {u : k_U} (hI : k_ok ad) {w : k_M} (hw : u 5 = w) {a1 : Int32} {sz : Nat} {r : Int32} (hf : f_X11_mayOpen w a1 = some r) : Met l yX11_mayOpen (.code yX11_mayOpen cX11_mayOpen 2 (some .boolean) :: lw_g) rm_X11_mayOpen (k_Pre D G ad u sz [.ref (ad 5 0), .int a1]) (k_Qi D G ad u r sz) 0 0 (k_A ad sz) := by
  refine k_ofW (by decide +kernel) hI (Nat.le_of_ble_eq_true rfl) ?_
  intro p e s m args below meth c X hr hlk hU hS ls hl
  have hl : lv_has ls 2 [(0, .ref (ad 5 0)), (1, .int a1)] := hl
  have hU : k_Uv D G ad (k_uc u 5 w) s.heap := by rw [← hw, k_uc_id]; exact hU
  unfold f_X11_mayOpen at hf
  refine lv_aload_n X.1 X.2.1 dX11_mayOpen_0 rfl (lv_at hl 0 rfl) ?_
  refine k_getw (v := .ref (ad 5 1)) X hU sh_5_0 fl_X11_7 rfl dX11_mayOpen_1 ?_
  refine lv_bipush (v := 65) X.1 X.2.1 dX11_mayOpen_4 (by decide) ?_
  refine lv_iload_n X.1 X.2.1 dX11_mayOpen_6 rfl (lv_at hl 1 rfl) ?_
  refine lv_iadd X.1 X.2.1 dX11_mayOpen_7 ?_
  obtain ⟨hi8, hf⟩ := k_ckE hf
  refine k_ildw (j0 := (65 + a1).toNatClampNeg) X hU sh_5_1 (k_vin (n := 268) hi8 (by decide)) rfl dX11_mayOpen_8 ?_
  refine lv_if_ne (tgt := 52) X.1 X.2.1 dX11_mayOpen_9 (by decide) (fun c9 => ?_) (fun c9 => ?_)
  · replace hf := k_ifN hf c9
    refine lv_iconst (v := 0) X.1 X.2.1 dX11_mayOpen_52 (by decide) ?_
    rw [← hw, k_uc_id] at hU
    have hz := Option.some.inj hf
    subst hz
    exact k_iret (v := 0) X hU hS hr hlk rfl rfl dX11_mayOpen_53
  · replace hf := k_ifP hf c9
    refine lv_aload_n X.1 X.2.1 dX11_mayOpen_12 rfl (lv_at hl 0 rfl) ?_
    refine k_getw (v := .ref (ad 5 1)) X hU sh_5_0 fl_X11_7 rfl dX11_mayOpen_13 ?_
    refine lv_iconst (v := 0) X.1 X.2.1 dX11_mayOpen_16 (by decide) ?_
    refine k_ildw (j0 := 0) X hU sh_5_1 (k_vin (N := 268) (by decide) (by decide)) (by decide) dX11_mayOpen_17 ?_
    refine lv_aload_n X.1 X.2.1 dX11_mayOpen_18 rfl (lv_at hl 0 rfl) ?_
    refine k_getw (v := .ref (ad 5 1)) X hU sh_5_0 fl_X11_7 rfl dX11_mayOpen_19 ?_
    refine lv_bipush (v := 47) X.1 X.2.1 dX11_mayOpen_22 (by decide) ?_
    refine lv_iload_n X.1 X.2.1 dX11_mayOpen_24 rfl (lv_at hl 1 rfl) ?_
    refine lv_iadd X.1 X.2.1 dX11_mayOpen_25 ?_
    obtain ⟨hi26, hf⟩ := k_ckE hf
    refine k_ildw (j0 := (47 + a1).toNatClampNeg) X hU sh_5_1 (k_vin (n := 268) hi26 (by decide)) rfl dX11_mayOpen_26 ?_
    refine lv_icmp_gt (tgt := 52) X.1 X.2.1 dX11_mayOpen_27 (by decide) (fun c27 => ?_) (fun c27 => ?_)
    · replace hf := k_ifP hf c27
      refine lv_iconst (v := 0) X.1 X.2.1 dX11_mayOpen_52 (by decide) ?_
      rw [← hw, k_uc_id] at hU
      have hz := Option.some.inj hf
      subst hz
      exact k_iret (v := 0) X hU hS hr hlk rfl rfl dX11_mayOpen_53
    · replace hf := k_ifN hf c27
      refine lv_aload_n X.1 X.2.1 dX11_mayOpen_30 rfl (lv_at hl 0 rfl) ?_
      refine k_getw (v := .ref (ad 5 1)) X hU sh_5_0 fl_X11_7 rfl dX11_mayOpen_31 ?_
      refine lv_iconst (v := 1) X.1 X.2.1 dX11_mayOpen_34 (by decide) ?_
      refine k_ildw (j0 := 1) X hU sh_5_1 (k_vin (N := 268) (by decide) (by decide)) (by decide) dX11_mayOpen_35 ?_
      refine lv_aload_n X.1 X.2.1 dX11_mayOpen_36 rfl (lv_at hl 0 rfl) ?_
      refine k_getw (v := .ref (ad 5 1)) X hU sh_5_0 fl_X11_7 rfl dX11_mayOpen_37 ?_
      refine lv_bipush (v := 56) X.1 X.2.1 dX11_mayOpen_40 (by decide) ?_
      refine lv_iload_n X.1 X.2.1 dX11_mayOpen_42 rfl (lv_at hl 1 rfl) ?_
      refine lv_iadd X.1 X.2.1 dX11_mayOpen_43 ?_
      obtain ⟨hi44, hf⟩ := k_ckE hf
      refine k_ildw (j0 := (56 + a1).toNatClampNeg) X hU sh_5_1 (k_vin (n := 268) hi44 (by decide)) rfl dX11_mayOpen_44 ?_
      refine lv_icmp_gt (tgt := 52) X.1 X.2.1 dX11_mayOpen_45 (by decide) (fun c45 => ?_) (fun c45 => ?_)
      · replace hf := k_ifP hf c45
        refine lv_iconst (v := 0) X.1 X.2.1 dX11_mayOpen_52 (by decide) ?_
        rw [← hw, k_uc_id] at hU
        have hz := Option.some.inj hf
        subst hz
        exact k_iret (v := 0) X hU hS hr hlk rfl rfl dX11_mayOpen_53
      · replace hf := k_ifN hf c45
        refine lv_iconst (v := 1) X.1 X.2.1 dX11_mayOpen_48 (by decide) ?_
        refine lv_goto (tgt := 53) X.1 X.2.1 dX11_mayOpen_49 (by decide) ?_
        rw [← hw, k_uc_id] at hU
        have hz := Option.some.inj hf
        subst hz
        exact k_iret (v := 1) X hU hS hr hlk rfl rfl dX11_mayOpen_53
def rm_X11_firstThatMay : Room := { frames := 1, cells := 0, slots := 0, locals := 21 }
set_option maxRecDepth 100000 in
set_option maxHeartbeats 4000000 in
theorem c_X11_firstThatMay {l : Launch} {D : va_G} {G : Nat → ClassId} {ad : Nat → Nat → Nat} {u : k_U} (hI : k_ok ad) {w : k_M} (hw : u 5 = w) {sz : Nat} {r : Int32} (hf : f_X11_firstThatMay w = some r) : Met l yX11_firstThatMay (.code yX11_firstThatMay cX11_firstThatMay 2 (some .int) :: lw_g) rm_X11_firstThatMay (k_Pre D G ad u sz [.ref (ad 5 0)]) (k_Qi D G ad u r sz) 0 0 (k_A ad sz) := by
  refine k_ofW (by decide +kernel) hI (Nat.le_of_ble_eq_true rfl) ?_
  intro p e s m args below meth c X hr hlk hU hS ls hl
  have hl : lv_has ls 2 [(0, .ref (ad 5 0))] := hl
  have hU : k_Uv D G ad (k_uc u 5 w) s.heap := by rw [← hw, k_uc_id]; exact hU
  have L2 : ∀ (n2 : Nat) (H : Heap) (locs : List Loc) (ls : Array Slot) (a1 : Int32), k_Uv D G ad (k_uc u 5 w) H → va_S (k_A ad sz) s.heap H locs → lv_has ls 2 [(0, .ref (ad 5 0)), (1, .int a1)] → f_X11_firstThatMay_2 n2 w a1 = some r → W p l e rm_X11_firstThatMay s m args below meth c H locs 0 0 (MQ below (k_Qi D G ad u r sz) args s 0 0 (k_A ad sz)) (F0 m 2 ls []) := by
    intro n2
    induction n2 with
    | zero =>
      intro H locs ls a1 hU hS hl hf
      cases (show none = some r from hf)
    | succ n2 ih2 =>
      intro H locs ls a1 hU hS hl hf
      replace hf : f_X11_firstThatMay_2_b (f_X11_firstThatMay_2 n2) w a1 = some r := hf
      unfold f_X11_firstThatMay_2_b at hf
      refine lv_iload_n X.1 X.2.1 dX11_firstThatMay_2 rfl (lv_at hl 1 rfl) ?_
      refine lv_aload_n X.1 X.2.1 dX11_firstThatMay_3 rfl (lv_at hl 0 rfl) ?_
      refine k_getw (v := .ref (ad 5 1)) X hU sh_5_0 fl_X11_7 rfl dX11_firstThatMay_4 ?_
      refine lv_bipush (v := 8) X.1 X.2.1 dX11_firstThatMay_7 (by decide) ?_
      refine k_ildw (j0 := 8) X hU sh_5_1 (k_vin (N := 268) (by decide) (by decide)) (by decide) dX11_firstThatMay_9 ?_
      refine lv_icmp_ge (tgt := 29) X.1 X.2.1 dX11_firstThatMay_10 (by decide) (fun c10 => ?_) (fun c10 => ?_)
      · replace hf := k_ifP hf c10
        refine lv_iconst (v := (-1)) X.1 X.2.1 dX11_firstThatMay_29 (by decide) ?_
        rw [← hw, k_uc_id] at hU
        have hz := Option.some.inj hf
        subst hz
        exact k_iret (v := (-1)) X hU hS hr hlk rfl rfl dX11_firstThatMay_30
      · replace hf := k_ifN hf c10
        refine lv_aload_n X.1 X.2.1 dX11_firstThatMay_13 rfl (lv_at hl 0 rfl) ?_
        refine lv_iload_n X.1 X.2.1 dX11_firstThatMay_14 rfl (lv_at hl 1 rfl) ?_
        obtain ⟨r15, hr15, hf⟩ := k_bdE hf
        refine k_backi X hS (k_runV (As := [.int a1]) (rest := []) X hS hU sh_5_0 (by decide) rfl vl_X11_69 (c_X11_mayOpen X.2.2.2.2.2.2.1 (k_uc_s _ _ _) hr15) rfl rfl rfl hl.1 ⟨Nat.le_of_ble_eq_true rfl, Nat.le_of_ble_eq_true rfl⟩ (Nat.le_of_ble_eq_true rfl) dX11_firstThatMay_15 ⟨Nat.zero_le _, Nat.zero_le _⟩) (fun H locs hU hS => ?_)
        refine lv_if_eq (tgt := 23) X.1 X.2.1 dX11_firstThatMay_18 (by decide) (fun c18 => ?_) (fun c18 => ?_)
        · replace hf := k_ifP hf c18
          obtain ⟨x23, e23, hf⟩ := k_ltE hf
          refine lv_iinc (v := x23) (lv' := [(1, .int x23), (0, .ref (ad 5 0))]) X.1 X.2.1 dX11_firstThatMay_23 hl (k := 1) rfl (by rw [e23]; rfl) (by decide) rfl (fun ls hl => ?_)
          refine lv_goto (tgt := 2) X.1 X.2.1 dX11_firstThatMay_26 (by decide) ?_
          exact ih2 _ _ _ x23 hU hS (lv_sub hl [1, 0] rfl) hf
        · replace hf := k_ifN hf c18
          refine lv_iload_n X.1 X.2.1 dX11_firstThatMay_21 rfl (lv_at hl 1 rfl) ?_
          rw [← hw, k_uc_id] at hU
          have hz := Option.some.inj hf
          subst hz
          exact k_iret (v := a1) X hU hS hr hlk rfl rfl dX11_firstThatMay_22
  unfold f_X11_firstThatMay at hf
  refine lv_iconst (v := 0) X.1 X.2.1 dX11_firstThatMay_0 (by decide) ?_
  refine lv_istore_n (lv' := [(1, .int 0), (0, .ref (ad 5 0))]) X.1 X.2.1 dX11_firstThatMay_1 rfl hl (by decide) rfl (fun ls hl => ?_)
  exact L2 k_N _ _ _ 0 hU hS (lv_sub hl [1, 0] rfl) hf
def rm_X11_reserveMay : Room := { frames := 2, cells := 0, slots := 0, locals := 42 }
set_option maxRecDepth 100000 in
set_option maxHeartbeats 4000000 in
theorem c_X11_reserveMay {l : Launch} {D : va_G} {G : Nat → ClassId} {ad : Nat → Nat → Nat} {u : k_U} (hI : k_ok ad) {w : k_M} (hw : u 5 = w) {sz : Nat} {r : Int32} (hf : f_X11_reserveMay w = some r) : Met l yX11_reserveMay (.code yX11_reserveMay cX11_reserveMay 1 (some .boolean) :: lw_g) rm_X11_reserveMay (k_Pre D G ad u sz [.ref (ad 5 0)]) (k_Qi D G ad u r sz) 0 0 (k_A ad sz) := by
  refine k_ofW (by decide +kernel) hI (Nat.le_of_ble_eq_true rfl) ?_
  intro p e s m args below meth c X hr hlk hU hS ls hl
  have hl : lv_has ls 1 [(0, .ref (ad 5 0))] := hl
  have hU : k_Uv D G ad (k_uc u 5 w) s.heap := by rw [← hw, k_uc_id]; exact hU
  unfold f_X11_reserveMay at hf
  refine lv_aload_n X.1 X.2.1 dX11_reserveMay_0 rfl (lv_at hl 0 rfl) ?_
  refine k_getw (v := .ref (ad 5 1)) X hU sh_5_0 fl_X11_7 rfl dX11_reserveMay_1 ?_
  refine lv_bipush (v := 9) X.1 X.2.1 dX11_reserveMay_4 (by decide) ?_
  refine k_ildw (j0 := 9) X hU sh_5_1 (k_vin (N := 268) (by decide) (by decide)) (by decide) dX11_reserveMay_6 ?_
  refine lv_iconst (v := 1) X.1 X.2.1 dX11_reserveMay_7 (by decide) ?_
  refine lv_icmp_ne (tgt := 63) X.1 X.2.1 dX11_reserveMay_8 (by decide) (fun c8 => ?_) (fun c8 => ?_)
  · replace hf := k_ifN hf c8
    refine lv_iconst (v := 0) X.1 X.2.1 dX11_reserveMay_63 (by decide) ?_
    rw [← hw, k_uc_id] at hU
    have hz := Option.some.inj hf
    subst hz
    exact k_iret (v := 0) X hU hS hr hlk rfl rfl dX11_reserveMay_64
  · replace hf := k_ifP hf c8
    refine lv_aload_n X.1 X.2.1 dX11_reserveMay_11 rfl (lv_at hl 0 rfl) ?_
    refine k_getw (v := .ref (ad 5 1)) X hU sh_5_0 fl_X11_7 rfl dX11_reserveMay_12 ?_
    refine lv_bipush (v := 73) X.1 X.2.1 dX11_reserveMay_15 (by decide) ?_
    refine k_ildw (j0 := 73) X hU sh_5_1 (k_vin (N := 268) (by decide) (by decide)) (by decide) dX11_reserveMay_17 ?_
    refine lv_if_ne (tgt := 63) X.1 X.2.1 dX11_reserveMay_18 (by decide) (fun c18 => ?_) (fun c18 => ?_)
    · replace hf := k_ifN hf c18
      refine lv_iconst (v := 0) X.1 X.2.1 dX11_reserveMay_63 (by decide) ?_
      rw [← hw, k_uc_id] at hU
      have hz := Option.some.inj hf
      subst hz
      exact k_iret (v := 0) X hU hS hr hlk rfl rfl dX11_reserveMay_64
    · replace hf := k_ifP hf c18
      refine lv_aload_n X.1 X.2.1 dX11_reserveMay_21 rfl (lv_at hl 0 rfl) ?_
      refine k_getw (v := .ref (ad 5 1)) X hU sh_5_0 fl_X11_7 rfl dX11_reserveMay_22 ?_
      refine lv_iconst (v := 0) X.1 X.2.1 dX11_reserveMay_25 (by decide) ?_
      refine k_ildw (j0 := 0) X hU sh_5_1 (k_vin (N := 268) (by decide) (by decide)) (by decide) dX11_reserveMay_26 ?_
      refine lv_aload_n X.1 X.2.1 dX11_reserveMay_27 rfl (lv_at hl 0 rfl) ?_
      refine k_getw (v := .ref (ad 5 1)) X hU sh_5_0 fl_X11_7 rfl dX11_reserveMay_28 ?_
      refine lv_bipush (v := 55) X.1 X.2.1 dX11_reserveMay_31 (by decide) ?_
      refine k_ildw (j0 := 55) X hU sh_5_1 (k_vin (N := 268) (by decide) (by decide)) (by decide) dX11_reserveMay_33 ?_
      refine lv_icmp_gt (tgt := 63) X.1 X.2.1 dX11_reserveMay_34 (by decide) (fun c34 => ?_) (fun c34 => ?_)
      · replace hf := k_ifP hf c34
        refine lv_iconst (v := 0) X.1 X.2.1 dX11_reserveMay_63 (by decide) ?_
        rw [← hw, k_uc_id] at hU
        have hz := Option.some.inj hf
        subst hz
        exact k_iret (v := 0) X hU hS hr hlk rfl rfl dX11_reserveMay_64
      · replace hf := k_ifN hf c34
        refine lv_aload_n X.1 X.2.1 dX11_reserveMay_37 rfl (lv_at hl 0 rfl) ?_
        obtain ⟨r38, hr38, hf⟩ := k_bdE hf
        refine k_backi X hS (k_runV (As := []) (rest := []) X hS hU sh_5_0 (by decide) rfl vl_X11_72 (c_X11_failed X.2.2.2.2.2.2.1 (k_uc_s _ _ _) hr38) rfl rfl rfl hl.1 ⟨Nat.le_of_ble_eq_true rfl, Nat.le_of_ble_eq_true rfl⟩ (Nat.le_of_ble_eq_true rfl) dX11_reserveMay_38 ⟨Nat.zero_le _, Nat.zero_le _⟩) (fun H locs hU hS => ?_)
        refine lv_aload_n X.1 X.2.1 dX11_reserveMay_41 rfl (lv_at hl 0 rfl) ?_
        refine k_getw (v := .ref (ad 5 1)) X hU sh_5_0 fl_X11_7 rfl dX11_reserveMay_42 ?_
        refine lv_bipush (v := 64) X.1 X.2.1 dX11_reserveMay_45 (by decide) ?_
        refine k_ildw (j0 := 64) X hU sh_5_1 (k_vin (N := 268) (by decide) (by decide)) (by decide) dX11_reserveMay_47 ?_
        refine lv_icmp_lt (tgt := 63) X.1 X.2.1 dX11_reserveMay_48 (by decide) (fun c48 => ?_) (fun c48 => ?_)
        · replace hf := k_ifP hf c48
          refine lv_iconst (v := 0) X.1 X.2.1 dX11_reserveMay_63 (by decide) ?_
          rw [← hw, k_uc_id] at hU
          have hz := Option.some.inj hf
          subst hz
          exact k_iret (v := 0) X hU hS hr hlk rfl rfl dX11_reserveMay_64
        · replace hf := k_ifN hf c48
          refine lv_aload_n X.1 X.2.1 dX11_reserveMay_51 rfl (lv_at hl 0 rfl) ?_
          obtain ⟨r52, hr52, hf⟩ := k_bdE hf
          refine k_backi X hS (k_runV (As := []) (rest := []) X hS hU sh_5_0 (by decide) rfl vl_X11_75 (c_X11_firstThatMay X.2.2.2.2.2.2.1 (k_uc_s _ _ _) hr52) rfl rfl rfl hl.1 ⟨Nat.le_of_ble_eq_true rfl, Nat.le_of_ble_eq_true rfl⟩ (Nat.le_of_ble_eq_true rfl) dX11_reserveMay_52 ⟨Nat.zero_le _, Nat.zero_le _⟩) (fun H locs hU hS => ?_)
          refine lv_iconst (v := (-1)) X.1 X.2.1 dX11_reserveMay_55 (by decide) ?_
          refine lv_icmp_ne (tgt := 63) X.1 X.2.1 dX11_reserveMay_56 (by decide) (fun c56 => ?_) (fun c56 => ?_)
          · replace hf := k_ifN hf c56
            refine lv_iconst (v := 0) X.1 X.2.1 dX11_reserveMay_63 (by decide) ?_
            rw [← hw, k_uc_id] at hU
            have hz := Option.some.inj hf
            subst hz
            exact k_iret (v := 0) X hU hS hr hlk rfl rfl dX11_reserveMay_64
          · replace hf := k_ifP hf c56
            refine lv_iconst (v := 1) X.1 X.2.1 dX11_reserveMay_59 (by decide) ?_
            refine lv_goto (tgt := 64) X.1 X.2.1 dX11_reserveMay_60 (by decide) ?_
            rw [← hw, k_uc_id] at hU
            have hz := Option.some.inj hf
            subst hz
            exact k_iret (v := 1) X hU hS hr hlk rfl rfl dX11_reserveMay_64
def rm_X11_targetFor : Room := { frames := 0, cells := 0, slots := 0, locals := 0 }
set_option maxRecDepth 100000 in
set_option maxHeartbeats 4000000 in
theorem c_X11_targetFor {l : Launch} {D : va_G} {G : Nat → ClassId} {ad : Nat → Nat → Nat} {u : k_U} (hI : k_ok ad) {w : k_M} (hw : u 5 = w) {a1 : Int32} {sz : Nat} {r : Int32} (hf : f_X11_targetFor w a1 = some r) : Met l yX11_targetFor (.code yX11_targetFor cX11_targetFor 5 (some .int) :: lw_g) rm_X11_targetFor (k_Pre D G ad u sz [.ref (ad 5 0), .int a1]) (k_Qi D G ad u r sz) 0 0 (k_A ad sz) := by
  refine k_ofW (by decide +kernel) hI (Nat.le_of_ble_eq_true rfl) ?_
  intro p e s m args below meth c X hr hlk hU hS ls hl
  have hl : lv_has ls 5 [(0, .ref (ad 5 0)), (1, .int a1)] := hl
  have hU : k_Uv D G ad (k_uc u 5 w) s.heap := by rw [← hw, k_uc_id]; exact hU
  have L4 : ∀ (n4 : Nat) (H : Heap) (locs : List Loc) (ls : Array Slot) (a1 : Int32) (a2 : Int32) (a3 : Int32), k_Uv D G ad (k_uc u 5 w) H → va_S (k_A ad sz) s.heap H locs → lv_has ls 5 [(0, .ref (ad 5 0)), (1, .int a1), (2, .int a2), (3, .int a3)] → f_X11_targetFor_4 n4 w a1 a2 a3 = some r → W p l e rm_X11_targetFor s m args below meth c H locs 0 0 (MQ below (k_Qi D G ad u r sz) args s 0 0 (k_A ad sz)) (F0 m 4 ls []) := by
    intro n4
    induction n4 with
    | zero =>
      intro H locs ls a1 a2 a3 hU hS hl hf
      cases (show none = some r from hf)
    | succ n4 ih4 =>
      have J57 : ∀ (H : Heap) (locs : List Loc) (ls : Array Slot) (a1 : Int32) (a2 : Int32) (a3 : Int32), k_Uv D G ad (k_uc u 5 w) H → va_S (k_A ad sz) s.heap H locs → lv_has ls 5 [(0, .ref (ad 5 0)), (1, .int a1), (2, .int a2), (3, .int a3)] → f_X11_targetFor_57 (f_X11_targetFor_4 n4) w a1 a2 a3 = some r → W p l e rm_X11_targetFor s m args below meth c H locs 0 0 (MQ below (k_Qi D G ad u r sz) args s 0 0 (k_A ad sz)) (F0 m 57 ls []) := by
        intro H locs ls a1 a2 a3 hU hS hl hf
        unfold f_X11_targetFor_57 at hf
        obtain ⟨x57, e57, hf⟩ := k_ltE hf
        refine lv_iinc (v := x57) (lv' := [(3, .int x57), (0, .ref (ad 5 0)), (1, .int a1), (2, .int a2)]) X.1 X.2.1 dX11_targetFor_57 hl (k := 3) rfl (by rw [e57]; rfl) (by decide) rfl (fun ls hl => ?_)
        refine lv_goto (tgt := 4) X.1 X.2.1 dX11_targetFor_60 (by decide) ?_
        exact ih4 _ _ _ a1 a2 x57 hU hS (lv_sub hl [1, 2, 3, 0] rfl) hf
      have J55 : ∀ (H : Heap) (locs : List Loc) (ls : Array Slot) (a1 : Int32) (a3 : Int32), k_Uv D G ad (k_uc u 5 w) H → va_S (k_A ad sz) s.heap H locs → lv_has ls 5 [(0, .ref (ad 5 0)), (1, .int a1), (3, .int a3)] → f_X11_targetFor_55 (f_X11_targetFor_4 n4) w a1 a3 = some r → W p l e rm_X11_targetFor s m args below meth c H locs 0 0 (MQ below (k_Qi D G ad u r sz) args s 0 0 (k_A ad sz)) (F0 m 55 ls []) := by
        intro H locs ls a1 a3 hU hS hl hf
        unfold f_X11_targetFor_55 at hf
        refine lv_iload_n X.1 X.2.1 dX11_targetFor_55 rfl (lv_at hl 2 rfl) ?_
        refine lv_istore_n (lv' := [(2, .int a3), (0, .ref (ad 5 0)), (1, .int a1), (3, .int a3)]) X.1 X.2.1 dX11_targetFor_56 rfl hl (by decide) rfl (fun ls hl => ?_)
        exact J57 _ _ _ a1 a3 a3 hU hS (lv_sub hl [1, 2, 0, 3] rfl) hf
      intro H locs ls a1 a2 a3 hU hS hl hf
      replace hf : f_X11_targetFor_4_b (f_X11_targetFor_4 n4) w a1 a2 a3 = some r := hf
      unfold f_X11_targetFor_4_b at hf
      refine lv_iload_n X.1 X.2.1 dX11_targetFor_4 rfl (lv_at hl 3 rfl) ?_
      refine lv_aload_n X.1 X.2.1 dX11_targetFor_5 rfl (lv_at hl 0 rfl) ?_
      refine k_getw (v := .ref (ad 5 1)) X hU sh_5_0 fl_X11_7 rfl dX11_targetFor_6 ?_
      refine lv_bipush (v := 10) X.1 X.2.1 dX11_targetFor_9 (by decide) ?_
      refine k_ildw (j0 := 10) X hU sh_5_1 (k_vin (N := 268) (by decide) (by decide)) (by decide) dX11_targetFor_11 ?_
      refine lv_icmp_ge (tgt := 63) X.1 X.2.1 dX11_targetFor_12 (by decide) (fun c12 => ?_) (fun c12 => ?_)
      · replace hf := k_ifP hf c12
        refine lv_iload_n X.1 X.2.1 dX11_targetFor_63 rfl (lv_at hl 2 rfl) ?_
        refine lv_iconst (v := (-1)) X.1 X.2.1 dX11_targetFor_64 (by decide) ?_
        refine lv_icmp_ne (tgt := 72) X.1 X.2.1 dX11_targetFor_65 (by decide) (fun c65 => ?_) (fun c65 => ?_)
        · replace hf := k_ifN hf c65
          refine lv_aload_n X.1 X.2.1 dX11_targetFor_72 rfl (lv_at hl 0 rfl) ?_
          refine k_getw (v := .ref (ad 5 1)) X hU sh_5_0 fl_X11_7 rfl dX11_targetFor_73 ?_
          refine lv_bipush (v := 92) X.1 X.2.1 dX11_targetFor_76 (by decide) ?_
          refine lv_iconst (v := 2) X.1 X.2.1 dX11_targetFor_78 (by decide) ?_
          refine lv_iload_n X.1 X.2.1 dX11_targetFor_79 rfl (lv_at hl 2 rfl) ?_
          refine lv_imul X.1 X.2.1 dX11_targetFor_80 ?_
          refine lv_iadd X.1 X.2.1 dX11_targetFor_81 ?_
          refine lv_iconst (v := 1) X.1 X.2.1 dX11_targetFor_82 (by decide) ?_
          refine lv_iadd X.1 X.2.1 dX11_targetFor_83 ?_
          obtain ⟨hi84, hf⟩ := k_ckE hf
          refine k_ildw (j0 := ((92 + (2 * a2)) + 1).toNatClampNeg) X hU sh_5_1 (k_vin (n := 268) hi84 (by decide)) rfl dX11_targetFor_84 ?_
          rw [← hw, k_uc_id] at hU
          have hz := Option.some.inj hf
          subst hz
          exact k_iret (v := w 1 (((92 + (2 * a2)) + 1).toNatClampNeg)) X hU hS hr hlk rfl rfl dX11_targetFor_85
        · replace hf := k_ifP hf c65
          refine lv_iconst (v := (-1)) X.1 X.2.1 dX11_targetFor_68 (by decide) ?_
          refine lv_goto (tgt := 85) X.1 X.2.1 dX11_targetFor_69 (by decide) ?_
          rw [← hw, k_uc_id] at hU
          have hz := Option.some.inj hf
          subst hz
          exact k_iret (v := (-1)) X hU hS hr hlk rfl rfl dX11_targetFor_85
      · replace hf := k_ifN hf c12
        refine lv_aload_n X.1 X.2.1 dX11_targetFor_15 rfl (lv_at hl 0 rfl) ?_
        refine k_getw (v := .ref (ad 5 1)) X hU sh_5_0 fl_X11_7 rfl dX11_targetFor_16 ?_
        refine lv_bipush (v := 92) X.1 X.2.1 dX11_targetFor_19 (by decide) ?_
        refine lv_iconst (v := 2) X.1 X.2.1 dX11_targetFor_21 (by decide) ?_
        refine lv_iload_n X.1 X.2.1 dX11_targetFor_22 rfl (lv_at hl 3 rfl) ?_
        refine lv_imul X.1 X.2.1 dX11_targetFor_23 ?_
        refine lv_iadd X.1 X.2.1 dX11_targetFor_24 ?_
        obtain ⟨hi25, hf⟩ := k_ckE hf
        refine k_ildw (j0 := (92 + (2 * a3)).toNatClampNeg) X hU sh_5_1 (k_vin (n := 268) hi25 (by decide)) rfl dX11_targetFor_25 ?_
        obtain ⟨x26, e26, hf⟩ := k_ltE hf
        refine k_nmi e26 ?_
        refine lv_istore (lv' := [(4, .int x26), (0, .ref (ad 5 0)), (1, .int a1), (2, .int a2), (3, .int a3)]) X.1 X.2.1 dX11_targetFor_26 hl (by decide) rfl (fun ls hl => ?_)
        refine lv_iload X.1 X.2.1 dX11_targetFor_28 (lv_at hl 0 rfl) ?_
        refine lv_iload_n X.1 X.2.1 dX11_targetFor_30 rfl (lv_at hl 2 rfl) ?_
        refine lv_icmp_lt (tgt := 57) X.1 X.2.1 dX11_targetFor_31 (by decide) (fun c31 => ?_) (fun c31 => ?_)
        · replace hf := k_ifP hf c31
          exact J57 _ _ _ a1 a2 a3 hU hS (lv_sub hl [1, 2, 3, 4] rfl) hf
        · replace hf := k_ifN hf c31
          refine lv_iload_n X.1 X.2.1 dX11_targetFor_34 rfl (lv_at hl 3 rfl) ?_
          refine lv_iconst (v := (-1)) X.1 X.2.1 dX11_targetFor_35 (by decide) ?_
          refine lv_icmp_eq (tgt := 55) X.1 X.2.1 dX11_targetFor_36 (by decide) (fun c36 => ?_) (fun c36 => ?_)
          · replace hf := k_ifP hf c36
            exact J55 _ _ _ a1 a3 hU hS (lv_sub hl [1, 2, 4] rfl) hf
          · replace hf := k_ifN hf c36
            refine lv_iload X.1 X.2.1 dX11_targetFor_39 (lv_at hl 0 rfl) ?_
            refine lv_aload_n X.1 X.2.1 dX11_targetFor_41 rfl (lv_at hl 1 rfl) ?_
            refine k_getw (v := .ref (ad 5 1)) X hU sh_5_0 fl_X11_7 rfl dX11_targetFor_42 ?_
            refine lv_bipush (v := 92) X.1 X.2.1 dX11_targetFor_45 (by decide) ?_
            refine lv_iconst (v := 2) X.1 X.2.1 dX11_targetFor_47 (by decide) ?_
            refine lv_iload_n X.1 X.2.1 dX11_targetFor_48 rfl (lv_at hl 3 rfl) ?_
            refine lv_imul X.1 X.2.1 dX11_targetFor_49 ?_
            refine lv_iadd X.1 X.2.1 dX11_targetFor_50 ?_
            obtain ⟨hi51, hf⟩ := k_ckE hf
            refine k_ildw (j0 := (92 + (2 * a2)).toNatClampNeg) X hU sh_5_1 (k_vin (n := 268) hi51 (by decide)) rfl dX11_targetFor_51 ?_
            refine lv_icmp_ge (tgt := 57) X.1 X.2.1 dX11_targetFor_52 (by decide) (fun c52 => ?_) (fun c52 => ?_)
            · replace hf := k_ifP hf c52
              exact J57 _ _ _ a1 a2 a3 hU hS (lv_sub hl [1, 2, 3, 4] rfl) hf
            · replace hf := k_ifN hf c52
              exact J55 _ _ _ a1 a3 hU hS (lv_sub hl [1, 2, 4] rfl) hf
  unfold f_X11_targetFor at hf
  refine lv_iconst (v := (-1)) X.1 X.2.1 dX11_targetFor_0 (by decide) ?_
  refine lv_istore_n (lv' := [(2, .int (-1)), (0, .ref (ad 5 0)), (1, .int a1)]) X.1 X.2.1 dX11_targetFor_1 rfl hl (by decide) rfl (fun ls hl => ?_)
  refine lv_iconst (v := 0) X.1 X.2.1 dX11_targetFor_2 (by decide) ?_
  refine lv_istore_n (lv' := [(3, .int 0), (2, .int (-1)), (0, .ref (ad 5 0)), (1, .int a1)]) X.1 X.2.1 dX11_targetFor_3 rfl hl (by decide) rfl (fun ls hl => ?_)
  exact L4 k_N _ _ _ a1 (-1) 0 hU hS (lv_sub hl [2, 3, 1, 0] rfl) hf
def rm_X11_windFor : Room := { frames := 0, cells := 0, slots := 0, locals := 0 }
set_option maxRecDepth 100000 in
set_option maxHeartbeats 4000000 in
theorem c_X11_windFor {l : Launch} {D : va_G} {G : Nat → ClassId} {ad : Nat → Nat → Nat} {u : k_U} (hI : k_ok ad) {w : k_M} (hw : u 5 = w) {a1 : Int32} {sz : Nat} {r : Int32} (hf : f_X11_windFor w a1 = some r) : Met l yX11_windFor (.code yX11_windFor cX11_windFor 5 (some .int) :: lw_g) rm_X11_windFor (k_Pre D G ad u sz [.ref (ad 5 0), .int a1]) (k_Qi D G ad u r sz) 0 0 (k_A ad sz) := by
  refine k_ofW (by decide +kernel) hI (Nat.le_of_ble_eq_true rfl) ?_
  intro p e s m args below meth c X hr hlk hU hS ls hl
  have hl : lv_has ls 5 [(0, .ref (ad 5 0)), (1, .int a1)] := hl
  have hU : k_Uv D G ad (k_uc u 5 w) s.heap := by rw [← hw, k_uc_id]; exact hU
  have L4 : ∀ (n4 : Nat) (H : Heap) (locs : List Loc) (ls : Array Slot) (a1 : Int32) (a2 : Int32) (a3 : Int32), k_Uv D G ad (k_uc u 5 w) H → va_S (k_A ad sz) s.heap H locs → lv_has ls 5 [(0, .ref (ad 5 0)), (1, .int a1), (2, .int a2), (3, .int a3)] → f_X11_windFor_4 n4 w a1 a2 a3 = some r → W p l e rm_X11_windFor s m args below meth c H locs 0 0 (MQ below (k_Qi D G ad u r sz) args s 0 0 (k_A ad sz)) (F0 m 4 ls []) := by
    intro n4
    induction n4 with
    | zero =>
      intro H locs ls a1 a2 a3 hU hS hl hf
      cases (show none = some r from hf)
    | succ n4 ih4 =>
      have J57 : ∀ (H : Heap) (locs : List Loc) (ls : Array Slot) (a1 : Int32) (a2 : Int32) (a3 : Int32), k_Uv D G ad (k_uc u 5 w) H → va_S (k_A ad sz) s.heap H locs → lv_has ls 5 [(0, .ref (ad 5 0)), (1, .int a1), (2, .int a2), (3, .int a3)] → f_X11_windFor_57 (f_X11_windFor_4 n4) w a1 a2 a3 = some r → W p l e rm_X11_windFor s m args below meth c H locs 0 0 (MQ below (k_Qi D G ad u r sz) args s 0 0 (k_A ad sz)) (F0 m 57 ls []) := by
        intro H locs ls a1 a2 a3 hU hS hl hf
        unfold f_X11_windFor_57 at hf
        obtain ⟨x57, e57, hf⟩ := k_ltE hf
        refine lv_iinc (v := x57) (lv' := [(3, .int x57), (0, .ref (ad 5 0)), (1, .int a1), (2, .int a2)]) X.1 X.2.1 dX11_windFor_57 hl (k := 3) rfl (by rw [e57]; rfl) (by decide) rfl (fun ls hl => ?_)
        refine lv_goto (tgt := 4) X.1 X.2.1 dX11_windFor_60 (by decide) ?_
        exact ih4 _ _ _ a1 a2 x57 hU hS (lv_sub hl [1, 2, 3, 0] rfl) hf
      have J55 : ∀ (H : Heap) (locs : List Loc) (ls : Array Slot) (a1 : Int32) (a3 : Int32), k_Uv D G ad (k_uc u 5 w) H → va_S (k_A ad sz) s.heap H locs → lv_has ls 5 [(0, .ref (ad 5 0)), (1, .int a1), (3, .int a3)] → f_X11_windFor_55 (f_X11_windFor_4 n4) w a1 a3 = some r → W p l e rm_X11_windFor s m args below meth c H locs 0 0 (MQ below (k_Qi D G ad u r sz) args s 0 0 (k_A ad sz)) (F0 m 55 ls []) := by
        intro H locs ls a1 a3 hU hS hl hf
        unfold f_X11_windFor_55 at hf
        refine lv_iload_n X.1 X.2.1 dX11_windFor_55 rfl (lv_at hl 2 rfl) ?_
        refine lv_istore_n (lv' := [(2, .int a3), (0, .ref (ad 5 0)), (1, .int a1), (3, .int a3)]) X.1 X.2.1 dX11_windFor_56 rfl hl (by decide) rfl (fun ls hl => ?_)
        exact J57 _ _ _ a1 a3 a3 hU hS (lv_sub hl [1, 2, 0, 3] rfl) hf
      intro H locs ls a1 a2 a3 hU hS hl hf
      replace hf : f_X11_windFor_4_b (f_X11_windFor_4 n4) w a1 a2 a3 = some r := hf
      unfold f_X11_windFor_4_b at hf
      refine lv_iload_n X.1 X.2.1 dX11_windFor_4 rfl (lv_at hl 3 rfl) ?_
      refine lv_aload_n X.1 X.2.1 dX11_windFor_5 rfl (lv_at hl 0 rfl) ?_
      refine k_getw (v := .ref (ad 5 1)) X hU sh_5_0 fl_X11_7 rfl dX11_windFor_6 ?_
      refine lv_bipush (v := 11) X.1 X.2.1 dX11_windFor_9 (by decide) ?_
      refine k_ildw (j0 := 11) X hU sh_5_1 (k_vin (N := 268) (by decide) (by decide)) (by decide) dX11_windFor_11 ?_
      refine lv_icmp_ge (tgt := 63) X.1 X.2.1 dX11_windFor_12 (by decide) (fun c12 => ?_) (fun c12 => ?_)
      · replace hf := k_ifP hf c12
        refine lv_iload_n X.1 X.2.1 dX11_windFor_63 rfl (lv_at hl 2 rfl) ?_
        refine lv_iconst (v := (-1)) X.1 X.2.1 dX11_windFor_64 (by decide) ?_
        refine lv_icmp_ne (tgt := 72) X.1 X.2.1 dX11_windFor_65 (by decide) (fun c65 => ?_) (fun c65 => ?_)
        · replace hf := k_ifN hf c65
          refine lv_aload_n X.1 X.2.1 dX11_windFor_72 rfl (lv_at hl 0 rfl) ?_
          refine k_getw (v := .ref (ad 5 1)) X hU sh_5_0 fl_X11_7 rfl dX11_windFor_73 ?_
          refine lv_bipush (v := 108) X.1 X.2.1 dX11_windFor_76 (by decide) ?_
          refine lv_iconst (v := 2) X.1 X.2.1 dX11_windFor_78 (by decide) ?_
          refine lv_iload_n X.1 X.2.1 dX11_windFor_79 rfl (lv_at hl 2 rfl) ?_
          refine lv_imul X.1 X.2.1 dX11_windFor_80 ?_
          refine lv_iadd X.1 X.2.1 dX11_windFor_81 ?_
          refine lv_iconst (v := 1) X.1 X.2.1 dX11_windFor_82 (by decide) ?_
          refine lv_iadd X.1 X.2.1 dX11_windFor_83 ?_
          obtain ⟨hi84, hf⟩ := k_ckE hf
          refine k_ildw (j0 := ((108 + (2 * a2)) + 1).toNatClampNeg) X hU sh_5_1 (k_vin (n := 268) hi84 (by decide)) rfl dX11_windFor_84 ?_
          rw [← hw, k_uc_id] at hU
          have hz := Option.some.inj hf
          subst hz
          exact k_iret (v := w 1 (((108 + (2 * a2)) + 1).toNatClampNeg)) X hU hS hr hlk rfl rfl dX11_windFor_85
        · replace hf := k_ifP hf c65
          refine lv_iconst (v := 0) X.1 X.2.1 dX11_windFor_68 (by decide) ?_
          refine lv_goto (tgt := 85) X.1 X.2.1 dX11_windFor_69 (by decide) ?_
          rw [← hw, k_uc_id] at hU
          have hz := Option.some.inj hf
          subst hz
          exact k_iret (v := 0) X hU hS hr hlk rfl rfl dX11_windFor_85
      · replace hf := k_ifN hf c12
        refine lv_aload_n X.1 X.2.1 dX11_windFor_15 rfl (lv_at hl 0 rfl) ?_
        refine k_getw (v := .ref (ad 5 1)) X hU sh_5_0 fl_X11_7 rfl dX11_windFor_16 ?_
        refine lv_bipush (v := 108) X.1 X.2.1 dX11_windFor_19 (by decide) ?_
        refine lv_iconst (v := 2) X.1 X.2.1 dX11_windFor_21 (by decide) ?_
        refine lv_iload_n X.1 X.2.1 dX11_windFor_22 rfl (lv_at hl 3 rfl) ?_
        refine lv_imul X.1 X.2.1 dX11_windFor_23 ?_
        refine lv_iadd X.1 X.2.1 dX11_windFor_24 ?_
        obtain ⟨hi25, hf⟩ := k_ckE hf
        refine k_ildw (j0 := (108 + (2 * a3)).toNatClampNeg) X hU sh_5_1 (k_vin (n := 268) hi25 (by decide)) rfl dX11_windFor_25 ?_
        obtain ⟨x26, e26, hf⟩ := k_ltE hf
        refine k_nmi e26 ?_
        refine lv_istore (lv' := [(4, .int x26), (0, .ref (ad 5 0)), (1, .int a1), (2, .int a2), (3, .int a3)]) X.1 X.2.1 dX11_windFor_26 hl (by decide) rfl (fun ls hl => ?_)
        refine lv_iload X.1 X.2.1 dX11_windFor_28 (lv_at hl 0 rfl) ?_
        refine lv_iload_n X.1 X.2.1 dX11_windFor_30 rfl (lv_at hl 2 rfl) ?_
        refine lv_icmp_gt (tgt := 57) X.1 X.2.1 dX11_windFor_31 (by decide) (fun c31 => ?_) (fun c31 => ?_)
        · replace hf := k_ifP hf c31
          exact J57 _ _ _ a1 a2 a3 hU hS (lv_sub hl [1, 2, 3, 4] rfl) hf
        · replace hf := k_ifN hf c31
          refine lv_iload_n X.1 X.2.1 dX11_windFor_34 rfl (lv_at hl 3 rfl) ?_
          refine lv_iconst (v := (-1)) X.1 X.2.1 dX11_windFor_35 (by decide) ?_
          refine lv_icmp_eq (tgt := 55) X.1 X.2.1 dX11_windFor_36 (by decide) (fun c36 => ?_) (fun c36 => ?_)
          · replace hf := k_ifP hf c36
            exact J55 _ _ _ a1 a3 hU hS (lv_sub hl [1, 2, 4] rfl) hf
          · replace hf := k_ifN hf c36
            refine lv_iload X.1 X.2.1 dX11_windFor_39 (lv_at hl 0 rfl) ?_
            refine lv_aload_n X.1 X.2.1 dX11_windFor_41 rfl (lv_at hl 1 rfl) ?_
            refine k_getw (v := .ref (ad 5 1)) X hU sh_5_0 fl_X11_7 rfl dX11_windFor_42 ?_
            refine lv_bipush (v := 108) X.1 X.2.1 dX11_windFor_45 (by decide) ?_
            refine lv_iconst (v := 2) X.1 X.2.1 dX11_windFor_47 (by decide) ?_
            refine lv_iload_n X.1 X.2.1 dX11_windFor_48 rfl (lv_at hl 3 rfl) ?_
            refine lv_imul X.1 X.2.1 dX11_windFor_49 ?_
            refine lv_iadd X.1 X.2.1 dX11_windFor_50 ?_
            obtain ⟨hi51, hf⟩ := k_ckE hf
            refine k_ildw (j0 := (108 + (2 * a2)).toNatClampNeg) X hU sh_5_1 (k_vin (n := 268) hi51 (by decide)) rfl dX11_windFor_51 ?_
            refine lv_icmp_le (tgt := 57) X.1 X.2.1 dX11_windFor_52 (by decide) (fun c52 => ?_) (fun c52 => ?_)
            · replace hf := k_ifP hf c52
              exact J57 _ _ _ a1 a2 a3 hU hS (lv_sub hl [1, 2, 3, 4] rfl) hf
            · replace hf := k_ifN hf c52
              exact J55 _ _ _ a1 a3 hU hS (lv_sub hl [1, 2, 4] rfl) hf
  unfold f_X11_windFor at hf
  refine lv_iconst (v := (-1)) X.1 X.2.1 dX11_windFor_0 (by decide) ?_
  refine lv_istore_n (lv' := [(2, .int (-1)), (0, .ref (ad 5 0)), (1, .int a1)]) X.1 X.2.1 dX11_windFor_1 rfl hl (by decide) rfl (fun ls hl => ?_)
  refine lv_iconst (v := 0) X.1 X.2.1 dX11_windFor_2 (by decide) ?_
  refine lv_istore_n (lv' := [(3, .int 0), (2, .int (-1)), (0, .ref (ad 5 0)), (1, .int a1)]) X.1 X.2.1 dX11_windFor_3 rfl hl (by decide) rfl (fun ls hl => ?_)
  exact L4 k_N _ _ _ a1 (-1) 0 hU hS (lv_sub hl [2, 3, 1, 0] rfl) hf
def rm_X11_asksNow : Room := { frames := 1, cells := 0, slots := 0, locals := 24 }
set_option maxRecDepth 100000 in
set_option maxHeartbeats 4000000 in
theorem c_X11_asksNow {l : Launch} {D : va_G} {G : Nat → ClassId} {ad : Nat → Nat → Nat} {u : k_U} (hI : k_ok ad) {w : k_M} (hw : u 5 = w) {sz : Nat} {r : Int32} (hf : f_X11_asksNow w = some r) : Met l yX11_asksNow (.code yX11_asksNow cX11_asksNow 2 (some .boolean) :: lw_g) rm_X11_asksNow (k_Pre D G ad u sz [.ref (ad 5 0)]) (k_Qi D G ad u r sz) 0 0 (k_A ad sz) := by
  refine k_ofW (by decide +kernel) hI (Nat.le_of_ble_eq_true rfl) ?_
  intro p e s m args below meth c X hr hlk hU hS ls hl
  have hl : lv_has ls 2 [(0, .ref (ad 5 0))] := hl
  have hU : k_Uv D G ad (k_uc u 5 w) s.heap := by rw [← hw, k_uc_id]; exact hU
  unfold f_X11_asksNow at hf
  refine lv_aload_n X.1 X.2.1 dX11_asksNow_0 rfl (lv_at hl 0 rfl) ?_
  refine lv_aload_n X.1 X.2.1 dX11_asksNow_1 rfl (lv_at hl 0 rfl) ?_
  refine k_getw (v := .ref (ad 5 1)) X hU sh_5_0 fl_X11_7 rfl dX11_asksNow_2 ?_
  refine lv_iconst (v := 0) X.1 X.2.1 dX11_asksNow_5 (by decide) ?_
  refine k_ildw (j0 := 0) X hU sh_5_1 (k_vin (N := 268) (by decide) (by decide)) (by decide) dX11_asksNow_6 ?_
  obtain ⟨r7, hr7, hf⟩ := k_bdE hf
  refine k_backi X hS (k_runV (As := [.int (w 1 0)]) (rest := []) X hS hU sh_5_0 (by decide) rfl vl_X11_78 (c_X11_targetFor X.2.2.2.2.2.2.1 (k_uc_s _ _ _) hr7) rfl rfl rfl hl.1 ⟨Nat.le_of_ble_eq_true rfl, Nat.le_of_ble_eq_true rfl⟩ (Nat.le_of_ble_eq_true rfl) dX11_asksNow_7 ⟨Nat.zero_le _, Nat.zero_le _⟩) (fun H locs hU hS => ?_)
  refine lv_istore_n (lv' := [(1, .int r7), (0, .ref (ad 5 0))]) X.1 X.2.1 dX11_asksNow_10 rfl hl (by decide) rfl (fun ls hl => ?_)
  refine lv_iload_n X.1 X.2.1 dX11_asksNow_11 rfl (lv_at hl 0 rfl) ?_
  refine lv_iconst (v := (-1)) X.1 X.2.1 dX11_asksNow_12 (by decide) ?_
  refine lv_icmp_eq (tgt := 30) X.1 X.2.1 dX11_asksNow_13 (by decide) (fun c13 => ?_) (fun c13 => ?_)
  · replace hf := k_ifP hf c13
    refine lv_iconst (v := 0) X.1 X.2.1 dX11_asksNow_30 (by decide) ?_
    rw [← hw, k_uc_id] at hU
    have hz := Option.some.inj hf
    subst hz
    exact k_iret (v := 0) X hU hS hr hlk rfl rfl dX11_asksNow_31
  · replace hf := k_ifN hf c13
    refine lv_aload_n X.1 X.2.1 dX11_asksNow_16 rfl (lv_at hl 1 rfl) ?_
    refine k_getw (v := .ref (ad 5 1)) X hU sh_5_0 fl_X11_7 rfl dX11_asksNow_17 ?_
    refine lv_iconst (v := 1) X.1 X.2.1 dX11_asksNow_20 (by decide) ?_
    refine k_ildw (j0 := 1) X hU sh_5_1 (k_vin (N := 268) (by decide) (by decide)) (by decide) dX11_asksNow_21 ?_
    refine lv_iload_n X.1 X.2.1 dX11_asksNow_22 rfl (lv_at hl 0 rfl) ?_
    refine lv_icmp_le (tgt := 30) X.1 X.2.1 dX11_asksNow_23 (by decide) (fun c23 => ?_) (fun c23 => ?_)
    · replace hf := k_ifP hf c23
      refine lv_iconst (v := 0) X.1 X.2.1 dX11_asksNow_30 (by decide) ?_
      rw [← hw, k_uc_id] at hU
      have hz := Option.some.inj hf
      subst hz
      exact k_iret (v := 0) X hU hS hr hlk rfl rfl dX11_asksNow_31
    · replace hf := k_ifN hf c23
      refine lv_iconst (v := 1) X.1 X.2.1 dX11_asksNow_26 (by decide) ?_
      refine lv_goto (tgt := 31) X.1 X.2.1 dX11_asksNow_27 (by decide) ?_
      rw [← hw, k_uc_id] at hU
      have hz := Option.some.inj hf
      subst hz
      exact k_iret (v := 1) X hU hS hr hlk rfl rfl dX11_asksNow_31
def rm_X11_air : Room := { frames := 0, cells := 0, slots := 0, locals := 0 }
set_option maxRecDepth 100000 in
set_option maxHeartbeats 4000000 in
theorem c_X11_air {l : Launch} {D : va_G} {G : Nat → ClassId} {ad : Nat → Nat → Nat} {u : k_U} (hI : k_ok ad) {a0 : Int32} {sz : Nat} {r : Int32} (hf : f_X11_air a0 = some r) : Met l yX11_air (.code yX11_air cX11_air 1 (some .int) :: lw_g) rm_X11_air (k_Pre D G ad u sz [.int a0]) (k_Qi D G ad u r sz) 0 0 (k_A ad sz) := by
  refine k_ofW (by decide +kernel) hI (Nat.le_of_ble_eq_true rfl) ?_
  intro p e s m args below meth c X hr hlk hU hS ls hl
  have hl : lv_has ls 1 [(0, .int a0)] := hl
  unfold f_X11_air at hf
  refine lv_bipush (v := 100) X.1 X.2.1 dX11_air_0 (by decide) ?_
  refine lv_iload_n X.1 X.2.1 dX11_air_2 rfl (lv_at hl 0 rfl) ?_
  refine lv_sipush (v := 400) X.1 X.2.1 dX11_air_3 (by decide) ?_
  refine lv_idiv X.1 X.2.1 dX11_air_6 (by decide) ?_
  refine lv_isub X.1 X.2.1 dX11_air_7 ?_
  have hz := Option.some.inj hf
  subst hz
  exact k_iret (v := (100 - (a0 / 400))) X hU hS hr hlk rfl rfl dX11_air_8
def rm_X11_tells : Room := { frames := 0, cells := 0, slots := 0, locals := 0 }
set_option maxRecDepth 100000 in
set_option maxHeartbeats 4000000 in
theorem c_X11_tells {l : Launch} {D : va_G} {G : Nat → ClassId} {ad : Nat → Nat → Nat} {u : k_U} (hI : k_ok ad) {w : k_M} (hw : u 5 = w) {a1 : Int32} {a2 : Int32} {a3 : Int32} {sz : Nat} {r : k_M} (hf : f_X11_tells w a1 a2 a3 = some r) : Met l yX11_tells (.code yX11_tells cX11_tells 5 none :: lw_g) rm_X11_tells (k_Pre D G ad u sz [.ref (ad 5 0), .int a1, .int a2, .int a3]) (k_Qv D G ad (k_uc u 5 r) sz) 0 0 (k_A ad sz) := by
  refine k_ofW (by decide +kernel) hI (Nat.le_of_ble_eq_true rfl) ?_
  intro p e s m args below meth c X hr hlk hU hS ls hl
  have hl : lv_has ls 5 [(0, .ref (ad 5 0)), (1, .int a1), (2, .int a2), (3, .int a3)] := hl
  have hU : k_Uv D G ad (k_uc u 5 w) s.heap := by rw [← hw, k_uc_id]; exact hU
  have J60 : ∀ (H : Heap) (locs : List Loc) (ls : Array Slot) (w : k_M) (a1 : Int32) (a2 : Int32) (a3 : Int32), k_Uv D G ad (k_uc u 5 w) H → va_S (k_A ad sz) s.heap H locs → lv_has ls 5 [(0, .ref (ad 5 0)), (1, .int a1), (2, .int a2), (3, .int a3)] → f_X11_tells_60 w a1 a2 a3 = some r → W p l e rm_X11_tells s m args below meth c H locs 0 0 (MQ below (k_Qv D G ad (k_uc u 5 r) sz) args s 0 0 (k_A ad sz)) (F0 m 60 ls []) := by
    intro H locs ls w a1 a2 a3 hU hS hl hf
    unfold f_X11_tells_60 at hf
    refine lv_sipush (v := 148) X.1 X.2.1 dX11_tells_60 (by decide) ?_
    refine lv_iconst (v := 4) X.1 X.2.1 dX11_tells_63 (by decide) ?_
    refine lv_aload_n X.1 X.2.1 dX11_tells_64 rfl (lv_at hl 0 rfl) ?_
    refine k_getw (v := .ref (ad 5 1)) X hU sh_5_0 fl_X11_7 rfl dX11_tells_65 ?_
    refine lv_bipush (v := 16) X.1 X.2.1 dX11_tells_68 (by decide) ?_
    refine k_ildw (j0 := 16) X hU sh_5_1 (k_vin (N := 268) (by decide) (by decide)) (by decide) dX11_tells_70 ?_
    refine lv_imul X.1 X.2.1 dX11_tells_71 ?_
    refine lv_iadd X.1 X.2.1 dX11_tells_72 ?_
    obtain ⟨x73, e73, hf⟩ := k_ltE hf
    refine k_nmi e73 ?_
    refine lv_istore (lv' := [(4, .int x73), (0, .ref (ad 5 0)), (1, .int a1), (2, .int a2), (3, .int a3)]) X.1 X.2.1 dX11_tells_73 hl (by decide) rfl (fun ls hl => ?_)
    refine lv_aload_n X.1 X.2.1 dX11_tells_75 rfl (lv_at hl 1 rfl) ?_
    refine k_getw (v := .ref (ad 5 1)) X hU sh_5_0 fl_X11_7 rfl dX11_tells_76 ?_
    refine lv_iload X.1 X.2.1 dX11_tells_79 (lv_at hl 0 rfl) ?_
    refine lv_aload_n X.1 X.2.1 dX11_tells_81 rfl (lv_at hl 1 rfl) ?_
    refine k_getw (v := .ref (ad 5 1)) X hU sh_5_0 fl_X11_7 rfl dX11_tells_82 ?_
    refine lv_bipush (v := 6) X.1 X.2.1 dX11_tells_85 (by decide) ?_
    refine k_ildw (j0 := 6) X hU sh_5_1 (k_vin (N := 268) (by decide) (by decide)) (by decide) dX11_tells_87 ?_
    obtain ⟨hi88, hf⟩ := k_ckE hf
    obtain ⟨w88, e88, hf⟩ := k_ltE hf
    refine k_istw X hU hS sh_5_1 e88 (k_vin (n := 268) hi88 (by decide)) rfl dX11_tells_88 (fun H locs hU hS => ?_)
    refine lv_aload_n X.1 X.2.1 dX11_tells_89 rfl (lv_at hl 1 rfl) ?_
    refine k_getw (v := .ref (ad 5 1)) X hU sh_5_0 fl_X11_7 rfl dX11_tells_90 ?_
    refine lv_iload X.1 X.2.1 dX11_tells_93 (lv_at hl 0 rfl) ?_
    refine lv_iconst (v := 1) X.1 X.2.1 dX11_tells_95 (by decide) ?_
    refine lv_iadd X.1 X.2.1 dX11_tells_96 ?_
    refine lv_iload_n X.1 X.2.1 dX11_tells_97 rfl (lv_at hl 2 rfl) ?_
    obtain ⟨hi98, hf⟩ := k_ckE hf
    obtain ⟨w98, e98, hf⟩ := k_ltE hf
    refine k_istw X hU hS sh_5_1 e98 (k_vin (n := 268) hi98 (by decide)) rfl dX11_tells_98 (fun H locs hU hS => ?_)
    refine lv_aload_n X.1 X.2.1 dX11_tells_99 rfl (lv_at hl 1 rfl) ?_
    refine k_getw (v := .ref (ad 5 1)) X hU sh_5_0 fl_X11_7 rfl dX11_tells_100 ?_
    refine lv_iload X.1 X.2.1 dX11_tells_103 (lv_at hl 0 rfl) ?_
    refine lv_iconst (v := 2) X.1 X.2.1 dX11_tells_105 (by decide) ?_
    refine lv_iadd X.1 X.2.1 dX11_tells_106 ?_
    refine lv_iload_n X.1 X.2.1 dX11_tells_107 rfl (lv_at hl 3 rfl) ?_
    obtain ⟨hi108, hf⟩ := k_ckE hf
    obtain ⟨w108, e108, hf⟩ := k_ltE hf
    refine k_istw X hU hS sh_5_1 e108 (k_vin (n := 268) hi108 (by decide)) rfl dX11_tells_108 (fun H locs hU hS => ?_)
    refine lv_aload_n X.1 X.2.1 dX11_tells_109 rfl (lv_at hl 1 rfl) ?_
    refine k_getw (v := .ref (ad 5 1)) X hU sh_5_0 fl_X11_7 rfl dX11_tells_110 ?_
    refine lv_iload X.1 X.2.1 dX11_tells_113 (lv_at hl 0 rfl) ?_
    refine lv_iconst (v := 3) X.1 X.2.1 dX11_tells_115 (by decide) ?_
    refine lv_iadd X.1 X.2.1 dX11_tells_116 ?_
    refine lv_iload_n X.1 X.2.1 dX11_tells_117 rfl (lv_at hl 4 rfl) ?_
    obtain ⟨hi118, hf⟩ := k_ckE hf
    obtain ⟨w118, e118, hf⟩ := k_ltE hf
    refine k_istw X hU hS sh_5_1 e118 (k_vin (n := 268) hi118 (by decide)) rfl dX11_tells_118 (fun H locs hU hS => ?_)
    refine lv_aload_n X.1 X.2.1 dX11_tells_119 rfl (lv_at hl 1 rfl) ?_
    refine k_getw (v := .ref (ad 5 1)) X hU sh_5_0 fl_X11_7 rfl dX11_tells_120 ?_
    refine lv_bipush (v := 16) X.1 X.2.1 dX11_tells_123 (by decide) ?_
    refine lv_dup2_11 X.1 X.2.1 dX11_tells_125 rfl rfl ?_
    refine k_ildw (j0 := 16) X hU sh_5_1 (k_vin (N := 268) (by decide) (by decide)) (by decide) dX11_tells_126 ?_
    refine lv_iconst (v := 1) X.1 X.2.1 dX11_tells_127 (by decide) ?_
    refine lv_iadd X.1 X.2.1 dX11_tells_128 ?_
    obtain ⟨w129, e129, hf⟩ := k_ltE hf
    refine k_istw X hU hS sh_5_1 e129 (k_vin (N := 268) (by decide) (by decide)) (by decide) dX11_tells_129 (fun H locs hU hS => ?_)
    have hz := Option.some.inj hf
    subst hz
    exact k_vret X hU hS hr hlk dX11_tells_130
  have L17 : ∀ (n17 : Nat) (H : Heap) (locs : List Loc) (ls : Array Slot) (w : k_M) (a1 : Int32) (a2 : Int32) (a3 : Int32) (a4 : Int32), k_Uv D G ad (k_uc u 5 w) H → va_S (k_A ad sz) s.heap H locs → lv_has ls 5 [(0, .ref (ad 5 0)), (1, .int a1), (2, .int a2), (3, .int a3), (4, .int a4)] → f_X11_tells_17 n17 w a1 a2 a3 a4 = some r → W p l e rm_X11_tells s m args below meth c H locs 0 0 (MQ below (k_Qv D G ad (k_uc u 5 r) sz) args s 0 0 (k_A ad sz)) (F0 m 17 ls []) := by
    intro n17
    induction n17 with
    | zero =>
      intro H locs ls w a1 a2 a3 a4 hU hS hl hf
      cases (show none = some r from hf)
    | succ n17 ih17 =>
      intro H locs ls w a1 a2 a3 a4 hU hS hl hf
      replace hf : f_X11_tells_17_b (f_X11_tells_17 n17) w a1 a2 a3 a4 = some r := hf
      unfold f_X11_tells_17_b at hf
      refine lv_iload X.1 X.2.1 dX11_tells_17 (lv_at hl 4 rfl) ?_
      refine lv_iconst (v := 4) X.1 X.2.1 dX11_tells_19 (by decide) ?_
      refine lv_iadd X.1 X.2.1 dX11_tells_20 ?_
      refine lv_sipush (v := 268) X.1 X.2.1 dX11_tells_21 (by decide) ?_
      refine lv_icmp_ge (tgt := 49) X.1 X.2.1 dX11_tells_24 (by decide) (fun c24 => ?_) (fun c24 => ?_)
      · replace hf := k_ifP hf c24
        refine lv_aload_n X.1 X.2.1 dX11_tells_49 rfl (lv_at hl 0 rfl) ?_
        refine k_getw (v := .ref (ad 5 1)) X hU sh_5_0 fl_X11_7 rfl dX11_tells_50 ?_
        refine lv_bipush (v := 16) X.1 X.2.1 dX11_tells_53 (by decide) ?_
        refine lv_dup2_11 X.1 X.2.1 dX11_tells_55 rfl rfl ?_
        refine k_ildw (j0 := 16) X hU sh_5_1 (k_vin (N := 268) (by decide) (by decide)) (by decide) dX11_tells_56 ?_
        refine lv_iconst (v := 1) X.1 X.2.1 dX11_tells_57 (by decide) ?_
        refine lv_isub X.1 X.2.1 dX11_tells_58 ?_
        obtain ⟨w59, e59, hf⟩ := k_ltE hf
        refine k_istw X hU hS sh_5_1 e59 (k_vin (N := 268) (by decide) (by decide)) (by decide) dX11_tells_59 (fun H locs hU hS => ?_)
        exact J60 _ _ _ w59 a1 a2 a3 hU hS (lv_sub hl [0, 1, 2, 3] rfl) hf
      · replace hf := k_ifN hf c24
        refine lv_aload_n X.1 X.2.1 dX11_tells_27 rfl (lv_at hl 0 rfl) ?_
        refine k_getw (v := .ref (ad 5 1)) X hU sh_5_0 fl_X11_7 rfl dX11_tells_28 ?_
        refine lv_iload X.1 X.2.1 dX11_tells_31 (lv_at hl 4 rfl) ?_
        refine lv_aload_n X.1 X.2.1 dX11_tells_33 rfl (lv_at hl 0 rfl) ?_
        refine k_getw (v := .ref (ad 5 1)) X hU sh_5_0 fl_X11_7 rfl dX11_tells_34 ?_
        refine lv_iload X.1 X.2.1 dX11_tells_37 (lv_at hl 4 rfl) ?_
        refine lv_iconst (v := 4) X.1 X.2.1 dX11_tells_39 (by decide) ?_
        refine lv_iadd X.1 X.2.1 dX11_tells_40 ?_
        obtain ⟨hi41, hf⟩ := k_ckE hf
        refine k_ildw (j0 := (a4 + 4).toNatClampNeg) X hU sh_5_1 (k_vin (n := 268) hi41 (by decide)) rfl dX11_tells_41 ?_
        obtain ⟨hi42, hf⟩ := k_ckE hf
        obtain ⟨w42, e42, hf⟩ := k_ltE hf
        refine k_istw X hU hS sh_5_1 e42 (k_vin (n := 268) hi42 (by decide)) rfl dX11_tells_42 (fun H locs hU hS => ?_)
        obtain ⟨x43, e43, hf⟩ := k_ltE hf
        refine lv_iinc (v := x43) (lv' := [(4, .int x43), (0, .ref (ad 5 0)), (1, .int a1), (2, .int a2), (3, .int a3)]) X.1 X.2.1 dX11_tells_43 hl (k := 4) rfl (by rw [e43]; rfl) (by decide) rfl (fun ls hl => ?_)
        refine lv_goto (tgt := 17) X.1 X.2.1 dX11_tells_46 (by decide) ?_
        exact ih17 _ _ _ w42 a1 a2 a3 x43 hU hS (lv_sub hl [1, 2, 3, 4, 0] rfl) hf
  unfold f_X11_tells at hf
  refine lv_aload_n X.1 X.2.1 dX11_tells_0 rfl (lv_at hl 0 rfl) ?_
  refine k_getw (v := .ref (ad 5 1)) X hU sh_5_0 fl_X11_7 rfl dX11_tells_1 ?_
  refine lv_bipush (v := 16) X.1 X.2.1 dX11_tells_4 (by decide) ?_
  refine k_ildw (j0 := 16) X hU sh_5_1 (k_vin (N := 268) (by decide) (by decide)) (by decide) dX11_tells_6 ?_
  refine lv_bipush (v := 30) X.1 X.2.1 dX11_tells_7 (by decide) ?_
  refine lv_icmp_ne (tgt := 60) X.1 X.2.1 dX11_tells_9 (by decide) (fun c9 => ?_) (fun c9 => ?_)
  · replace hf := k_ifN hf c9
    exact J60 _ _ _ w a1 a2 a3 hU hS (lv_sub hl [0, 1, 2, 3] rfl) hf
  · replace hf := k_ifP hf c9
    refine lv_sipush (v := 148) X.1 X.2.1 dX11_tells_12 (by decide) ?_
    refine lv_istore (lv' := [(4, .int 148), (0, .ref (ad 5 0)), (1, .int a1), (2, .int a2), (3, .int a3)]) X.1 X.2.1 dX11_tells_15 hl (by decide) rfl (fun ls hl => ?_)
    exact L17 k_N _ _ _ w a1 a2 a3 148 hU hS (lv_sub hl [1, 2, 3, 4, 0] rfl) hf
def rm_X11_opens : Room := { frames := 1, cells := 0, slots := 0, locals := 24 }
set_option maxRecDepth 100000 in
set_option maxHeartbeats 4000000 in
theorem c_X11_opens {l : Launch} {D : va_G} {G : Nat → ClassId} {ad : Nat → Nat → Nat} {u : k_U} (hI : k_ok ad) {w : k_M} (hw : u 5 = w) {a1 : Int32} {sz : Nat} {r : k_M} (hf : f_X11_opens w a1 = some r) : Met l yX11_opens (.code yX11_opens cX11_opens 2 none :: lw_g) rm_X11_opens (k_Pre D G ad u sz [.ref (ad 5 0), .int a1]) (k_Qv D G ad (k_uc u 5 r) sz) 0 0 (k_A ad sz) := by
  refine k_ofW (by decide +kernel) hI (Nat.le_of_ble_eq_true rfl) ?_
  intro p e s m args below meth c X hr hlk hU hS ls hl
  have hl : lv_has ls 2 [(0, .ref (ad 5 0)), (1, .int a1)] := hl
  have hU : k_Uv D G ad (k_uc u 5 w) s.heap := by rw [← hw, k_uc_id]; exact hU
  have J46 : ∀ (H : Heap) (locs : List Loc) (ls : Array Slot) (w : k_M) (a1 : Int32) (as0 : Int32), k_Uv D G ad (k_uc u 5 w) H → va_S (k_A ad sz) s.heap H locs → lv_has ls 2 [(0, .ref (ad 5 0)), (1, .int a1)] → f_X11_opens_46 w a1 as0 = some r → W p l e rm_X11_opens s m args below meth c H locs 0 0 (MQ below (k_Qv D G ad (k_uc u 5 r) sz) args s 0 0 (k_A ad sz)) (F0 m 46 ls [.int as0, .ref (ad 5 0)]) := by
    intro H locs ls w a1 as0 hU hS hl hf
    unfold f_X11_opens_46 at hf
    refine lv_iload_n X.1 X.2.1 dX11_opens_46 rfl (lv_at hl 1 rfl) ?_
    refine lv_aload_n X.1 X.2.1 dX11_opens_47 rfl (lv_at hl 0 rfl) ?_
    refine k_getw (v := .ref (ad 5 1)) X hU sh_5_0 fl_X11_7 rfl dX11_opens_48 ?_
    refine lv_iconst (v := 1) X.1 X.2.1 dX11_opens_51 (by decide) ?_
    refine k_ildw (j0 := 1) X hU sh_5_1 (k_vin (N := 268) (by decide) (by decide)) (by decide) dX11_opens_52 ?_
    obtain ⟨r53, hr53, hf⟩ := k_bdE hf
    refine k_backv X hS (k_runV (As := [.int as0, .int a1, .int (w 1 1)]) (rest := []) X hS hU sh_5_0 (by decide) rfl vl_X11_82 (c_X11_tells X.2.2.2.2.2.2.1 (k_uc_s _ _ _) hr53) rfl rfl rfl hl.1 ⟨Nat.le_of_ble_eq_true rfl, Nat.le_of_ble_eq_true rfl⟩ (Nat.le_of_ble_eq_true rfl) dX11_opens_53 ⟨Nat.zero_le _, Nat.zero_le _⟩) (fun H locs hU hS => ?_)
    rw [k_uc_uc] at hU
    have hz := Option.some.inj hf
    subst hz
    exact k_vret X hU hS hr hlk dX11_opens_56
  have J26 : ∀ (H : Heap) (locs : List Loc) (ls : Array Slot) (w : k_M) (a1 : Int32) (as0 : Int32) (as1 : Int32), k_Uv D G ad (k_uc u 5 w) H → va_S (k_A ad sz) s.heap H locs → lv_has ls 2 [(0, .ref (ad 5 0)), (1, .int a1)] → f_X11_opens_26 w a1 as0 as1 = some r → W p l e rm_X11_opens s m args below meth c H locs 0 0 (MQ below (k_Qv D G ad (k_uc u 5 r) sz) args s 0 0 (k_A ad sz)) (F0 m 26 ls [.int as0, .int as1, .ref (ad 5 1)]) := by
    intro H locs ls w a1 as0 as1 hU hS hl hf
    unfold f_X11_opens_26 at hf
    obtain ⟨hi26, hf⟩ := k_ckE hf
    obtain ⟨w26, e26, hf⟩ := k_ltE hf
    refine k_istw X hU hS sh_5_1 e26 (k_vin (n := 268) hi26 (by decide)) rfl dX11_opens_26 (fun H locs hU hS => ?_)
    refine lv_aload_n X.1 X.2.1 dX11_opens_27 rfl (lv_at hl 0 rfl) ?_
    refine lv_aload_n X.1 X.2.1 dX11_opens_28 rfl (lv_at hl 0 rfl) ?_
    refine k_getw (v := .ref (ad 5 1)) X hU sh_5_0 fl_X11_7 rfl dX11_opens_29 ?_
    refine lv_bipush (v := 83) X.1 X.2.1 dX11_opens_32 (by decide) ?_
    refine lv_iload_n X.1 X.2.1 dX11_opens_34 rfl (lv_at hl 1 rfl) ?_
    refine lv_iadd X.1 X.2.1 dX11_opens_35 ?_
    obtain ⟨hi36, hf⟩ := k_ckE hf
    refine k_ildw (j0 := (83 + a1).toNatClampNeg) X hU sh_5_1 (k_vin (n := 268) hi36 (by decide)) rfl dX11_opens_36 ?_
    refine lv_iconst (v := 1) X.1 X.2.1 dX11_opens_37 (by decide) ?_
    refine lv_icmp_ne (tgt := 45) X.1 X.2.1 dX11_opens_38 (by decide) (fun c38 => ?_) (fun c38 => ?_)
    · replace hf := k_ifN hf c38
      refine lv_iconst (v := 0) X.1 X.2.1 dX11_opens_45 (by decide) ?_
      exact J46 _ _ _ w26 a1 0 hU hS (lv_sub hl [0, 1] rfl) hf
    · replace hf := k_ifP hf c38
      refine lv_iconst (v := 3) X.1 X.2.1 dX11_opens_41 (by decide) ?_
      refine lv_goto (tgt := 46) X.1 X.2.1 dX11_opens_42 (by decide) ?_
      exact J46 _ _ _ w26 a1 3 hU hS (lv_sub hl [0, 1] rfl) hf
  unfold f_X11_opens at hf
  refine lv_aload_n X.1 X.2.1 dX11_opens_0 rfl (lv_at hl 0 rfl) ?_
  refine k_getw (v := .ref (ad 5 1)) X hU sh_5_0 fl_X11_7 rfl dX11_opens_1 ?_
  refine lv_bipush (v := 65) X.1 X.2.1 dX11_opens_4 (by decide) ?_
  refine lv_iload_n X.1 X.2.1 dX11_opens_6 rfl (lv_at hl 1 rfl) ?_
  refine lv_iadd X.1 X.2.1 dX11_opens_7 ?_
  refine lv_aload_n X.1 X.2.1 dX11_opens_8 rfl (lv_at hl 0 rfl) ?_
  refine k_getw (v := .ref (ad 5 1)) X hU sh_5_0 fl_X11_7 rfl dX11_opens_9 ?_
  refine lv_bipush (v := 83) X.1 X.2.1 dX11_opens_12 (by decide) ?_
  refine lv_iload_n X.1 X.2.1 dX11_opens_14 rfl (lv_at hl 1 rfl) ?_
  refine lv_iadd X.1 X.2.1 dX11_opens_15 ?_
  obtain ⟨hi16, hf⟩ := k_ckE hf
  refine k_ildw (j0 := (83 + a1).toNatClampNeg) X hU sh_5_1 (k_vin (n := 268) hi16 (by decide)) rfl dX11_opens_16 ?_
  refine lv_iconst (v := 1) X.1 X.2.1 dX11_opens_17 (by decide) ?_
  refine lv_icmp_ne (tgt := 25) X.1 X.2.1 dX11_opens_18 (by decide) (fun c18 => ?_) (fun c18 => ?_)
  · replace hf := k_ifN hf c18
    refine lv_iconst (v := 1) X.1 X.2.1 dX11_opens_25 (by decide) ?_
    exact J26 _ _ _ w a1 1 (65 + a1) hU hS (lv_sub hl [0, 1] rfl) hf
  · replace hf := k_ifP hf c18
    refine lv_iconst (v := 3) X.1 X.2.1 dX11_opens_21 (by decide) ?_
    refine lv_goto (tgt := 26) X.1 X.2.1 dX11_opens_22 (by decide) ?_
    exact J26 _ _ _ w a1 3 (65 + a1) hU hS (lv_sub hl [0, 1] rfl) hf
def rm_X11_opensReserve : Room := { frames := 1, cells := 0, slots := 0, locals := 24 }
set_option maxRecDepth 100000 in
set_option maxHeartbeats 4000000 in
theorem c_X11_opensReserve {l : Launch} {D : va_G} {G : Nat → ClassId} {ad : Nat → Nat → Nat} {u : k_U} (hI : k_ok ad) {w : k_M} (hw : u 5 = w) {sz : Nat} {r : k_M} (hf : f_X11_opensReserve w = some r) : Met l yX11_opensReserve (.code yX11_opensReserve cX11_opensReserve 1 none :: lw_g) rm_X11_opensReserve (k_Pre D G ad u sz [.ref (ad 5 0)]) (k_Qv D G ad (k_uc u 5 r) sz) 0 0 (k_A ad sz) := by
  refine k_ofW (by decide +kernel) hI (Nat.le_of_ble_eq_true rfl) ?_
  intro p e s m args below meth c X hr hlk hU hS ls hl
  have hl : lv_has ls 1 [(0, .ref (ad 5 0))] := hl
  have hU : k_Uv D G ad (k_uc u 5 w) s.heap := by rw [← hw, k_uc_id]; exact hU
  unfold f_X11_opensReserve at hf
  refine lv_aload_n X.1 X.2.1 dX11_opensReserve_0 rfl (lv_at hl 0 rfl) ?_
  refine k_getw (v := .ref (ad 5 1)) X hU sh_5_0 fl_X11_7 rfl dX11_opensReserve_1 ?_
  refine lv_bipush (v := 73) X.1 X.2.1 dX11_opensReserve_4 (by decide) ?_
  refine lv_iconst (v := 1) X.1 X.2.1 dX11_opensReserve_6 (by decide) ?_
  obtain ⟨w7, e7, hf⟩ := k_ltE hf
  refine k_istw X hU hS sh_5_1 e7 (k_vin (N := 268) (by decide) (by decide)) (by decide) dX11_opensReserve_7 (fun H locs hU hS => ?_)
  refine lv_aload_n X.1 X.2.1 dX11_opensReserve_8 rfl (lv_at hl 0 rfl) ?_
  refine lv_iconst (v := 4) X.1 X.2.1 dX11_opensReserve_9 (by decide) ?_
  refine lv_aload_n X.1 X.2.1 dX11_opensReserve_10 rfl (lv_at hl 0 rfl) ?_
  refine k_getw (v := .ref (ad 5 1)) X hU sh_5_0 fl_X11_7 rfl dX11_opensReserve_11 ?_
  refine lv_bipush (v := 8) X.1 X.2.1 dX11_opensReserve_14 (by decide) ?_
  refine k_ildw (j0 := 8) X hU sh_5_1 (k_vin (N := 268) (by decide) (by decide)) (by decide) dX11_opensReserve_16 ?_
  refine lv_aload_n X.1 X.2.1 dX11_opensReserve_17 rfl (lv_at hl 0 rfl) ?_
  obtain ⟨r18, hr18, hf⟩ := k_bdE hf
  refine k_backi X hS (k_runV (As := []) (rest := [.int (w7 1 8), .int 4, .ref (ad 5 0)]) X hS hU sh_5_0 (by decide) rfl vl_X11_72 (c_X11_failed X.2.2.2.2.2.2.1 (k_uc_s _ _ _) hr18) rfl rfl rfl hl.1 ⟨Nat.le_of_ble_eq_true rfl, Nat.le_of_ble_eq_true rfl⟩ (Nat.le_of_ble_eq_true rfl) dX11_opensReserve_18 ⟨Nat.zero_le _, Nat.zero_le _⟩) (fun H locs hU hS => ?_)
  obtain ⟨r21, hr21, hf⟩ := k_bdE hf
  refine k_backv X hS (k_runV (As := [.int 4, .int (w7 1 8), .int r18]) (rest := []) X hS hU sh_5_0 (by decide) rfl vl_X11_82 (c_X11_tells X.2.2.2.2.2.2.1 (k_uc_s _ _ _) hr21) rfl rfl rfl hl.1 ⟨Nat.le_of_ble_eq_true rfl, Nat.le_of_ble_eq_true rfl⟩ (Nat.le_of_ble_eq_true rfl) dX11_opensReserve_21 ⟨Nat.zero_le _, Nat.zero_le _⟩) (fun H locs hU hS => ?_)
  rw [k_uc_uc] at hU
  have hz := Option.some.inj hf
  subst hz
  exact k_vret X hU hS hr hlk dX11_opensReserve_24
def rm_X11_pull : Room := { frames := 1, cells := 0, slots := 0, locals := 20 }
set_option maxRecDepth 100000 in
set_option maxHeartbeats 4000000 in
theorem c_X11_pull {l : Launch} {D : va_G} {G : Nat → ClassId} {ad : Nat → Nat → Nat} {u : k_U} (hI : k_ok ad) {w : k_M} (hw : u 5 = w) {a1 : Int32} {sz : Nat} {r : Int64} (hf : f_X11_pull w a1 = some r) : Met l yX11_pull (.code yX11_pull cX11_pull 2 (some .long) :: lw_g) rm_X11_pull (k_Pre D G ad u sz [.ref (ad 5 0), .int a1]) (k_Ql D G ad u r sz) 0 0 (k_A ad sz) := by
  refine k_ofW (by decide +kernel) hI (Nat.le_of_ble_eq_true rfl) ?_
  intro p e s m args below meth c X hr hlk hU hS ls hl
  have hl : lv_has ls 2 [(0, .ref (ad 5 0)), (1, .int a1)] := hl
  have hU : k_Uv D G ad (k_uc u 5 w) s.heap := by rw [← hw, k_uc_id]; exact hU
  unfold f_X11_pull at hf
  refine lv_aload_n X.1 X.2.1 dX11_pull_0 rfl (lv_at hl 0 rfl) ?_
  refine k_getw (v := .ref (ad 5 1)) X hU sh_5_0 fl_X11_7 rfl dX11_pull_1 ?_
  refine lv_bipush (v := 20) X.1 X.2.1 dX11_pull_4 (by decide) ?_
  refine lv_iload_n X.1 X.2.1 dX11_pull_6 rfl (lv_at hl 1 rfl) ?_
  refine lv_iadd X.1 X.2.1 dX11_pull_7 ?_
  obtain ⟨hi8, hf⟩ := k_ckE hf
  refine k_ildw (j0 := (20 + a1).toNatClampNeg) X hU sh_5_1 (k_vin (n := 268) hi8 (by decide)) rfl dX11_pull_8 ?_
  refine lv_i2l (v := (w 1 ((20 + a1).toNatClampNeg)).toInt64) X.1 X.2.1 dX11_pull_9 rfl ?_
  refine lv_aload_n X.1 X.2.1 dX11_pull_10 rfl (lv_at hl 0 rfl) ?_
  refine k_getw (v := .ref (ad 5 1)) X hU sh_5_0 fl_X11_7 rfl dX11_pull_11 ?_
  refine lv_iconst (v := 0) X.1 X.2.1 dX11_pull_14 (by decide) ?_
  refine k_ildw (j0 := 0) X hU sh_5_1 (k_vin (N := 268) (by decide) (by decide)) (by decide) dX11_pull_15 ?_
  obtain ⟨r16, hr16, hf⟩ := k_bdE hf
  refine k_backi X hS (k_runS (As := [.int (w 1 0)]) (rest := [.long ((w 1 ((20 + a1).toNatClampNeg)).toInt64)]) X hS hU sl_X11_86 (c_X11_air X.2.2.2.2.2.2.1 hr16) rfl rfl rfl hl.1 ⟨Nat.le_of_ble_eq_true rfl, Nat.le_of_ble_eq_true rfl⟩ (Nat.le_of_ble_eq_true rfl) dX11_pull_16 ⟨Nat.zero_le _, Nat.zero_le _⟩) (fun H locs hU hS => ?_)
  refine lv_i2l (v := r16.toInt64) X.1 X.2.1 dX11_pull_19 rfl ?_
  refine lv_lmul X.1 X.2.1 dX11_pull_20 ?_
  refine lv_aload_n X.1 X.2.1 dX11_pull_21 rfl (lv_at hl 0 rfl) ?_
  refine k_getw (v := .ref (ad 5 1)) X hU sh_5_0 fl_X11_7 rfl dX11_pull_22 ?_
  refine lv_iconst (v := 1) X.1 X.2.1 dX11_pull_25 (by decide) ?_
  refine k_ildw (j0 := 1) X hU sh_5_1 (k_vin (N := 268) (by decide) (by decide)) (by decide) dX11_pull_26 ?_
  refine lv_i2l (v := (w 1 1).toInt64) X.1 X.2.1 dX11_pull_27 rfl ?_
  refine lv_lmul X.1 X.2.1 dX11_pull_28 ?_
  refine lv_aload_n X.1 X.2.1 dX11_pull_29 rfl (lv_at hl 0 rfl) ?_
  refine k_getw (v := .ref (ad 5 1)) X hU sh_5_0 fl_X11_7 rfl dX11_pull_30 ?_
  refine lv_iconst (v := 1) X.1 X.2.1 dX11_pull_33 (by decide) ?_
  refine k_ildw (j0 := 1) X hU sh_5_1 (k_vin (N := 268) (by decide) (by decide)) (by decide) dX11_pull_34 ?_
  refine lv_i2l (v := (w 1 1).toInt64) X.1 X.2.1 dX11_pull_35 rfl ?_
  refine lv_lmul X.1 X.2.1 dX11_pull_36 ?_
  refine lv_ldc2 (v := 10000) X.1 X.2.1 X.2.2.2.1 (X.2.2.2.2.1 _ t_1492) dX11_pull_37 ?_
  refine lv_ldiv X.1 X.2.1 dX11_pull_40 (by decide) ?_
  rw [← hw, k_uc_id] at hU
  have hz := Option.some.inj hf
  subst hz
  exact k_lret (v := ((((((w 1 ((20 + a1).toNatClampNeg)).toInt64) * r16.toInt64) * ((w 1 1).toInt64)) * ((w 1 1).toInt64)) / (10000 : Int64))) X hU hS hr hlk rfl dX11_pull_41
def rm_X11_loadFor : Room := { frames := 2, cells := 0, slots := 0, locals := 41 }
set_option maxRecDepth 100000 in
set_option maxHeartbeats 4000000 in
theorem c_X11_loadFor {l : Launch} {D : va_G} {G : Nat → ClassId} {ad : Nat → Nat → Nat} {u : k_U} (hI : k_ok ad) {w : k_M} (hw : u 5 = w) {a1 : Int32} {a2 : Int32} {sz : Nat} {r : Int64} (hf : f_X11_loadFor w a1 a2 = some r) : Met l yX11_loadFor (.code yX11_loadFor cX11_loadFor 5 (some .long) :: lw_g) rm_X11_loadFor (k_Pre D G ad u sz [.ref (ad 5 0), .int a1, .int a2]) (k_Ql D G ad u r sz) 0 0 (k_A ad sz) := by
  refine k_ofW (by decide +kernel) hI (Nat.le_of_ble_eq_true rfl) ?_
  intro p e s m args below meth c X hr hlk hU hS ls hl
  have hl : lv_has ls 5 [(0, .ref (ad 5 0)), (1, .int a1), (2, .int a2)] := hl
  have hU : k_Uv D G ad (k_uc u 5 w) s.heap := by rw [← hw, k_uc_id]; exact hU
  unfold f_X11_loadFor at hf
  refine lv_aload_n X.1 X.2.1 dX11_loadFor_0 rfl (lv_at hl 0 rfl) ?_
  refine lv_iload_n X.1 X.2.1 dX11_loadFor_1 rfl (lv_at hl 1 rfl) ?_
  obtain ⟨r2, hr2, hf⟩ := k_bdE hf
  refine k_backl X hS (k_runV (As := [.int a1]) (rest := []) X hS hU sh_5_0 (by decide) rfl vl_X11_91 (c_X11_pull X.2.2.2.2.2.2.1 (k_uc_s _ _ _) hr2) rfl rfl rfl hl.1 ⟨Nat.le_of_ble_eq_true rfl, Nat.le_of_ble_eq_true rfl⟩ (Nat.le_of_ble_eq_true rfl) dX11_loadFor_2 ⟨Nat.zero_le _, Nat.zero_le _⟩) (fun H locs hU hS => ?_)
  refine lv_bipush (v := 100) X.1 X.2.1 dX11_loadFor_5 (by decide) ?_
  refine lv_iconst (v := 5) X.1 X.2.1 dX11_loadFor_7 (by decide) ?_
  refine lv_aload_n X.1 X.2.1 dX11_loadFor_8 rfl (lv_at hl 0 rfl) ?_
  refine k_getw (v := .ref (ad 5 1)) X hU sh_5_0 fl_X11_7 rfl dX11_loadFor_9 ?_
  refine lv_iconst (v := 5) X.1 X.2.1 dX11_loadFor_12 (by decide) ?_
  refine k_ildw (j0 := 5) X hU sh_5_1 (k_vin (N := 268) (by decide) (by decide)) (by decide) dX11_loadFor_13 ?_
  obtain ⟨r14, hr14, hf⟩ := k_bdE hf
  refine k_backi X hS (k_runS (As := [.int (w 1 5)]) (rest := [.int 5, .int 100, .long r2]) X hS hU sl_X11_95 (c_X11_size0 X.2.2.2.2.2.2.1 hr14) rfl rfl rfl hl.1 ⟨Nat.le_of_ble_eq_true rfl, Nat.le_of_ble_eq_true rfl⟩ (Nat.le_of_ble_eq_true rfl) dX11_loadFor_14 ⟨Nat.zero_le _, Nat.zero_le _⟩) (fun H locs hU hS => ?_)
  refine lv_imul X.1 X.2.1 dX11_loadFor_17 ?_
  refine lv_iadd X.1 X.2.1 dX11_loadFor_18 ?_
  refine lv_i2l (v := (100 + (5 * r14)).toInt64) X.1 X.2.1 dX11_loadFor_19 rfl ?_
  refine lv_lmul X.1 X.2.1 dX11_loadFor_20 ?_
  refine lv_ldc2 (v := 100) X.1 X.2.1 X.2.2.2.1 (X.2.2.2.2.1 _ t_1496) dX11_loadFor_21 ?_
  refine lv_ldiv X.1 X.2.1 dX11_loadFor_24 (by decide) ?_
  obtain ⟨x25, e25, hf⟩ := k_ltE hf
  refine k_nml e25 ?_
  refine lv_lstore_n (lv' := [(3, .long x25), (0, .ref (ad 5 0)), (1, .int a1), (2, .int a2)]) X.1 X.2.1 dX11_loadFor_25 rfl hl (by decide) rfl (fun ls hl => ?_)
  refine lv_lload_n X.1 X.2.1 dX11_loadFor_26 rfl (lv_at hl 0 rfl) ?_
  refine lv_iload_n X.1 X.2.1 dX11_loadFor_27 rfl (lv_at hl 3 rfl) ?_
  refine lv_i2l (v := a2.toInt64) X.1 X.2.1 dX11_loadFor_28 rfl ?_
  refine lv_ladd X.1 X.2.1 dX11_loadFor_29 ?_
  refine lv_lconst (v := 1) X.1 X.2.1 dX11_loadFor_30 (by decide) ?_
  refine lv_lsub X.1 X.2.1 dX11_loadFor_31 ?_
  refine lv_iload_n X.1 X.2.1 dX11_loadFor_32 rfl (lv_at hl 3 rfl) ?_
  refine lv_i2l (v := a2.toInt64) X.1 X.2.1 dX11_loadFor_33 rfl ?_
  obtain ⟨hi34, hf⟩ := k_ckE hf
  refine lv_ldiv X.1 X.2.1 dX11_loadFor_34 hi34 ?_
  rw [← hw, k_uc_id] at hU
  have hz := Option.some.inj hf
  subst hz
  exact k_lret (v := (((x25 + a2.toInt64) - (1 : Int64)) / a2.toInt64)) X hU hS hr hlk rfl dX11_loadFor_35
def rm_X11_strength : Room := { frames := 0, cells := 0, slots := 0, locals := 0 }
set_option maxRecDepth 100000 in
set_option maxHeartbeats 4000000 in
theorem c_X11_strength {l : Launch} {D : va_G} {G : Nat → ClassId} {ad : Nat → Nat → Nat} {u : k_U} (hI : k_ok ad) {w : k_M} (hw : u 5 = w) {a1 : Int32} {a2 : Int32} {sz : Nat} {r : Int64} (hf : f_X11_strength w a1 a2 = some r) : Met l yX11_strength (.code yX11_strength cX11_strength 3 (some .long) :: lw_g) rm_X11_strength (k_Pre D G ad u sz [.ref (ad 5 0), .int a1, .int a2]) (k_Ql D G ad u r sz) 0 0 (k_A ad sz) := by
  refine k_ofW (by decide +kernel) hI (Nat.le_of_ble_eq_true rfl) ?_
  intro p e s m args below meth c X hr hlk hU hS ls hl
  have hl : lv_has ls 3 [(0, .ref (ad 5 0)), (1, .int a1), (2, .int a2)] := hl
  have hU : k_Uv D G ad (k_uc u 5 w) s.heap := by rw [← hw, k_uc_id]; exact hU
  unfold f_X11_strength at hf
  refine lv_aload_n X.1 X.2.1 dX11_strength_0 rfl (lv_at hl 0 rfl) ?_
  refine k_getw (v := .ref (ad 5 1)) X hU sh_5_0 fl_X11_7 rfl dX11_strength_1 ?_
  refine lv_bipush (v := 38) X.1 X.2.1 dX11_strength_4 (by decide) ?_
  refine lv_iload_n X.1 X.2.1 dX11_strength_6 rfl (lv_at hl 1 rfl) ?_
  refine lv_iadd X.1 X.2.1 dX11_strength_7 ?_
  obtain ⟨hi8, hf⟩ := k_ckE hf
  refine k_ildw (j0 := (38 + a1).toNatClampNeg) X hU sh_5_1 (k_vin (n := 268) hi8 (by decide)) rfl dX11_strength_8 ?_
  refine lv_iconst (v := 3) X.1 X.2.1 dX11_strength_9 (by decide) ?_
  refine lv_iload_n X.1 X.2.1 dX11_strength_10 rfl (lv_at hl 2 rfl) ?_
  refine lv_imul X.1 X.2.1 dX11_strength_11 ?_
  refine lv_iadd X.1 X.2.1 dX11_strength_12 ?_
  refine lv_i2l (v := ((w 1 ((38 + a1).toNatClampNeg)) + (3 * a2)).toInt64) X.1 X.2.1 dX11_strength_13 rfl ?_
  rw [← hw, k_uc_id] at hU
  have hz := Option.some.inj hf
  subst hz
  exact k_lret (v := ((w 1 ((38 + a1).toNatClampNeg)) + (3 * a2)).toInt64) X hU hS hr hlk rfl dX11_strength_14
def rm_X11_linesLeft : Room := { frames := 3, cells := 0, slots := 0, locals := 65 }
set_option maxRecDepth 100000 in
set_option maxHeartbeats 4000000 in
theorem c_X11_linesLeft {l : Launch} {D : va_G} {G : Nat → ClassId} {ad : Nat → Nat → Nat} {u : k_U} (hI : k_ok ad) {w : k_M} (hw : u 5 = w) {a1 : Int32} {sz : Nat} {r : Int32} (hf : f_X11_linesLeft w a1 = some r) : Met l yX11_linesLeft (.code yX11_linesLeft cX11_linesLeft 8 (some .int) :: lw_g) rm_X11_linesLeft (k_Pre D G ad u sz [.ref (ad 5 0), .int a1]) (k_Qi D G ad u r sz) 0 0 (k_A ad sz) := by
  refine k_ofW (by decide +kernel) hI (Nat.le_of_ble_eq_true rfl) ?_
  intro p e s m args below meth c X hr hlk hU hS ls hl
  have hl : lv_has ls 8 [(0, .ref (ad 5 0)), (1, .int a1)] := hl
  have hU : k_Uv D G ad (k_uc u 5 w) s.heap := by rw [← hw, k_uc_id]; exact hU
  have L12 : ∀ (n12 : Nat) (H : Heap) (locs : List Loc) (ls : Array Slot) (a1 : Int32) (a2 : Int32) (a3 : Int32), k_Uv D G ad (k_uc u 5 w) H → va_S (k_A ad sz) s.heap H locs → lv_has ls 8 [(0, .ref (ad 5 0)), (1, .int a1), (2, .int a2), (3, .int a3)] → f_X11_linesLeft_12 n12 w a1 a2 a3 = some r → W p l e rm_X11_linesLeft s m args below meth c H locs 0 0 (MQ below (k_Qi D G ad u r sz) args s 0 0 (k_A ad sz)) (F0 m 12 ls []) := by
    intro n12
    induction n12 with
    | zero =>
      intro H locs ls a1 a2 a3 hU hS hl hf
      cases (show none = some r from hf)
    | succ n12 ih12 =>
      have J117 : ∀ (H : Heap) (locs : List Loc) (ls : Array Slot) (a1 : Int32) (a6 : Int32) (as0 : Int32), k_Uv D G ad (k_uc u 5 w) H → va_S (k_A ad sz) s.heap H locs → lv_has ls 8 [(0, .ref (ad 5 0)), (1, .int a1), (6, .int a6)] → f_X11_linesLeft_117 (f_X11_linesLeft_12 n12) w a1 a6 as0 = some r → W p l e rm_X11_linesLeft s m args below meth c H locs 0 0 (MQ below (k_Qi D G ad u r sz) args s 0 0 (k_A ad sz)) (F0 m 117 ls [.int as0]) := by
        intro H locs ls a1 a6 as0 hU hS hl hf
        unfold f_X11_linesLeft_117 at hf
        refine lv_istore_n (lv' := [(3, .int as0), (0, .ref (ad 5 0)), (1, .int a1), (6, .int a6)]) X.1 X.2.1 dX11_linesLeft_117 rfl hl (by decide) rfl (fun ls hl => ?_)
        refine lv_iload X.1 X.2.1 dX11_linesLeft_118 (lv_at hl 3 rfl) ?_
        refine lv_istore_n (lv' := [(2, .int a6), (3, .int as0), (0, .ref (ad 5 0)), (1, .int a1), (6, .int a6)]) X.1 X.2.1 dX11_linesLeft_120 rfl hl (by decide) rfl (fun ls hl => ?_)
        refine lv_goto (tgt := 12) X.1 X.2.1 dX11_linesLeft_121 (by decide) ?_
        exact ih12 _ _ _ a1 a6 as0 hU hS (lv_sub hl [2, 3, 0, 1] rfl) hf
      have L37 : ∀ (n37 : Nat) (H : Heap) (locs : List Loc) (ls : Array Slot) (a1 : Int32) (a2 : Int32) (a4 : Int64) (a6 : Int32) (a7 : Int32), k_Uv D G ad (k_uc u 5 w) H → va_S (k_A ad sz) s.heap H locs → lv_has ls 8 [(0, .ref (ad 5 0)), (1, .int a1), (2, .int a2), (4, .long a4), (6, .int a6), (7, .int a7)] → f_X11_linesLeft_37 (f_X11_linesLeft_12 n12) n37 w a1 a2 a4 a6 a7 = some r → W p l e rm_X11_linesLeft s m args below meth c H locs 0 0 (MQ below (k_Qi D G ad u r sz) args s 0 0 (k_A ad sz)) (F0 m 37 ls []) := by
        intro n37
        induction n37 with
        | zero =>
          intro H locs ls a1 a2 a4 a6 a7 hU hS hl hf
          cases (show none = some r from hf)
        | succ n37 ih37 =>
          have J100 : ∀ (H : Heap) (locs : List Loc) (ls : Array Slot) (a1 : Int32) (a2 : Int32) (a4 : Int64) (a6 : Int32) (a7 : Int32), k_Uv D G ad (k_uc u 5 w) H → va_S (k_A ad sz) s.heap H locs → lv_has ls 8 [(0, .ref (ad 5 0)), (1, .int a1), (2, .int a2), (4, .long a4), (6, .int a6), (7, .int a7)] → f_X11_linesLeft_100 (f_X11_linesLeft_12 n12) (f_X11_linesLeft_37 (f_X11_linesLeft_12 n12) n37) w a1 a2 a4 a6 a7 = some r → W p l e rm_X11_linesLeft s m args below meth c H locs 0 0 (MQ below (k_Qi D G ad u r sz) args s 0 0 (k_A ad sz)) (F0 m 100 ls []) := by
            intro H locs ls a1 a2 a4 a6 a7 hU hS hl hf
            unfold f_X11_linesLeft_100 at hf
            obtain ⟨x100, e100, hf⟩ := k_ltE hf
            refine lv_iinc (v := x100) (lv' := [(7, .int x100), (0, .ref (ad 5 0)), (1, .int a1), (2, .int a2), (4, .long a4), (6, .int a6)]) X.1 X.2.1 dX11_linesLeft_100 hl (k := 5) rfl (by rw [e100]; rfl) (by decide) rfl (fun ls hl => ?_)
            refine lv_goto (tgt := 37) X.1 X.2.1 dX11_linesLeft_103 (by decide) ?_
            exact ih37 _ _ _ a1 a2 a4 a6 x100 hU hS (lv_sub hl [1, 2, 3, 4, 5, 0] rfl) hf
          intro H locs ls a1 a2 a4 a6 a7 hU hS hl hf
          replace hf : f_X11_linesLeft_37_b (f_X11_linesLeft_12 n12) (f_X11_linesLeft_37 (f_X11_linesLeft_12 n12) n37) w a1 a2 a4 a6 a7 = some r := hf
          unfold f_X11_linesLeft_37_b at hf
          refine lv_iload X.1 X.2.1 dX11_linesLeft_37 (lv_at hl 5 rfl) ?_
          refine lv_aload_n X.1 X.2.1 dX11_linesLeft_39 rfl (lv_at hl 0 rfl) ?_
          refine k_getw (v := .ref (ad 5 1)) X hU sh_5_0 fl_X11_7 rfl dX11_linesLeft_40 ?_
          refine lv_bipush (v := 29) X.1 X.2.1 dX11_linesLeft_43 (by decide) ?_
          refine lv_iload_n X.1 X.2.1 dX11_linesLeft_45 rfl (lv_at hl 1 rfl) ?_
          refine lv_iadd X.1 X.2.1 dX11_linesLeft_46 ?_
          obtain ⟨hi47, hf⟩ := k_ckE hf
          refine k_ildw (j0 := (29 + a1).toNatClampNeg) X hU sh_5_1 (k_vin (n := 268) hi47 (by decide)) rfl dX11_linesLeft_47 ?_
          refine lv_icmp_ge (tgt := 106) X.1 X.2.1 dX11_linesLeft_48 (by decide) (fun c48 => ?_) (fun c48 => ?_)
          · replace hf := k_ifP hf c48
            refine lv_iload X.1 X.2.1 dX11_linesLeft_106 (lv_at hl 4 rfl) ?_
            refine lv_iload_n X.1 X.2.1 dX11_linesLeft_108 rfl (lv_at hl 2 rfl) ?_
            refine lv_icmp_eq (tgt := 116) X.1 X.2.1 dX11_linesLeft_109 (by decide) (fun c109 => ?_) (fun c109 => ?_)
            · replace hf := k_ifP hf c109
              refine lv_iconst (v := 0) X.1 X.2.1 dX11_linesLeft_116 (by decide) ?_
              exact J117 _ _ _ a1 a6 0 hU hS (lv_sub hl [0, 1, 4] rfl) hf
            · replace hf := k_ifN hf c109
              refine lv_iconst (v := 1) X.1 X.2.1 dX11_linesLeft_112 (by decide) ?_
              refine lv_goto (tgt := 117) X.1 X.2.1 dX11_linesLeft_113 (by decide) ?_
              exact J117 _ _ _ a1 a6 1 hU hS (lv_sub hl [0, 1, 4] rfl) hf
          · replace hf := k_ifN hf c48
            refine lv_iload_n X.1 X.2.1 dX11_linesLeft_51 rfl (lv_at hl 2 rfl) ?_
            refine lv_iload X.1 X.2.1 dX11_linesLeft_52 (lv_at hl 5 rfl) ?_
            obtain ⟨r54, hr54, hf⟩ := k_bdE hf
            refine k_backi X hS (k_runS (As := [.int a2, .int a7]) (rest := []) X hS hU sl_X11_107 (c_X11_has X.2.2.2.2.2.2.1 hr54) rfl rfl rfl hl.1 ⟨Nat.le_of_ble_eq_true rfl, Nat.le_of_ble_eq_true rfl⟩ (Nat.le_of_ble_eq_true rfl) dX11_linesLeft_54 ⟨Nat.zero_le _, Nat.zero_le _⟩) (fun H locs hU hS => ?_)
            refine lv_if_eq (tgt := 100) X.1 X.2.1 dX11_linesLeft_57 (by decide) (fun c57 => ?_) (fun c57 => ?_)
            · replace hf := k_ifP hf c57
              exact J100 _ _ _ a1 a2 a4 a6 a7 hU hS (lv_sub hl [0, 1, 2, 3, 4, 5] rfl) hf
            · replace hf := k_ifN hf c57
              refine lv_aload_n X.1 X.2.1 dX11_linesLeft_60 rfl (lv_at hl 0 rfl) ?_
              refine lv_iload_n X.1 X.2.1 dX11_linesLeft_61 rfl (lv_at hl 1 rfl) ?_
              refine lv_iload X.1 X.2.1 dX11_linesLeft_62 (lv_at hl 5 rfl) ?_
              obtain ⟨r64, hr64, hf⟩ := k_bdE hf
              refine k_backl X hS (k_runV (As := [.int a1, .int a7]) (rest := []) X hS hU sh_5_0 (by decide) rfl vl_X11_111 (c_X11_strength X.2.2.2.2.2.2.1 (k_uc_s _ _ _) hr64) rfl rfl rfl hl.1 ⟨Nat.le_of_ble_eq_true rfl, Nat.le_of_ble_eq_true rfl⟩ (Nat.le_of_ble_eq_true rfl) dX11_linesLeft_64 ⟨Nat.zero_le _, Nat.zero_le _⟩) (fun H locs hU hS => ?_)
              refine lv_sipush (v := 1000) X.1 X.2.1 dX11_linesLeft_67 (by decide) ?_
              refine lv_aload_n X.1 X.2.1 dX11_linesLeft_70 rfl (lv_at hl 0 rfl) ?_
              refine k_getw (v := .ref (ad 5 1)) X hU sh_5_0 fl_X11_7 rfl dX11_linesLeft_71 ?_
              refine lv_iconst (v := 4) X.1 X.2.1 dX11_linesLeft_74 (by decide) ?_
              refine k_ildw (j0 := 4) X hU sh_5_1 (k_vin (N := 268) (by decide) (by decide)) (by decide) dX11_linesLeft_75 ?_
              refine lv_isub X.1 X.2.1 dX11_linesLeft_76 ?_
              refine lv_i2l (v := (1000 - (w 1 4)).toInt64) X.1 X.2.1 dX11_linesLeft_77 rfl ?_
              refine lv_lmul X.1 X.2.1 dX11_linesLeft_78 ?_
              refine lv_ldc2 (v := 1000) X.1 X.2.1 X.2.2.2.1 (X.2.2.2.2.1 _ t_1505) dX11_linesLeft_79 ?_
              refine lv_ldiv X.1 X.2.1 dX11_linesLeft_82 (by decide) ?_
              refine lv_lload X.1 X.2.1 dX11_linesLeft_83 (lv_at hl 3 rfl) ?_
              refine W.lcmp X.1 X.2.1 dX11_linesLeft_85 ?_
              refine lv_if_ge (tgt := 100) X.1 X.2.1 dX11_linesLeft_86 (by decide) (fun c86 => ?_) (fun c86 => ?_)
              · replace hf := k_ifP hf c86
                exact J100 _ _ _ a1 a2 a4 a6 a7 hU hS (lv_sub hl [0, 1, 2, 3, 4, 5] rfl) hf
              · replace hf := k_ifN hf c86
                refine lv_iload X.1 X.2.1 dX11_linesLeft_89 (lv_at hl 4 rfl) ?_
                refine lv_iconst (v := 1) X.1 X.2.1 dX11_linesLeft_91 (by decide) ?_
                refine lv_iload X.1 X.2.1 dX11_linesLeft_92 (lv_at hl 5 rfl) ?_
                refine lv_ishl X.1 X.2.1 dX11_linesLeft_94 ?_
                refine lv_iconst (v := (-1)) X.1 X.2.1 dX11_linesLeft_95 (by decide) ?_
                refine lv_ixor X.1 X.2.1 dX11_linesLeft_96 ?_
                refine lv_iand X.1 X.2.1 dX11_linesLeft_97 ?_
                obtain ⟨x98, e98, hf⟩ := k_ltE hf
                refine k_nmi e98 ?_
                refine lv_istore (lv' := [(6, .int x98), (0, .ref (ad 5 0)), (1, .int a1), (2, .int a2), (4, .long a4), (7, .int a7)]) X.1 X.2.1 dX11_linesLeft_98 hl (by decide) rfl (fun ls hl => ?_)
                exact J100 _ _ _ a1 a2 a4 x98 a7 hU hS (lv_sub hl [1, 2, 3, 4, 0, 5] rfl) hf
      intro H locs ls a1 a2 a3 hU hS hl hf
      replace hf : f_X11_linesLeft_12_b (f_X11_linesLeft_12 n12) w a1 a2 a3 = some r := hf
      unfold f_X11_linesLeft_12_b at hf
      refine lv_iload_n X.1 X.2.1 dX11_linesLeft_12 rfl (lv_at hl 3 rfl) ?_
      refine lv_if_eq (tgt := 124) X.1 X.2.1 dX11_linesLeft_13 (by decide) (fun c13 => ?_) (fun c13 => ?_)
      · replace hf := k_ifP hf c13
        refine lv_iload_n X.1 X.2.1 dX11_linesLeft_124 rfl (lv_at hl 2 rfl) ?_
        rw [← hw, k_uc_id] at hU
        have hz := Option.some.inj hf
        subst hz
        exact k_iret (v := a2) X hU hS hr hlk rfl rfl dX11_linesLeft_125
      · replace hf := k_ifN hf c13
        refine lv_iload_n X.1 X.2.1 dX11_linesLeft_16 rfl (lv_at hl 2 rfl) ?_
        refine lv_if_eq (tgt := 124) X.1 X.2.1 dX11_linesLeft_17 (by decide) (fun c17 => ?_) (fun c17 => ?_)
        · replace hf := k_ifP hf c17
          refine lv_iload_n X.1 X.2.1 dX11_linesLeft_124 rfl (lv_at hl 2 rfl) ?_
          rw [← hw, k_uc_id] at hU
          have hz := Option.some.inj hf
          subst hz
          exact k_iret (v := a2) X hU hS hr hlk rfl rfl dX11_linesLeft_125
        · replace hf := k_ifN hf c17
          refine lv_aload_n X.1 X.2.1 dX11_linesLeft_20 rfl (lv_at hl 0 rfl) ?_
          refine lv_iload_n X.1 X.2.1 dX11_linesLeft_21 rfl (lv_at hl 1 rfl) ?_
          refine lv_iload_n X.1 X.2.1 dX11_linesLeft_22 rfl (lv_at hl 2 rfl) ?_
          obtain ⟨r23, hr23, hf⟩ := k_bdE hf
          refine k_backi X hS (k_runS (As := [.int a2]) (rest := [.int a1, .ref (ad 5 0)]) X hS hU sl_X11_100 (c_X11_bits X.2.2.2.2.2.2.1 hr23) rfl rfl rfl hl.1 ⟨Nat.le_of_ble_eq_true rfl, Nat.le_of_ble_eq_true rfl⟩ (Nat.le_of_ble_eq_true rfl) dX11_linesLeft_23 ⟨Nat.zero_le _, Nat.zero_le _⟩) (fun H locs hU hS => ?_)
          obtain ⟨r26, hr26, hf⟩ := k_bdE hf
          refine k_backl X hS (k_runV (As := [.int a1, .int r23]) (rest := []) X hS hU sh_5_0 (by decide) rfl vl_X11_103 (c_X11_loadFor X.2.2.2.2.2.2.1 (k_uc_s _ _ _) hr26) rfl rfl rfl hl.1 ⟨Nat.le_of_ble_eq_true rfl, Nat.le_of_ble_eq_true rfl⟩ (Nat.le_of_ble_eq_true rfl) dX11_linesLeft_26 ⟨Nat.zero_le _, Nat.zero_le _⟩) (fun H locs hU hS => ?_)
          refine lv_lstore (lv' := [(4, .long r26), (0, .ref (ad 5 0)), (1, .int a1), (2, .int a2), (3, .int a3)]) X.1 X.2.1 dX11_linesLeft_29 hl (by decide) rfl (fun ls hl => ?_)
          refine lv_iload_n X.1 X.2.1 dX11_linesLeft_31 rfl (lv_at hl 3 rfl) ?_
          refine lv_istore (lv' := [(6, .int a2), (4, .long r26), (0, .ref (ad 5 0)), (1, .int a1), (2, .int a2), (3, .int a3)]) X.1 X.2.1 dX11_linesLeft_32 hl (by decide) rfl (fun ls hl => ?_)
          refine lv_iconst (v := 0) X.1 X.2.1 dX11_linesLeft_34 (by decide) ?_
          refine lv_istore (lv' := [(7, .int 0), (6, .int a2), (4, .long r26), (0, .ref (ad 5 0)), (1, .int a1), (2, .int a2), (3, .int a3)]) X.1 X.2.1 dX11_linesLeft_35 hl (by decide) rfl (fun ls hl => ?_)
          exact L37 k_N _ _ _ a1 a2 r26 a2 0 hU hS (lv_sub hl [3, 4, 5, 2, 1, 0] rfl) hf
  unfold f_X11_linesLeft at hf
  refine lv_aload_n X.1 X.2.1 dX11_linesLeft_0 rfl (lv_at hl 0 rfl) ?_
  refine k_getw (v := .ref (ad 5 1)) X hU sh_5_0 fl_X11_7 rfl dX11_linesLeft_1 ?_
  refine lv_bipush (v := 74) X.1 X.2.1 dX11_linesLeft_4 (by decide) ?_
  refine lv_iload_n X.1 X.2.1 dX11_linesLeft_6 rfl (lv_at hl 1 rfl) ?_
  refine lv_iadd X.1 X.2.1 dX11_linesLeft_7 ?_
  obtain ⟨hi8, hf⟩ := k_ckE hf
  refine k_ildw (j0 := (74 + a1).toNatClampNeg) X hU sh_5_1 (k_vin (n := 268) hi8 (by decide)) rfl dX11_linesLeft_8 ?_
  obtain ⟨x9, e9, hf⟩ := k_ltE hf
  refine k_nmi e9 ?_
  refine lv_istore_n (lv' := [(2, .int x9), (0, .ref (ad 5 0)), (1, .int a1)]) X.1 X.2.1 dX11_linesLeft_9 rfl hl (by decide) rfl (fun ls hl => ?_)
  refine lv_iconst (v := 1) X.1 X.2.1 dX11_linesLeft_10 (by decide) ?_
  refine lv_istore_n (lv' := [(3, .int 1), (2, .int x9), (0, .ref (ad 5 0)), (1, .int a1)]) X.1 X.2.1 dX11_linesLeft_11 rfl hl (by decide) rfl (fun ls hl => ?_)
  exact L12 k_N _ _ _ a1 x9 1 hU hS (lv_sub hl [2, 3, 1, 0] rfl) hf
def rm_X11_tears : Room := { frames := 4, cells := 0, slots := 0, locals := 92 }
set_option maxRecDepth 100000 in
set_option maxHeartbeats 4000000 in
theorem c_X11_tears {l : Launch} {D : va_G} {G : Nat → ClassId} {ad : Nat → Nat → Nat} {u : k_U} (hI : k_ok ad) {w : k_M} (hw : u 5 = w) {a1 : Int32} {sz : Nat} {r : k_M} (hf : f_X11_tears w a1 = some r) : Met l yX11_tears (.code yX11_tears cX11_tears 4 none :: lw_g) rm_X11_tears (k_Pre D G ad u sz [.ref (ad 5 0), .int a1]) (k_Qv D G ad (k_uc u 5 r) sz) 0 0 (k_A ad sz) := by
  refine k_ofW (by decide +kernel) hI (Nat.le_of_ble_eq_true rfl) ?_
  intro p e s m args below meth c X hr hlk hU hS ls hl
  have hl : lv_has ls 4 [(0, .ref (ad 5 0)), (1, .int a1)] := hl
  have hU : k_Uv D G ad (k_uc u 5 w) s.heap := by rw [← hw, k_uc_id]; exact hU
  have J49 : ∀ (H : Heap) (locs : List Loc) (ls : Array Slot) (w : k_M) (a1 : Int32) (a2 : Int32), k_Uv D G ad (k_uc u 5 w) H → va_S (k_A ad sz) s.heap H locs → lv_has ls 4 [(0, .ref (ad 5 0)), (1, .int a1), (2, .int a2)] → f_X11_tears_49 w a1 a2 = some r → W p l e rm_X11_tears s m args below meth c H locs 0 0 (MQ below (k_Qv D G ad (k_uc u 5 r) sz) args s 0 0 (k_A ad sz)) (F0 m 49 ls []) := by
    intro H locs ls w a1 a2 hU hS hl hf
    unfold f_X11_tears_49 at hf
    refine lv_iload_n X.1 X.2.1 dX11_tears_49 rfl (lv_at hl 2 rfl) ?_
    refine lv_if_ne (tgt := 82) X.1 X.2.1 dX11_tears_50 (by decide) (fun c50 => ?_) (fun c50 => ?_)
    · replace hf := k_ifN hf c50
      have hz := Option.some.inj hf
      subst hz
      exact k_vret X hU hS hr hlk dX11_tears_82
    · replace hf := k_ifP hf c50
      refine lv_aload_n X.1 X.2.1 dX11_tears_53 rfl (lv_at hl 0 rfl) ?_
      refine k_getw (v := .ref (ad 5 1)) X hU sh_5_0 fl_X11_7 rfl dX11_tears_54 ?_
      refine lv_bipush (v := 65) X.1 X.2.1 dX11_tears_57 (by decide) ?_
      refine lv_iload_n X.1 X.2.1 dX11_tears_59 rfl (lv_at hl 1 rfl) ?_
      refine lv_iadd X.1 X.2.1 dX11_tears_60 ?_
      refine lv_iconst (v := 2) X.1 X.2.1 dX11_tears_61 (by decide) ?_
      obtain ⟨hi62, hf⟩ := k_ckE hf
      obtain ⟨w62, e62, hf⟩ := k_ltE hf
      refine k_istw X hU hS sh_5_1 e62 (k_vin (n := 268) hi62 (by decide)) rfl dX11_tears_62 (fun H locs hU hS => ?_)
      refine lv_aload_n X.1 X.2.1 dX11_tears_63 rfl (lv_at hl 0 rfl) ?_
      refine lv_iconst (v := 2) X.1 X.2.1 dX11_tears_64 (by decide) ?_
      refine lv_aload_n X.1 X.2.1 dX11_tears_65 rfl (lv_at hl 0 rfl) ?_
      refine lv_iload_n X.1 X.2.1 dX11_tears_66 rfl (lv_at hl 1 rfl) ?_
      obtain ⟨r67, hr67, hf⟩ := k_bdE hf
      refine k_backi X hS (k_runV (As := [.int a1]) (rest := [.int 2, .ref (ad 5 0)]) X hS hU sh_5_0 (by decide) rfl vl_X11_119 (c_X11_numberOf X.2.2.2.2.2.2.1 (k_uc_s _ _ _) hr67) rfl rfl rfl hl.1 ⟨Nat.le_of_ble_eq_true rfl, Nat.le_of_ble_eq_true rfl⟩ (Nat.le_of_ble_eq_true rfl) dX11_tears_67 ⟨Nat.zero_le _, Nat.zero_le _⟩) (fun H locs hU hS => ?_)
      refine lv_aload_n X.1 X.2.1 dX11_tears_70 rfl (lv_at hl 0 rfl) ?_
      refine k_getw (v := .ref (ad 5 1)) X hU sh_5_0 fl_X11_7 rfl dX11_tears_71 ?_
      refine lv_bipush (v := 20) X.1 X.2.1 dX11_tears_74 (by decide) ?_
      refine lv_iload_n X.1 X.2.1 dX11_tears_76 rfl (lv_at hl 1 rfl) ?_
      refine lv_iadd X.1 X.2.1 dX11_tears_77 ?_
      obtain ⟨hi78, hf⟩ := k_ckE hf
      refine k_ildw (j0 := (20 + a1).toNatClampNeg) X hU sh_5_1 (k_vin (n := 268) hi78 (by decide)) rfl dX11_tears_78 ?_
      obtain ⟨r79, hr79, hf⟩ := k_bdE hf
      refine k_backv X hS (k_runV (As := [.int 2, .int r67, .int (w62 1 ((20 + a1).toNatClampNeg))]) (rest := []) X hS hU sh_5_0 (by decide) rfl vl_X11_82 (c_X11_tells X.2.2.2.2.2.2.1 (k_uc_s _ _ _) hr79) rfl rfl rfl hl.1 ⟨Nat.le_of_ble_eq_true rfl, Nat.le_of_ble_eq_true rfl⟩ (Nat.le_of_ble_eq_true rfl) dX11_tears_79 ⟨Nat.zero_le _, Nat.zero_le _⟩) (fun H locs hU hS => ?_)
      rw [k_uc_uc] at hU
      have hz := Option.some.inj hf
      subst hz
      exact k_vret X hU hS hr hlk dX11_tears_82
  unfold f_X11_tears at hf
  refine lv_aload_n X.1 X.2.1 dX11_tears_0 rfl (lv_at hl 0 rfl) ?_
  refine lv_iload_n X.1 X.2.1 dX11_tears_1 rfl (lv_at hl 1 rfl) ?_
  obtain ⟨r2, hr2, hf⟩ := k_bdE hf
  refine k_backi X hS (k_runV (As := [.int a1]) (rest := []) X hS hU sh_5_0 (by decide) rfl vl_X11_116 (c_X11_linesLeft X.2.2.2.2.2.2.1 (k_uc_s _ _ _) hr2) rfl rfl rfl hl.1 ⟨Nat.le_of_ble_eq_true rfl, Nat.le_of_ble_eq_true rfl⟩ (Nat.le_of_ble_eq_true rfl) dX11_tears_2 ⟨Nat.zero_le _, Nat.zero_le _⟩) (fun H locs hU hS => ?_)
  refine lv_istore_n (lv' := [(2, .int r2), (0, .ref (ad 5 0)), (1, .int a1)]) X.1 X.2.1 dX11_tears_5 rfl hl (by decide) rfl (fun ls hl => ?_)
  refine lv_aload_n X.1 X.2.1 dX11_tears_6 rfl (lv_at hl 1 rfl) ?_
  refine k_getw (v := .ref (ad 5 1)) X hU sh_5_0 fl_X11_7 rfl dX11_tears_7 ?_
  refine lv_bipush (v := 74) X.1 X.2.1 dX11_tears_10 (by decide) ?_
  refine lv_iload_n X.1 X.2.1 dX11_tears_12 rfl (lv_at hl 2 rfl) ?_
  refine lv_iadd X.1 X.2.1 dX11_tears_13 ?_
  obtain ⟨hi14, hf⟩ := k_ckE hf
  refine k_ildw (j0 := (74 + a1).toNatClampNeg) X hU sh_5_1 (k_vin (n := 268) hi14 (by decide)) rfl dX11_tears_14 ?_
  obtain ⟨r15, hr15, hf⟩ := k_bdE hf
  refine k_backi X hS (k_runS (As := [.int (w 1 ((74 + a1).toNatClampNeg))]) (rest := []) X hS hU sl_X11_100 (c_X11_bits X.2.2.2.2.2.2.1 hr15) rfl rfl rfl hl.1 ⟨Nat.le_of_ble_eq_true rfl, Nat.le_of_ble_eq_true rfl⟩ (Nat.le_of_ble_eq_true rfl) dX11_tears_15 ⟨Nat.zero_le _, Nat.zero_le _⟩) (fun H locs hU hS => ?_)
  refine lv_iload_n X.1 X.2.1 dX11_tears_18 rfl (lv_at hl 0 rfl) ?_
  obtain ⟨r19, hr19, hf⟩ := k_bdE hf
  refine k_backi X hS (k_runS (As := [.int r2]) (rest := [.int r15]) X hS hU sl_X11_100 (c_X11_bits X.2.2.2.2.2.2.1 hr19) rfl rfl rfl hl.1 ⟨Nat.le_of_ble_eq_true rfl, Nat.le_of_ble_eq_true rfl⟩ (Nat.le_of_ble_eq_true rfl) dX11_tears_19 ⟨Nat.zero_le _, Nat.zero_le _⟩) (fun H locs hU hS => ?_)
  refine lv_isub X.1 X.2.1 dX11_tears_22 ?_
  obtain ⟨x23, e23, hf⟩ := k_ltE hf
  refine k_nmi e23 ?_
  refine lv_istore_n (lv' := [(3, .int x23), (2, .int r2), (0, .ref (ad 5 0)), (1, .int a1)]) X.1 X.2.1 dX11_tears_23 rfl hl (by decide) rfl (fun ls hl => ?_)
  refine lv_aload_n X.1 X.2.1 dX11_tears_24 rfl (lv_at hl 2 rfl) ?_
  refine k_getw (v := .ref (ad 5 1)) X hU sh_5_0 fl_X11_7 rfl dX11_tears_25 ?_
  refine lv_bipush (v := 74) X.1 X.2.1 dX11_tears_28 (by decide) ?_
  refine lv_iload_n X.1 X.2.1 dX11_tears_30 rfl (lv_at hl 3 rfl) ?_
  refine lv_iadd X.1 X.2.1 dX11_tears_31 ?_
  refine lv_iload_n X.1 X.2.1 dX11_tears_32 rfl (lv_at hl 1 rfl) ?_
  obtain ⟨hi33, hf⟩ := k_ckE hf
  obtain ⟨w33, e33, hf⟩ := k_ltE hf
  refine k_istw X hU hS sh_5_1 e33 (k_vin (n := 268) hi33 (by decide)) rfl dX11_tears_33 (fun H locs hU hS => ?_)
  refine lv_iload_n X.1 X.2.1 dX11_tears_34 rfl (lv_at hl 0 rfl) ?_
  refine lv_if_le (tgt := 49) X.1 X.2.1 dX11_tears_35 (by decide) (fun c35 => ?_) (fun c35 => ?_)
  · replace hf := k_ifP hf c35
    exact J49 _ _ _ w33 a1 r2 hU hS (lv_sub hl [2, 3, 1] rfl) hf
  · replace hf := k_ifN hf c35
    refine lv_aload_n X.1 X.2.1 dX11_tears_38 rfl (lv_at hl 2 rfl) ?_
    refine lv_iconst (v := 1) X.1 X.2.1 dX11_tears_39 (by decide) ?_
    refine lv_aload_n X.1 X.2.1 dX11_tears_40 rfl (lv_at hl 2 rfl) ?_
    refine lv_iload_n X.1 X.2.1 dX11_tears_41 rfl (lv_at hl 3 rfl) ?_
    obtain ⟨r42, hr42, hf⟩ := k_bdE hf
    refine k_backi X hS (k_runV (As := [.int a1]) (rest := [.int 1, .ref (ad 5 0)]) X hS hU sh_5_0 (by decide) rfl vl_X11_119 (c_X11_numberOf X.2.2.2.2.2.2.1 (k_uc_s _ _ _) hr42) rfl rfl rfl hl.1 ⟨Nat.le_of_ble_eq_true rfl, Nat.le_of_ble_eq_true rfl⟩ (Nat.le_of_ble_eq_true rfl) dX11_tears_42 ⟨Nat.zero_le _, Nat.zero_le _⟩) (fun H locs hU hS => ?_)
    refine lv_iload_n X.1 X.2.1 dX11_tears_45 rfl (lv_at hl 0 rfl) ?_
    obtain ⟨r46, hr46, hf⟩ := k_bdE hf
    refine k_backv X hS (k_runV (As := [.int 1, .int r42, .int x23]) (rest := []) X hS hU sh_5_0 (by decide) rfl vl_X11_82 (c_X11_tells X.2.2.2.2.2.2.1 (k_uc_s _ _ _) hr46) rfl rfl rfl hl.1 ⟨Nat.le_of_ble_eq_true rfl, Nat.le_of_ble_eq_true rfl⟩ (Nat.le_of_ble_eq_true rfl) dX11_tears_46 ⟨Nat.zero_le _, Nat.zero_le _⟩) (fun H locs hU hS => ?_)
    rw [k_uc_uc] at hU
    exact J49 _ _ _ r46 a1 r2 hU hS (lv_sub hl [2, 3, 1] rfl) hf
def rm_X11_firstSpot : Room := { frames := 1, cells := 0, slots := 0, locals := 22 }
set_option maxRecDepth 100000 in
set_option maxHeartbeats 4000000 in
theorem c_X11_firstSpot {l : Launch} {D : va_G} {G : Nat → ClassId} {ad : Nat → Nat → Nat} {u : k_U} (hI : k_ok ad) {w : k_M} (hw : u 5 = w) {a1 : Int32} {sz : Nat} {r : Int32} (hf : f_X11_firstSpot w a1 = some r) : Met l yX11_firstSpot (.code yX11_firstSpot cX11_firstSpot 3 (some .int) :: lw_g) rm_X11_firstSpot (k_Pre D G ad u sz [.ref (ad 5 0), .int a1]) (k_Qi D G ad u r sz) 0 0 (k_A ad sz) := by
  refine k_ofW (by decide +kernel) hI (Nat.le_of_ble_eq_true rfl) ?_
  intro p e s m args below meth c X hr hlk hU hS ls hl
  have hl : lv_has ls 3 [(0, .ref (ad 5 0)), (1, .int a1)] := hl
  have hU : k_Uv D G ad (k_uc u 5 w) s.heap := by rw [← hw, k_uc_id]; exact hU
  have L2 : ∀ (n2 : Nat) (H : Heap) (locs : List Loc) (ls : Array Slot) (a1 : Int32) (a2 : Int32), k_Uv D G ad (k_uc u 5 w) H → va_S (k_A ad sz) s.heap H locs → lv_has ls 3 [(0, .ref (ad 5 0)), (1, .int a1), (2, .int a2)] → f_X11_firstSpot_2 n2 w a1 a2 = some r → W p l e rm_X11_firstSpot s m args below meth c H locs 0 0 (MQ below (k_Qi D G ad u r sz) args s 0 0 (k_A ad sz)) (F0 m 2 ls []) := by
    intro n2
    induction n2 with
    | zero =>
      intro H locs ls a1 a2 hU hS hl hf
      cases (show none = some r from hf)
    | succ n2 ih2 =>
      intro H locs ls a1 a2 hU hS hl hf
      replace hf : f_X11_firstSpot_2_b (f_X11_firstSpot_2 n2) w a1 a2 = some r := hf
      unfold f_X11_firstSpot_2_b at hf
      refine lv_iload_n X.1 X.2.1 dX11_firstSpot_2 rfl (lv_at hl 2 rfl) ?_
      refine lv_aload_n X.1 X.2.1 dX11_firstSpot_3 rfl (lv_at hl 0 rfl) ?_
      refine k_getw (v := .ref (ad 5 1)) X hU sh_5_0 fl_X11_7 rfl dX11_firstSpot_4 ?_
      refine lv_bipush (v := 12) X.1 X.2.1 dX11_firstSpot_7 (by decide) ?_
      refine k_ildw (j0 := 12) X hU sh_5_1 (k_vin (N := 268) (by decide) (by decide)) (by decide) dX11_firstSpot_9 ?_
      refine lv_icmp_ge (tgt := 52) X.1 X.2.1 dX11_firstSpot_10 (by decide) (fun c10 => ?_) (fun c10 => ?_)
      · replace hf := k_ifP hf c10
        refine lv_iconst (v := (-1)) X.1 X.2.1 dX11_firstSpot_52 (by decide) ?_
        rw [← hw, k_uc_id] at hU
        have hz := Option.some.inj hf
        subst hz
        exact k_iret (v := (-1)) X hU hS hr hlk rfl rfl dX11_firstSpot_53
      · replace hf := k_ifN hf c10
        refine lv_iload_n X.1 X.2.1 dX11_firstSpot_13 rfl (lv_at hl 1 rfl) ?_
        refine lv_aload_n X.1 X.2.1 dX11_firstSpot_14 rfl (lv_at hl 0 rfl) ?_
        refine k_getw (v := .ref (ad 5 1)) X hU sh_5_0 fl_X11_7 rfl dX11_firstSpot_15 ?_
        refine lv_bipush (v := 124) X.1 X.2.1 dX11_firstSpot_18 (by decide) ?_
        refine lv_iconst (v := 3) X.1 X.2.1 dX11_firstSpot_20 (by decide) ?_
        refine lv_iload_n X.1 X.2.1 dX11_firstSpot_21 rfl (lv_at hl 2 rfl) ?_
        refine lv_imul X.1 X.2.1 dX11_firstSpot_22 ?_
        refine lv_iadd X.1 X.2.1 dX11_firstSpot_23 ?_
        obtain ⟨hi24, hf⟩ := k_ckE hf
        refine k_ildw (j0 := (124 + (3 * a2)).toNatClampNeg) X hU sh_5_1 (k_vin (n := 268) hi24 (by decide)) rfl dX11_firstSpot_24 ?_
        refine lv_aload_n X.1 X.2.1 dX11_firstSpot_25 rfl (lv_at hl 0 rfl) ?_
        refine k_getw (v := .ref (ad 5 1)) X hU sh_5_0 fl_X11_7 rfl dX11_firstSpot_26 ?_
        refine lv_bipush (v := 124) X.1 X.2.1 dX11_firstSpot_29 (by decide) ?_
        refine lv_iconst (v := 3) X.1 X.2.1 dX11_firstSpot_31 (by decide) ?_
        refine lv_iload_n X.1 X.2.1 dX11_firstSpot_32 rfl (lv_at hl 2 rfl) ?_
        refine lv_imul X.1 X.2.1 dX11_firstSpot_33 ?_
        refine lv_iadd X.1 X.2.1 dX11_firstSpot_34 ?_
        refine lv_iconst (v := 1) X.1 X.2.1 dX11_firstSpot_35 (by decide) ?_
        refine lv_iadd X.1 X.2.1 dX11_firstSpot_36 ?_
        obtain ⟨hi37, hf⟩ := k_ckE hf
        refine k_ildw (j0 := ((124 + (3 * a2)) + 1).toNatClampNeg) X hU sh_5_1 (k_vin (n := 268) hi37 (by decide)) rfl dX11_firstSpot_37 ?_
        obtain ⟨r38, hr38, hf⟩ := k_bdE hf
        refine k_backi X hS (k_runS (As := [.int a1, .int (w 1 ((124 + (3 * a2)).toNatClampNeg)), .int (w 1 (((124 + (3 * a2)) + 1).toNatClampNeg))]) (rest := []) X hS hU sl_X11_57 (c_X11_within X.2.2.2.2.2.2.1 hr38) rfl rfl rfl hl.1 ⟨Nat.le_of_ble_eq_true rfl, Nat.le_of_ble_eq_true rfl⟩ (Nat.le_of_ble_eq_true rfl) dX11_firstSpot_38 ⟨Nat.zero_le _, Nat.zero_le _⟩) (fun H locs hU hS => ?_)
        refine lv_if_eq (tgt := 46) X.1 X.2.1 dX11_firstSpot_41 (by decide) (fun c41 => ?_) (fun c41 => ?_)
        · replace hf := k_ifP hf c41
          obtain ⟨x46, e46, hf⟩ := k_ltE hf
          refine lv_iinc (v := x46) (lv' := [(2, .int x46), (0, .ref (ad 5 0)), (1, .int a1)]) X.1 X.2.1 dX11_firstSpot_46 hl (k := 2) rfl (by rw [e46]; rfl) (by decide) rfl (fun ls hl => ?_)
          refine lv_goto (tgt := 2) X.1 X.2.1 dX11_firstSpot_49 (by decide) ?_
          exact ih2 _ _ _ a1 x46 hU hS (lv_sub hl [1, 2, 0] rfl) hf
        · replace hf := k_ifN hf c41
          refine lv_iload_n X.1 X.2.1 dX11_firstSpot_44 rfl (lv_at hl 2 rfl) ?_
          rw [← hw, k_uc_id] at hU
          have hz := Option.some.inj hf
          subst hz
          exact k_iret (v := a2) X hU hS hr hlk rfl rfl dX11_firstSpot_45
  unfold f_X11_firstSpot at hf
  refine lv_iconst (v := 0) X.1 X.2.1 dX11_firstSpot_0 (by decide) ?_
  refine lv_istore_n (lv' := [(2, .int 0), (0, .ref (ad 5 0)), (1, .int a1)]) X.1 X.2.1 dX11_firstSpot_1 rfl hl (by decide) rfl (fun ls hl => ?_)
  exact L2 k_N _ _ _ a1 0 hU hS (lv_sub hl [1, 2, 0] rfl) hf
def rm_X11_result : Room := { frames := 2, cells := 0, slots := 0, locals := 44 }
set_option maxRecDepth 100000 in
set_option maxHeartbeats 4000000 in
theorem c_X11_result {l : Launch} {D : va_G} {G : Nat → ClassId} {ad : Nat → Nat → Nat} {u : k_U} (hI : k_ok ad) {w : k_M} (hw : u 5 = w) {sz : Nat} {r : Int32} (hf : f_X11_result w = some r) : Met l yX11_result (.code yX11_result cX11_result 2 (some .int) :: lw_g) rm_X11_result (k_Pre D G ad u sz [.ref (ad 5 0)]) (k_Qi D G ad u r sz) 0 0 (k_A ad sz) := by
  refine k_ofW (by decide +kernel) hI (Nat.le_of_ble_eq_true rfl) ?_
  intro p e s m args below meth c X hr hlk hU hS ls hl
  have hl : lv_has ls 2 [(0, .ref (ad 5 0))] := hl
  have hU : k_Uv D G ad (k_uc u 5 w) s.heap := by rw [← hw, k_uc_id]; exact hU
  unfold f_X11_result at hf
  refine lv_aload_n X.1 X.2.1 dX11_result_0 rfl (lv_at hl 0 rfl) ?_
  refine k_getw (v := .ref (ad 5 1)) X hU sh_5_0 fl_X11_7 rfl dX11_result_1 ?_
  refine lv_iconst (v := 0) X.1 X.2.1 dX11_result_4 (by decide) ?_
  refine k_ildw (j0 := 0) X hU sh_5_1 (k_vin (N := 268) (by decide) (by decide)) (by decide) dX11_result_5 ?_
  refine lv_if_le (tgt := 11) X.1 X.2.1 dX11_result_6 (by decide) (fun c6 => ?_) (fun c6 => ?_)
  · replace hf := k_ifP hf c6
    refine lv_aload_n X.1 X.2.1 dX11_result_11 rfl (lv_at hl 0 rfl) ?_
    refine lv_aload_n X.1 X.2.1 dX11_result_12 rfl (lv_at hl 0 rfl) ?_
    refine k_getw (v := .ref (ad 5 1)) X hU sh_5_0 fl_X11_7 rfl dX11_result_13 ?_
    refine lv_iconst (v := 2) X.1 X.2.1 dX11_result_16 (by decide) ?_
    refine k_ildw (j0 := 2) X hU sh_5_1 (k_vin (N := 268) (by decide) (by decide)) (by decide) dX11_result_17 ?_
    obtain ⟨r18, hr18, hf⟩ := k_bdE hf
    refine k_backi X hS (k_runV (As := [.int (w 1 2)]) (rest := []) X hS hU sh_5_0 (by decide) rfl vl_X11_122 (c_X11_firstSpot X.2.2.2.2.2.2.1 (k_uc_s _ _ _) hr18) rfl rfl rfl hl.1 ⟨Nat.le_of_ble_eq_true rfl, Nat.le_of_ble_eq_true rfl⟩ (Nat.le_of_ble_eq_true rfl) dX11_result_18 ⟨Nat.zero_le _, Nat.zero_le _⟩) (fun H locs hU hS => ?_)
    refine lv_istore_n (lv' := [(1, .int r18), (0, .ref (ad 5 0))]) X.1 X.2.1 dX11_result_21 rfl hl (by decide) rfl (fun ls hl => ?_)
    refine lv_iload_n X.1 X.2.1 dX11_result_22 rfl (lv_at hl 0 rfl) ?_
    refine lv_iconst (v := (-1)) X.1 X.2.1 dX11_result_23 (by decide) ?_
    refine lv_icmp_ne (tgt := 31) X.1 X.2.1 dX11_result_24 (by decide) (fun c24 => ?_) (fun c24 => ?_)
    · replace hf := k_ifN hf c24
      refine lv_aload_n X.1 X.2.1 dX11_result_31 rfl (lv_at hl 1 rfl) ?_
      refine k_getw (v := .ref (ad 5 1)) X hU sh_5_0 fl_X11_7 rfl dX11_result_32 ?_
      refine lv_iconst (v := 1) X.1 X.2.1 dX11_result_35 (by decide) ?_
      refine k_ildw (j0 := 1) X hU sh_5_1 (k_vin (N := 268) (by decide) (by decide)) (by decide) dX11_result_36 ?_
      refine lv_aload_n X.1 X.2.1 dX11_result_37 rfl (lv_at hl 1 rfl) ?_
      refine k_getw (v := .ref (ad 5 1)) X hU sh_5_0 fl_X11_7 rfl dX11_result_38 ?_
      refine lv_bipush (v := 124) X.1 X.2.1 dX11_result_41 (by decide) ?_
      refine lv_iconst (v := 3) X.1 X.2.1 dX11_result_43 (by decide) ?_
      refine lv_iload_n X.1 X.2.1 dX11_result_44 rfl (lv_at hl 0 rfl) ?_
      refine lv_imul X.1 X.2.1 dX11_result_45 ?_
      refine lv_iadd X.1 X.2.1 dX11_result_46 ?_
      refine lv_iconst (v := 2) X.1 X.2.1 dX11_result_47 (by decide) ?_
      refine lv_iadd X.1 X.2.1 dX11_result_48 ?_
      obtain ⟨hi49, hf⟩ := k_ckE hf
      refine k_ildw (j0 := ((124 + (3 * r18)) + 2).toNatClampNeg) X hU sh_5_1 (k_vin (n := 268) hi49 (by decide)) rfl dX11_result_49 ?_
      refine lv_icmp_gt (tgt := 57) X.1 X.2.1 dX11_result_50 (by decide) (fun c50 => ?_) (fun c50 => ?_)
      · replace hf := k_ifP hf c50
        refine lv_iconst (v := 2) X.1 X.2.1 dX11_result_57 (by decide) ?_
        rw [← hw, k_uc_id] at hU
        have hz := Option.some.inj hf
        subst hz
        exact k_iret (v := 2) X hU hS hr hlk rfl rfl dX11_result_58
      · replace hf := k_ifN hf c50
        refine lv_iconst (v := 1) X.1 X.2.1 dX11_result_53 (by decide) ?_
        refine lv_goto (tgt := 58) X.1 X.2.1 dX11_result_54 (by decide) ?_
        rw [← hw, k_uc_id] at hU
        have hz := Option.some.inj hf
        subst hz
        exact k_iret (v := 1) X hU hS hr hlk rfl rfl dX11_result_58
    · replace hf := k_ifP hf c24
      refine lv_iconst (v := 3) X.1 X.2.1 dX11_result_27 (by decide) ?_
      refine lv_goto (tgt := 58) X.1 X.2.1 dX11_result_28 (by decide) ?_
      rw [← hw, k_uc_id] at hU
      have hz := Option.some.inj hf
      subst hz
      exact k_iret (v := 3) X hU hS hr hlk rfl rfl dX11_result_58
  · replace hf := k_ifN hf c6
    refine lv_iconst (v := 0) X.1 X.2.1 dX11_result_9 (by decide) ?_
    rw [← hw, k_uc_id] at hU
    have hz := Option.some.inj hf
    subst hz
    exact k_iret (v := 0) X hU hS hr hlk rfl rfl dX11_result_10
def rm_X11_brakes : Room := { frames := 3, cells := 0, slots := 0, locals := 62 }
set_option maxRecDepth 100000 in
set_option maxHeartbeats 4000000 in
theorem c_X11_brakes {l : Launch} {D : va_G} {G : Nat → ClassId} {ad : Nat → Nat → Nat} {u : k_U} (hI : k_ok ad) {w : k_M} (hw : u 5 = w) {sz : Nat} {r : k_M} (hf : f_X11_brakes w = some r) : Met l yX11_brakes (.code yX11_brakes cX11_brakes 2 none :: lw_g) rm_X11_brakes (k_Pre D G ad u sz [.ref (ad 5 0)]) (k_Qv D G ad (k_uc u 5 r) sz) 0 0 (k_A ad sz) := by
  refine k_ofW (by decide +kernel) hI (Nat.le_of_ble_eq_true rfl) ?_
  intro p e s m args below meth c X hr hlk hU hS ls hl
  have hl : lv_has ls 2 [(0, .ref (ad 5 0))] := hl
  have hU : k_Uv D G ad (k_uc u 5 w) s.heap := by rw [← hw, k_uc_id]; exact hU
  unfold f_X11_brakes at hf
  refine lv_aload_n X.1 X.2.1 dX11_brakes_0 rfl (lv_at hl 0 rfl) ?_
  obtain ⟨r1, hr1, hf⟩ := k_bdE hf
  refine k_backi X hS (k_runV (As := []) (rest := []) X hS hU sh_5_0 (by decide) rfl vl_X11_75 (c_X11_firstThatMay X.2.2.2.2.2.2.1 (k_uc_s _ _ _) hr1) rfl rfl rfl hl.1 ⟨Nat.le_of_ble_eq_true rfl, Nat.le_of_ble_eq_true rfl⟩ (Nat.le_of_ble_eq_true rfl) dX11_brakes_1 ⟨Nat.zero_le _, Nat.zero_le _⟩) (fun H locs hU hS => ?_)
  refine lv_istore_n (lv' := [(1, .int r1), (0, .ref (ad 5 0))]) X.1 X.2.1 dX11_brakes_4 rfl hl (by decide) rfl (fun ls hl => ?_)
  refine lv_iload_n X.1 X.2.1 dX11_brakes_5 rfl (lv_at hl 0 rfl) ?_
  refine lv_iconst (v := (-1)) X.1 X.2.1 dX11_brakes_6 (by decide) ?_
  refine lv_icmp_eq (tgt := 18) X.1 X.2.1 dX11_brakes_7 (by decide) (fun c7 => ?_) (fun c7 => ?_)
  · replace hf := k_ifP hf c7
    refine lv_aload_n X.1 X.2.1 dX11_brakes_18 rfl (lv_at hl 1 rfl) ?_
    obtain ⟨r19, hr19, hf⟩ := k_bdE hf
    refine k_backi X hS (k_runV (As := []) (rest := []) X hS hU sh_5_0 (by decide) rfl vl_X11_129 (c_X11_reserveMay X.2.2.2.2.2.2.1 (k_uc_s _ _ _) hr19) rfl rfl rfl hl.1 ⟨Nat.le_of_ble_eq_true rfl, Nat.le_of_ble_eq_true rfl⟩ (Nat.le_of_ble_eq_true rfl) dX11_brakes_19 ⟨Nat.zero_le _, Nat.zero_le _⟩) (fun H locs hU hS => ?_)
    refine lv_if_eq (tgt := 29) X.1 X.2.1 dX11_brakes_22 (by decide) (fun c22 => ?_) (fun c22 => ?_)
    · replace hf := k_ifP hf c22
      have hz := Option.some.inj hf
      subst hz
      exact k_vret X hU hS hr hlk dX11_brakes_29
    · replace hf := k_ifN hf c22
      refine lv_aload_n X.1 X.2.1 dX11_brakes_25 rfl (lv_at hl 1 rfl) ?_
      obtain ⟨r26, hr26, hf⟩ := k_bdE hf
      refine k_backv X hS (k_runV (As := []) (rest := []) X hS hU sh_5_0 (by decide) rfl vl_X11_133 (c_X11_opensReserve X.2.2.2.2.2.2.1 (k_uc_s _ _ _) hr26) rfl rfl rfl hl.1 ⟨Nat.le_of_ble_eq_true rfl, Nat.le_of_ble_eq_true rfl⟩ (Nat.le_of_ble_eq_true rfl) dX11_brakes_26 ⟨Nat.zero_le _, Nat.zero_le _⟩) (fun H locs hU hS => ?_)
      rw [k_uc_uc] at hU
      have hz := Option.some.inj hf
      subst hz
      exact k_vret X hU hS hr hlk dX11_brakes_29
  · replace hf := k_ifN hf c7
    refine lv_aload_n X.1 X.2.1 dX11_brakes_10 rfl (lv_at hl 1 rfl) ?_
    refine lv_iload_n X.1 X.2.1 dX11_brakes_11 rfl (lv_at hl 0 rfl) ?_
    obtain ⟨r12, hr12, hf⟩ := k_bdE hf
    refine k_backv X hS (k_runV (As := [.int r1]) (rest := []) X hS hU sh_5_0 (by decide) rfl vl_X11_125 (c_X11_opens X.2.2.2.2.2.2.1 (k_uc_s _ _ _) hr12) rfl rfl rfl hl.1 ⟨Nat.le_of_ble_eq_true rfl, Nat.le_of_ble_eq_true rfl⟩ (Nat.le_of_ble_eq_true rfl) dX11_brakes_12 ⟨Nat.zero_le _, Nat.zero_le _⟩) (fun H locs hU hS => ?_)
    rw [k_uc_uc] at hU
    refine lv_goto (tgt := 29) X.1 X.2.1 dX11_brakes_15 (by decide) ?_
    have hz := Option.some.inj hf
    subst hz
    exact k_vret X hU hS hr hlk dX11_brakes_29
def rm_X11_second : Room := { frames := 5, cells := 0, slots := 0, locals := 115 }
set_option maxRecDepth 100000 in
set_option maxHeartbeats 4000000 in
theorem c_X11_second {l : Launch} {D : va_G} {G : Nat → ClassId} {ad : Nat → Nat → Nat} {u : k_U} (hI : k_ok ad) {w : k_M} (hw : u 5 = w) {sz : Nat} {r : k_M} (hf : f_X11_second w = some r) : Met l yX11_second (.code yX11_second cX11_second 9 none :: lw_g) rm_X11_second (k_Pre D G ad u sz [.ref (ad 5 0)]) (k_Qv D G ad (k_uc u 5 r) sz) 0 0 (k_A ad sz) := by
  refine k_ofW (by decide +kernel) hI (Nat.le_of_ble_eq_true rfl) ?_
  intro p e s m args below meth c X hr hlk hU hS ls hl
  have hl : lv_has ls 9 [(0, .ref (ad 5 0))] := hl
  have hU : k_Uv D G ad (k_uc u 5 w) s.heap := by rw [← hw, k_uc_id]; exact hU
  have J339 : ∀ (H : Heap) (locs : List Loc) (ls : Array Slot) (w : k_M), k_Uv D G ad (k_uc u 5 w) H → va_S (k_A ad sz) s.heap H locs → lv_has ls 9 [(0, .ref (ad 5 0))] → f_X11_second_339 w = some r → W p l e rm_X11_second s m args below meth c H locs 0 0 (MQ below (k_Qv D G ad (k_uc u 5 r) sz) args s 0 0 (k_A ad sz)) (F0 m 339 ls []) := by
    intro H locs ls w hU hS hl hf
    unfold f_X11_second_339 at hf
    refine lv_aload_n X.1 X.2.1 dX11_second_339 rfl (lv_at hl 0 rfl) ?_
    refine k_getw (v := .ref (ad 5 1)) X hU sh_5_0 fl_X11_7 rfl dX11_second_340 ?_
    refine lv_bipush (v := 6) X.1 X.2.1 dX11_second_343 (by decide) ?_
    refine lv_dup2_11 X.1 X.2.1 dX11_second_345 rfl rfl ?_
    refine k_ildw (j0 := 6) X hU sh_5_1 (k_vin (N := 268) (by decide) (by decide)) (by decide) dX11_second_346 ?_
    refine lv_iconst (v := 1) X.1 X.2.1 dX11_second_347 (by decide) ?_
    refine lv_iadd X.1 X.2.1 dX11_second_348 ?_
    obtain ⟨w349, e349, hf⟩ := k_ltE hf
    refine k_istw X hU hS sh_5_1 e349 (k_vin (N := 268) (by decide) (by decide)) (by decide) dX11_second_349 (fun H locs hU hS => ?_)
    have hz := Option.some.inj hf
    subst hz
    exact k_vret X hU hS hr hlk dX11_second_350
  have J279 : ∀ (H : Heap) (locs : List Loc) (ls : Array Slot) (w : k_M), k_Uv D G ad (k_uc u 5 w) H → va_S (k_A ad sz) s.heap H locs → lv_has ls 9 [(0, .ref (ad 5 0))] → f_X11_second_279 w = some r → W p l e rm_X11_second s m args below meth c H locs 0 0 (MQ below (k_Qv D G ad (k_uc u 5 r) sz) args s 0 0 (k_A ad sz)) (F0 m 279 ls []) := by
    intro H locs ls w hU hS hl hf
    unfold f_X11_second_279 at hf
    refine lv_aload_n X.1 X.2.1 dX11_second_279 rfl (lv_at hl 0 rfl) ?_
    refine k_getw (v := .ref (ad 5 1)) X hU sh_5_0 fl_X11_7 rfl dX11_second_280 ?_
    refine lv_iconst (v := 0) X.1 X.2.1 dX11_second_283 (by decide) ?_
    refine k_ildw (j0 := 0) X hU sh_5_1 (k_vin (N := 268) (by decide) (by decide)) (by decide) dX11_second_284 ?_
    refine lv_aload_n X.1 X.2.1 dX11_second_285 rfl (lv_at hl 0 rfl) ?_
    refine k_getw (v := .ref (ad 5 1)) X hU sh_5_0 fl_X11_7 rfl dX11_second_286 ?_
    refine lv_iconst (v := 1) X.1 X.2.1 dX11_second_289 (by decide) ?_
    refine k_ildw (j0 := 1) X hU sh_5_1 (k_vin (N := 268) (by decide) (by decide)) (by decide) dX11_second_290 ?_
    refine k_mini_r X (mX11_158) hl.1 (Nat.le_of_ble_eq_true rfl) (Nat.le_of_ble_eq_true rfl) ⟨Nat.zero_le _, Nat.zero_le _⟩ dX11_second_291 ?_
    obtain ⟨x294, e294, hf⟩ := k_ltE hf
    refine k_nmi e294 ?_
    refine lv_istore (lv' := [(8, .int x294), (0, .ref (ad 5 0))]) X.1 X.2.1 dX11_second_294 hl (by decide) rfl (fun ls hl => ?_)
    refine lv_aload_n X.1 X.2.1 dX11_second_296 rfl (lv_at hl 1 rfl) ?_
    refine k_getw (v := .ref (ad 5 1)) X hU sh_5_0 fl_X11_7 rfl dX11_second_297 ?_
    refine lv_iconst (v := 0) X.1 X.2.1 dX11_second_300 (by decide) ?_
    refine lv_dup2_11 X.1 X.2.1 dX11_second_301 rfl rfl ?_
    refine k_ildw (j0 := 0) X hU sh_5_1 (k_vin (N := 268) (by decide) (by decide)) (by decide) dX11_second_302 ?_
    refine lv_iload X.1 X.2.1 dX11_second_303 (lv_at hl 0 rfl) ?_
    refine lv_isub X.1 X.2.1 dX11_second_305 ?_
    obtain ⟨w306, e306, hf⟩ := k_ltE hf
    refine k_istw X hU hS sh_5_1 e306 (k_vin (N := 268) (by decide) (by decide)) (by decide) dX11_second_306 (fun H locs hU hS => ?_)
    refine lv_aload_n X.1 X.2.1 dX11_second_307 rfl (lv_at hl 1 rfl) ?_
    refine k_getw (v := .ref (ad 5 1)) X hU sh_5_0 fl_X11_7 rfl dX11_second_308 ?_
    refine lv_bipush (v := 13) X.1 X.2.1 dX11_second_311 (by decide) ?_
    refine lv_dup2_11 X.1 X.2.1 dX11_second_313 rfl rfl ?_
    refine k_ildw (j0 := 13) X hU sh_5_1 (k_vin (N := 268) (by decide) (by decide)) (by decide) dX11_second_314 ?_
    refine lv_iload X.1 X.2.1 dX11_second_315 (lv_at hl 0 rfl) ?_
    refine lv_iadd X.1 X.2.1 dX11_second_317 ?_
    obtain ⟨w318, e318, hf⟩ := k_ltE hf
    refine k_istw X hU hS sh_5_1 e318 (k_vin (N := 268) (by decide) (by decide)) (by decide) dX11_second_318 (fun H locs hU hS => ?_)
    refine lv_aload_n X.1 X.2.1 dX11_second_319 rfl (lv_at hl 1 rfl) ?_
    refine k_getw (v := .ref (ad 5 1)) X hU sh_5_0 fl_X11_7 rfl dX11_second_320 ?_
    refine lv_iconst (v := 0) X.1 X.2.1 dX11_second_323 (by decide) ?_
    refine k_ildw (j0 := 0) X hU sh_5_1 (k_vin (N := 268) (by decide) (by decide)) (by decide) dX11_second_324 ?_
    refine lv_if_ne (tgt := 339) X.1 X.2.1 dX11_second_325 (by decide) (fun c325 => ?_) (fun c325 => ?_)
    · replace hf := k_ifN hf c325
      exact J339 _ _ _ w318 hU hS (lv_sub hl [1] rfl) hf
    · replace hf := k_ifP hf c325
      refine lv_aload_n X.1 X.2.1 dX11_second_328 rfl (lv_at hl 1 rfl) ?_
      refine lv_bipush (v := 6) X.1 X.2.1 dX11_second_329 (by decide) ?_
      refine lv_iconst (v := (-1)) X.1 X.2.1 dX11_second_331 (by decide) ?_
      refine lv_aload_n X.1 X.2.1 dX11_second_332 rfl (lv_at hl 1 rfl) ?_
      obtain ⟨r333, hr333, hf⟩ := k_bdE hf
      refine k_backi X hS (k_runV (As := []) (rest := [.int (-1), .int 6, .ref (ad 5 0)]) X hS hU sh_5_0 (by decide) rfl vl_X11_164 (c_X11_result X.2.2.2.2.2.2.1 (k_uc_s _ _ _) hr333) rfl rfl rfl hl.1 ⟨Nat.le_of_ble_eq_true rfl, Nat.le_of_ble_eq_true rfl⟩ (Nat.le_of_ble_eq_true rfl) dX11_second_333 ⟨Nat.zero_le _, Nat.zero_le _⟩) (fun H locs hU hS => ?_)
      obtain ⟨r336, hr336, hf⟩ := k_bdE hf
      refine k_backv X hS (k_runV (As := [.int 6, .int (-1), .int r333]) (rest := []) X hS hU sh_5_0 (by decide) rfl vl_X11_82 (c_X11_tells X.2.2.2.2.2.2.1 (k_uc_s _ _ _) hr336) rfl rfl rfl hl.1 ⟨Nat.le_of_ble_eq_true rfl, Nat.le_of_ble_eq_true rfl⟩ (Nat.le_of_ble_eq_true rfl) dX11_second_336 ⟨Nat.zero_le _, Nat.zero_le _⟩) (fun H locs hU hS => ?_)
      rw [k_uc_uc] at hU
      exact J339 _ _ _ r336 hU hS (lv_sub hl [1] rfl) hf
  have L54 : ∀ (n54 : Nat) (H : Heap) (locs : List Loc) (ls : Array Slot) (w : k_M) (a1 : Int32) (a2 : Int64) (a4 : Int32) (a5 : Int32), k_Uv D G ad (k_uc u 5 w) H → va_S (k_A ad sz) s.heap H locs → lv_has ls 9 [(0, .ref (ad 5 0)), (1, .int a1), (2, .long a2), (4, .int a4), (5, .int a5)] → f_X11_second_54 n54 w a1 a2 a4 a5 = some r → W p l e rm_X11_second s m args below meth c H locs 0 0 (MQ below (k_Qv D G ad (k_uc u 5 r) sz) args s 0 0 (k_A ad sz)) (F0 m 54 ls []) := by
    intro n54
    induction n54 with
    | zero =>
      intro H locs ls w a1 a2 a4 a5 hU hS hl hf
      cases (show none = some r from hf)
    | succ n54 ih54 =>
      have J125 : ∀ (H : Heap) (locs : List Loc) (ls : Array Slot) (w : k_M) (a1 : Int32) (a2 : Int64) (a4 : Int32) (a5 : Int32), k_Uv D G ad (k_uc u 5 w) H → va_S (k_A ad sz) s.heap H locs → lv_has ls 9 [(0, .ref (ad 5 0)), (1, .int a1), (2, .long a2), (4, .int a4), (5, .int a5)] → f_X11_second_125 (f_X11_second_54 n54) w a1 a2 a4 a5 = some r → W p l e rm_X11_second s m args below meth c H locs 0 0 (MQ below (k_Qv D G ad (k_uc u 5 r) sz) args s 0 0 (k_A ad sz)) (F0 m 125 ls []) := by
        intro H locs ls w a1 a2 a4 a5 hU hS hl hf
        unfold f_X11_second_125 at hf
        obtain ⟨x125, e125, hf⟩ := k_ltE hf
        refine lv_iinc (v := x125) (lv' := [(5, .int x125), (0, .ref (ad 5 0)), (1, .int a1), (2, .long a2), (4, .int a4)]) X.1 X.2.1 dX11_second_125 hl (k := 4) rfl (by rw [e125]; rfl) (by decide) rfl (fun ls hl => ?_)
        refine lv_goto (tgt := 54) X.1 X.2.1 dX11_second_128 (by decide) ?_
        exact ih54 _ _ _ w a1 a2 a4 x125 hU hS (lv_sub hl [1, 2, 3, 4, 0] rfl) hf
      have J90 : ∀ (H : Heap) (locs : List Loc) (ls : Array Slot) (w : k_M) (a1 : Int32) (a2 : Int64) (a4 : Int32) (a5 : Int32), k_Uv D G ad (k_uc u 5 w) H → va_S (k_A ad sz) s.heap H locs → lv_has ls 9 [(0, .ref (ad 5 0)), (1, .int a1), (2, .long a2), (4, .int a4), (5, .int a5)] → f_X11_second_90 (f_X11_second_54 n54) w a1 a2 a4 a5 = some r → W p l e rm_X11_second s m args below meth c H locs 0 0 (MQ below (k_Qv D G ad (k_uc u 5 r) sz) args s 0 0 (k_A ad sz)) (F0 m 90 ls []) := by
        intro H locs ls w a1 a2 a4 a5 hU hS hl hf
        unfold f_X11_second_90 at hf
        refine lv_aload_n X.1 X.2.1 dX11_second_90 rfl (lv_at hl 0 rfl) ?_
        refine lv_iload X.1 X.2.1 dX11_second_91 (lv_at hl 4 rfl) ?_
        obtain ⟨r93, hr93, hf⟩ := k_bdE hf
        refine k_backi X hS (k_runV (As := [.int a5]) (rest := []) X hS hU sh_5_0 (by decide) rfl vl_X11_65 (c_X11_isThere X.2.2.2.2.2.2.1 (k_uc_s _ _ _) hr93) rfl rfl rfl hl.1 ⟨Nat.le_of_ble_eq_true rfl, Nat.le_of_ble_eq_true rfl⟩ (Nat.le_of_ble_eq_true rfl) dX11_second_93 ⟨Nat.zero_le _, Nat.zero_le _⟩) (fun H locs hU hS => ?_)
        refine lv_if_eq (tgt := 125) X.1 X.2.1 dX11_second_96 (by decide) (fun c96 => ?_) (fun c96 => ?_)
        · replace hf := k_ifP hf c96
          exact J125 _ _ _ w a1 a2 a4 a5 hU hS (lv_sub hl [0, 1, 2, 3, 4] rfl) hf
        · replace hf := k_ifN hf c96
          refine lv_aload_n X.1 X.2.1 dX11_second_99 rfl (lv_at hl 0 rfl) ?_
          refine k_getw (v := .ref (ad 5 1)) X hU sh_5_0 fl_X11_7 rfl dX11_second_100 ?_
          refine lv_bipush (v := 65) X.1 X.2.1 dX11_second_103 (by decide) ?_
          refine lv_iload X.1 X.2.1 dX11_second_105 (lv_at hl 4 rfl) ?_
          refine lv_iadd X.1 X.2.1 dX11_second_107 ?_
          obtain ⟨hi108, hf⟩ := k_ckE hf
          refine k_ildw (j0 := (65 + a5).toNatClampNeg) X hU sh_5_1 (k_vin (n := 268) hi108 (by decide)) rfl dX11_second_108 ?_
          refine lv_iconst (v := 1) X.1 X.2.1 dX11_second_109 (by decide) ?_
          refine lv_icmp_ne (tgt := 125) X.1 X.2.1 dX11_second_110 (by decide) (fun c110 => ?_) (fun c110 => ?_)
          · replace hf := k_ifN hf c110
            exact J125 _ _ _ w a1 a2 a4 a5 hU hS (lv_sub hl [0, 1, 2, 3, 4] rfl) hf
          · replace hf := k_ifP hf c110
            refine lv_lload_n X.1 X.2.1 dX11_second_113 rfl (lv_at hl 2 rfl) ?_
            refine lv_aload_n X.1 X.2.1 dX11_second_114 rfl (lv_at hl 0 rfl) ?_
            refine lv_iload X.1 X.2.1 dX11_second_115 (lv_at hl 4 rfl) ?_
            obtain ⟨r117, hr117, hf⟩ := k_bdE hf
            refine k_backl X hS (k_runV (As := [.int a5]) (rest := [.long a2]) X hS hU sh_5_0 (by decide) rfl vl_X11_91 (c_X11_pull X.2.2.2.2.2.2.1 (k_uc_s _ _ _) hr117) rfl rfl rfl hl.1 ⟨Nat.le_of_ble_eq_true rfl, Nat.le_of_ble_eq_true rfl⟩ (Nat.le_of_ble_eq_true rfl) dX11_second_117 ⟨Nat.zero_le _, Nat.zero_le _⟩) (fun H locs hU hS => ?_)
            refine lv_ladd X.1 X.2.1 dX11_second_120 ?_
            obtain ⟨x121, e121, hf⟩ := k_ltE hf
            refine k_nml e121 ?_
            refine lv_lstore_n (lv' := [(2, .long x121), (0, .ref (ad 5 0)), (1, .int a1), (4, .int a4), (5, .int a5)]) X.1 X.2.1 dX11_second_121 rfl hl (by decide) rfl (fun ls hl => ?_)
            refine lv_iconst (v := 1) X.1 X.2.1 dX11_second_122 (by decide) ?_
            refine lv_istore (lv' := [(4, .int 1), (2, .long x121), (0, .ref (ad 5 0)), (1, .int a1), (5, .int a5)]) X.1 X.2.1 dX11_second_123 hl (by decide) rfl (fun ls hl => ?_)
            exact J125 _ _ _ w a1 x121 1 a5 hU hS (lv_sub hl [2, 3, 1, 0, 4] rfl) hf
      intro H locs ls w a1 a2 a4 a5 hU hS hl hf
      replace hf : f_X11_second_54_b (f_X11_second_54 n54) w a1 a2 a4 a5 = some r := hf
      unfold f_X11_second_54_b at hf
      refine lv_iload X.1 X.2.1 dX11_second_54 (lv_at hl 4 rfl) ?_
      refine lv_bipush (v := 9) X.1 X.2.1 dX11_second_56 (by decide) ?_
      refine lv_icmp_ge (tgt := 131) X.1 X.2.1 dX11_second_58 (by decide) (fun c58 => ?_) (fun c58 => ?_)
      · replace hf := k_ifP hf c58
        refine lv_aload_n X.1 X.2.1 dX11_second_131 rfl (lv_at hl 0 rfl) ?_
        refine k_getw (v := .ref (ad 5 1)) X hU sh_5_0 fl_X11_7 rfl dX11_second_132 ?_
        refine lv_iconst (v := 1) X.1 X.2.1 dX11_second_135 (by decide) ?_
        refine k_ildw (j0 := 1) X hU sh_5_1 (k_vin (N := 268) (by decide) (by decide)) (by decide) dX11_second_136 ?_
        refine lv_bipush (v := 10) X.1 X.2.1 dX11_second_137 (by decide) ?_
        refine lv_iadd X.1 X.2.1 dX11_second_139 ?_
        refine lv_i2l (v := ((w 1 1) + 10).toInt64) X.1 X.2.1 dX11_second_140 rfl ?_
        refine lv_lload_n X.1 X.2.1 dX11_second_141 rfl (lv_at hl 2 rfl) ?_
        refine lv_aload_n X.1 X.2.1 dX11_second_142 rfl (lv_at hl 0 rfl) ?_
        refine k_getw (v := .ref (ad 5 1)) X hU sh_5_0 fl_X11_7 rfl dX11_second_143 ?_
        refine lv_iconst (v := 3) X.1 X.2.1 dX11_second_146 (by decide) ?_
        refine k_ildw (j0 := 3) X hU sh_5_1 (k_vin (N := 268) (by decide) (by decide)) (by decide) dX11_second_147 ?_
        refine lv_i2l (v := (w 1 3).toInt64) X.1 X.2.1 dX11_second_148 rfl ?_
        obtain ⟨hi149, hf⟩ := k_ckE hf
        refine lv_ldiv X.1 X.2.1 dX11_second_149 hi149 ?_
        refine lv_lsub X.1 X.2.1 dX11_second_150 ?_
        obtain ⟨x151, e151, hf⟩ := k_ltE hf
        refine k_nml e151 ?_
        refine lv_lstore (lv' := [(5, .long x151), (0, .ref (ad 5 0)), (1, .int a1), (2, .long a2), (4, .int a4)]) X.1 X.2.1 dX11_second_151 hl (by decide) rfl (fun ls hl => ?_)
        refine lv_aload_n X.1 X.2.1 dX11_second_153 rfl (lv_at hl 1 rfl) ?_
        refine k_getw (v := .ref (ad 5 1)) X hU sh_5_0 fl_X11_7 rfl dX11_second_154 ?_
        refine lv_iconst (v := 1) X.1 X.2.1 dX11_second_157 (by decide) ?_
        refine lv_lconst (v := 1) X.1 X.2.1 dX11_second_158 (by decide) ?_
        refine lv_lload X.1 X.2.1 dX11_second_159 (lv_at hl 0 rfl) ?_
        refine lv_aload_n X.1 X.2.1 dX11_second_161 rfl (lv_at hl 1 rfl) ?_
        refine k_getw (v := .ref (ad 5 1)) X hU sh_5_0 fl_X11_7 rfl dX11_second_162 ?_
        refine lv_iconst (v := 1) X.1 X.2.1 dX11_second_165 (by decide) ?_
        refine k_ildw (j0 := 1) X hU sh_5_1 (k_vin (N := 268) (by decide) (by decide)) (by decide) dX11_second_166 ?_
        refine lv_iconst (v := 2) X.1 X.2.1 dX11_second_167 (by decide) ?_
        refine lv_idiv X.1 X.2.1 dX11_second_168 (by decide) ?_
        refine lv_i2l (v := ((w 1 1) / 2).toInt64) X.1 X.2.1 dX11_second_169 rfl ?_
        refine k_maxl_r X (mX11_147) hl.1 (Nat.le_of_ble_eq_true rfl) (Nat.le_of_ble_eq_true rfl) ⟨Nat.zero_le _, Nat.zero_le _⟩ dX11_second_170 ?_
        refine k_maxl_r X (mX11_147) hl.1 (Nat.le_of_ble_eq_true rfl) (Nat.le_of_ble_eq_true rfl) ⟨Nat.zero_le _, Nat.zero_le _⟩ dX11_second_173 ?_
        refine lv_l2i (v := (k_maxl (1 : Int64) (k_maxl x151 (((w 1 1) / 2).toInt64))).toInt32) X.1 X.2.1 dX11_second_176 rfl ?_
        obtain ⟨w177, e177, hf⟩ := k_ltE hf
        refine k_istw X hU hS sh_5_1 e177 (k_vin (N := 268) (by decide) (by decide)) (by decide) dX11_second_177 (fun H locs hU hS => ?_)
        refine lv_aload_n X.1 X.2.1 dX11_second_178 rfl (lv_at hl 1 rfl) ?_
        refine k_getw (v := .ref (ad 5 1)) X hU sh_5_0 fl_X11_7 rfl dX11_second_179 ?_
        refine lv_iconst (v := 1) X.1 X.2.1 dX11_second_182 (by decide) ?_
        refine k_ildw (j0 := 1) X hU sh_5_1 (k_vin (N := 268) (by decide) (by decide)) (by decide) dX11_second_183 ?_
        refine lv_i2l (v := (w177 1 1).toInt64) X.1 X.2.1 dX11_second_184 rfl ?_
        refine lv_aload_n X.1 X.2.1 dX11_second_185 rfl (lv_at hl 1 rfl) ?_
        refine k_getw (v := .ref (ad 5 1)) X hU sh_5_0 fl_X11_7 rfl dX11_second_186 ?_
        refine lv_iconst (v := 1) X.1 X.2.1 dX11_second_189 (by decide) ?_
        refine k_ildw (j0 := 1) X hU sh_5_1 (k_vin (N := 268) (by decide) (by decide)) (by decide) dX11_second_190 ?_
        refine lv_i2l (v := (w177 1 1).toInt64) X.1 X.2.1 dX11_second_191 rfl ?_
        refine lv_lmul X.1 X.2.1 dX11_second_192 ?_
        refine lv_iload_n X.1 X.2.1 dX11_second_193 rfl (lv_at hl 2 rfl) ?_
        refine lv_i2l (v := a1.toInt64) X.1 X.2.1 dX11_second_194 rfl ?_
        refine lv_lmul X.1 X.2.1 dX11_second_195 ?_
        refine lv_ldc2 (v := 100000) X.1 X.2.1 X.2.2.2.1 (X.2.2.2.2.1 _ t_1565) dX11_second_196 ?_
        refine lv_ldiv X.1 X.2.1 dX11_second_199 (by decide) ?_
        refine lv_l2i (v := (((((w177 1 1).toInt64) * ((w177 1 1).toInt64)) * a1.toInt64) / (100000 : Int64)).toInt32) X.1 X.2.1 dX11_second_200 rfl ?_
        obtain ⟨x201, e201, hf⟩ := k_ltE hf
        refine k_nmi e201 ?_
        refine lv_istore (lv' := [(7, .int x201), (5, .long x151), (0, .ref (ad 5 0)), (1, .int a1), (2, .long a2), (4, .int a4)]) X.1 X.2.1 dX11_second_201 hl (by decide) rfl (fun ls hl => ?_)
        refine lv_aload_n X.1 X.2.1 dX11_second_203 rfl (lv_at hl 2 rfl) ?_
        refine k_getw (v := .ref (ad 5 1)) X hU sh_5_0 fl_X11_7 rfl dX11_second_204 ?_
        refine lv_bipush (v := 14) X.1 X.2.1 dX11_second_207 (by decide) ?_
        refine lv_dup2_11 X.1 X.2.1 dX11_second_209 rfl rfl ?_
        refine k_ildw (j0 := 14) X hU sh_5_1 (k_vin (N := 268) (by decide) (by decide)) (by decide) dX11_second_210 ?_
        refine lv_iload X.1 X.2.1 dX11_second_211 (lv_at hl 0 rfl) ?_
        refine lv_iadd X.1 X.2.1 dX11_second_213 ?_
        obtain ⟨w214, e214, hf⟩ := k_ltE hf
        refine k_istw X hU hS sh_5_1 e214 (k_vin (N := 268) (by decide) (by decide)) (by decide) dX11_second_214 (fun H locs hU hS => ?_)
        refine lv_aload_n X.1 X.2.1 dX11_second_215 rfl (lv_at hl 2 rfl) ?_
        refine k_getw (v := .ref (ad 5 1)) X hU sh_5_0 fl_X11_7 rfl dX11_second_216 ?_
        refine lv_iconst (v := 4) X.1 X.2.1 dX11_second_219 (by decide) ?_
        refine lv_sipush (v := 999) X.1 X.2.1 dX11_second_220 (by decide) ?_
        refine lv_iconst (v := 0) X.1 X.2.1 dX11_second_223 (by decide) ?_
        refine lv_aload_n X.1 X.2.1 dX11_second_224 rfl (lv_at hl 2 rfl) ?_
        refine k_getw (v := .ref (ad 5 1)) X hU sh_5_0 fl_X11_7 rfl dX11_second_225 ?_
        refine lv_iconst (v := 4) X.1 X.2.1 dX11_second_228 (by decide) ?_
        refine k_ildw (j0 := 4) X hU sh_5_1 (k_vin (N := 268) (by decide) (by decide)) (by decide) dX11_second_229 ?_
        refine lv_iload X.1 X.2.1 dX11_second_230 (lv_at hl 0 rfl) ?_
        refine lv_iadd X.1 X.2.1 dX11_second_232 ?_
        refine lv_aload_n X.1 X.2.1 dX11_second_233 rfl (lv_at hl 2 rfl) ?_
        refine k_getw (v := .ref (ad 5 1)) X hU sh_5_0 fl_X11_7 rfl dX11_second_234 ?_
        refine lv_bipush (v := 7) X.1 X.2.1 dX11_second_237 (by decide) ?_
        refine k_ildw (j0 := 7) X hU sh_5_1 (k_vin (N := 268) (by decide) (by decide)) (by decide) dX11_second_239 ?_
        refine lv_isub X.1 X.2.1 dX11_second_240 ?_
        refine k_maxi_r X (mX11_155) hl.1 (Nat.le_of_ble_eq_true rfl) (Nat.le_of_ble_eq_true rfl) ⟨Nat.zero_le _, Nat.zero_le _⟩ dX11_second_241 ?_
        refine k_mini_r X (mX11_158) hl.1 (Nat.le_of_ble_eq_true rfl) (Nat.le_of_ble_eq_true rfl) ⟨Nat.zero_le _, Nat.zero_le _⟩ dX11_second_244 ?_
        obtain ⟨w247, e247, hf⟩ := k_ltE hf
        refine k_istw X hU hS sh_5_1 e247 (k_vin (N := 268) (by decide) (by decide)) (by decide) dX11_second_247 (fun H locs hU hS => ?_)
        refine lv_iload X.1 X.2.1 dX11_second_248 (lv_at hl 5 rfl) ?_
        refine lv_if_eq (tgt := 279) X.1 X.2.1 dX11_second_250 (by decide) (fun c250 => ?_) (fun c250 => ?_)
        · replace hf := k_ifP hf c250
          exact J279 _ _ _ w247 hU hS (lv_sub hl [2] rfl) hf
        · replace hf := k_ifN hf c250
          refine lv_aload_n X.1 X.2.1 dX11_second_253 rfl (lv_at hl 2 rfl) ?_
          refine k_getw (v := .ref (ad 5 1)) X hU sh_5_0 fl_X11_7 rfl dX11_second_254 ?_
          refine lv_iconst (v := 2) X.1 X.2.1 dX11_second_257 (by decide) ?_
          refine lv_dup2_11 X.1 X.2.1 dX11_second_258 rfl rfl ?_
          refine k_ildw (j0 := 2) X hU sh_5_1 (k_vin (N := 268) (by decide) (by decide)) (by decide) dX11_second_259 ?_
          refine lv_aload_n X.1 X.2.1 dX11_second_260 rfl (lv_at hl 2 rfl) ?_
          refine lv_aload_n X.1 X.2.1 dX11_second_261 rfl (lv_at hl 2 rfl) ?_
          refine k_getw (v := .ref (ad 5 1)) X hU sh_5_0 fl_X11_7 rfl dX11_second_262 ?_
          refine lv_iconst (v := 0) X.1 X.2.1 dX11_second_265 (by decide) ?_
          refine k_ildw (j0 := 0) X hU sh_5_1 (k_vin (N := 268) (by decide) (by decide)) (by decide) dX11_second_266 ?_
          obtain ⟨r267, hr267, hf⟩ := k_bdE hf
          refine k_backi X hS (k_runV (As := [.int (w247 1 0)]) (rest := [.int (w247 1 2), .int 2, .ref (ad 5 1)]) X hS hU sh_5_0 (by decide) rfl vl_X11_161 (c_X11_windFor X.2.2.2.2.2.2.1 (k_uc_s _ _ _) hr267) rfl rfl rfl hl.1 ⟨Nat.le_of_ble_eq_true rfl, Nat.le_of_ble_eq_true rfl⟩ (Nat.le_of_ble_eq_true rfl) dX11_second_267 ⟨Nat.zero_le _, Nat.zero_le _⟩) (fun H locs hU hS => ?_)
          refine lv_aload_n X.1 X.2.1 dX11_second_270 rfl (lv_at hl 2 rfl) ?_
          refine k_getw (v := .ref (ad 5 1)) X hU sh_5_0 fl_X11_7 rfl dX11_second_271 ?_
          refine lv_iconst (v := 5) X.1 X.2.1 dX11_second_274 (by decide) ?_
          refine k_ildw (j0 := 5) X hU sh_5_1 (k_vin (N := 268) (by decide) (by decide)) (by decide) dX11_second_275 ?_
          refine lv_iadd X.1 X.2.1 dX11_second_276 ?_
          refine lv_iadd X.1 X.2.1 dX11_second_277 ?_
          obtain ⟨w278, e278, hf⟩ := k_ltE hf
          refine k_istw X hU hS sh_5_1 e278 (k_vin (N := 268) (by decide) (by decide)) (by decide) dX11_second_278 (fun H locs hU hS => ?_)
          exact J279 _ _ _ w278 hU hS (lv_sub hl [2] rfl) hf
      · replace hf := k_ifN hf c58
        refine lv_aload_n X.1 X.2.1 dX11_second_61 rfl (lv_at hl 0 rfl) ?_
        refine lv_iload X.1 X.2.1 dX11_second_62 (lv_at hl 4 rfl) ?_
        obtain ⟨r64, hr64, hf⟩ := k_bdE hf
        refine k_backi X hS (k_runV (As := [.int a5]) (rest := []) X hS hU sh_5_0 (by decide) rfl vl_X11_65 (c_X11_isThere X.2.2.2.2.2.2.1 (k_uc_s _ _ _) hr64) rfl rfl rfl hl.1 ⟨Nat.le_of_ble_eq_true rfl, Nat.le_of_ble_eq_true rfl⟩ (Nat.le_of_ble_eq_true rfl) dX11_second_64 ⟨Nat.zero_le _, Nat.zero_le _⟩) (fun H locs hU hS => ?_)
        refine lv_if_eq (tgt := 90) X.1 X.2.1 dX11_second_67 (by decide) (fun c67 => ?_) (fun c67 => ?_)
        · replace hf := k_ifP hf c67
          exact J90 _ _ _ w a1 a2 a4 a5 hU hS (lv_sub hl [0, 1, 2, 3, 4] rfl) hf
        · replace hf := k_ifN hf c67
          refine lv_aload_n X.1 X.2.1 dX11_second_70 rfl (lv_at hl 0 rfl) ?_
          refine k_getw (v := .ref (ad 5 1)) X hU sh_5_0 fl_X11_7 rfl dX11_second_71 ?_
          refine lv_bipush (v := 65) X.1 X.2.1 dX11_second_74 (by decide) ?_
          refine lv_iload X.1 X.2.1 dX11_second_76 (lv_at hl 4 rfl) ?_
          refine lv_iadd X.1 X.2.1 dX11_second_78 ?_
          obtain ⟨hi79, hf⟩ := k_ckE hf
          refine k_ildw (j0 := (65 + a5).toNatClampNeg) X hU sh_5_1 (k_vin (n := 268) hi79 (by decide)) rfl dX11_second_79 ?_
          refine lv_iconst (v := 1) X.1 X.2.1 dX11_second_80 (by decide) ?_
          refine lv_icmp_ne (tgt := 90) X.1 X.2.1 dX11_second_81 (by decide) (fun c81 => ?_) (fun c81 => ?_)
          · replace hf := k_ifN hf c81
            exact J90 _ _ _ w a1 a2 a4 a5 hU hS (lv_sub hl [0, 1, 2, 3, 4] rfl) hf
          · replace hf := k_ifP hf c81
            refine lv_aload_n X.1 X.2.1 dX11_second_84 rfl (lv_at hl 0 rfl) ?_
            refine lv_iload X.1 X.2.1 dX11_second_85 (lv_at hl 4 rfl) ?_
            obtain ⟨r87, hr87, hf⟩ := k_bdE hf
            refine k_backv X hS (k_runV (As := [.int a5]) (rest := []) X hS hU sh_5_0 (by decide) rfl vl_X11_144 (c_X11_tears X.2.2.2.2.2.2.1 (k_uc_s _ _ _) hr87) rfl rfl rfl hl.1 ⟨Nat.le_of_ble_eq_true rfl, Nat.le_of_ble_eq_true rfl⟩ (Nat.le_of_ble_eq_true rfl) dX11_second_87 ⟨Nat.zero_le _, Nat.zero_le _⟩) (fun H locs hU hS => ?_)
            rw [k_uc_uc] at hU
            exact J90 _ _ _ r87 a1 a2 a4 a5 hU hS (lv_sub hl [0, 1, 2, 3, 4] rfl) hf
  have J21 : ∀ (H : Heap) (locs : List Loc) (ls : Array Slot) (w : k_M) (a1 : Int32), k_Uv D G ad (k_uc u 5 w) H → va_S (k_A ad sz) s.heap H locs → lv_has ls 9 [(0, .ref (ad 5 0)), (1, .int a1)] → f_X11_second_21 w a1 = some r → W p l e rm_X11_second s m args below meth c H locs 0 0 (MQ below (k_Qv D G ad (k_uc u 5 r) sz) args s 0 0 (k_A ad sz)) (F0 m 21 ls []) := by
    intro H locs ls w a1 hU hS hl hf
    unfold f_X11_second_21 at hf
    refine lv_ldc2 (v := 2) X.1 X.2.1 X.2.2.2.1 (X.2.2.2.2.1 _ t_1553) dX11_second_21 ?_
    refine lv_iload_n X.1 X.2.1 dX11_second_24 rfl (lv_at hl 1 rfl) ?_
    refine lv_i2l (v := a1.toInt64) X.1 X.2.1 dX11_second_25 rfl ?_
    refine lv_lmul X.1 X.2.1 dX11_second_26 ?_
    refine lv_aload_n X.1 X.2.1 dX11_second_27 rfl (lv_at hl 0 rfl) ?_
    refine k_getw (v := .ref (ad 5 1)) X hU sh_5_0 fl_X11_7 rfl dX11_second_28 ?_
    refine lv_iconst (v := 1) X.1 X.2.1 dX11_second_31 (by decide) ?_
    refine k_ildw (j0 := 1) X hU sh_5_1 (k_vin (N := 268) (by decide) (by decide)) (by decide) dX11_second_32 ?_
    refine lv_i2l (v := (w 1 1).toInt64) X.1 X.2.1 dX11_second_33 rfl ?_
    refine lv_lmul X.1 X.2.1 dX11_second_34 ?_
    refine lv_aload_n X.1 X.2.1 dX11_second_35 rfl (lv_at hl 0 rfl) ?_
    refine k_getw (v := .ref (ad 5 1)) X hU sh_5_0 fl_X11_7 rfl dX11_second_36 ?_
    refine lv_iconst (v := 1) X.1 X.2.1 dX11_second_39 (by decide) ?_
    refine k_ildw (j0 := 1) X hU sh_5_1 (k_vin (N := 268) (by decide) (by decide)) (by decide) dX11_second_40 ?_
    refine lv_i2l (v := (w 1 1).toInt64) X.1 X.2.1 dX11_second_41 rfl ?_
    refine lv_lmul X.1 X.2.1 dX11_second_42 ?_
    refine lv_ldc2 (v := 10000) X.1 X.2.1 X.2.2.2.1 (X.2.2.2.2.1 _ t_1492) dX11_second_43 ?_
    refine lv_ldiv X.1 X.2.1 dX11_second_46 (by decide) ?_
    obtain ⟨x47, e47, hf⟩ := k_ltE hf
    refine k_nml e47 ?_
    refine lv_lstore_n (lv' := [(2, .long x47), (0, .ref (ad 5 0)), (1, .int a1)]) X.1 X.2.1 dX11_second_47 rfl hl (by decide) rfl (fun ls hl => ?_)
    refine lv_iconst (v := 0) X.1 X.2.1 dX11_second_48 (by decide) ?_
    refine lv_istore (lv' := [(4, .int 0), (2, .long x47), (0, .ref (ad 5 0)), (1, .int a1)]) X.1 X.2.1 dX11_second_49 hl (by decide) rfl (fun ls hl => ?_)
    refine lv_iconst (v := 0) X.1 X.2.1 dX11_second_51 (by decide) ?_
    refine lv_istore (lv' := [(5, .int 0), (4, .int 0), (2, .long x47), (0, .ref (ad 5 0)), (1, .int a1)]) X.1 X.2.1 dX11_second_52 hl (by decide) rfl (fun ls hl => ?_)
    exact L54 k_N _ _ _ w a1 x47 0 0 hU hS (lv_sub hl [3, 4, 2, 1, 0] rfl) hf
  unfold f_X11_second at hf
  refine lv_aload_n X.1 X.2.1 dX11_second_0 rfl (lv_at hl 0 rfl) ?_
  refine k_getw (v := .ref (ad 5 1)) X hU sh_5_0 fl_X11_7 rfl dX11_second_1 ?_
  refine lv_iconst (v := 0) X.1 X.2.1 dX11_second_4 (by decide) ?_
  refine k_ildw (j0 := 0) X hU sh_5_1 (k_vin (N := 268) (by decide) (by decide)) (by decide) dX11_second_5 ?_
  obtain ⟨r6, hr6, hf⟩ := k_bdE hf
  refine k_backi X hS (k_runS (As := [.int (w 1 0)]) (rest := []) X hS hU sl_X11_86 (c_X11_air X.2.2.2.2.2.2.1 hr6) rfl rfl rfl hl.1 ⟨Nat.le_of_ble_eq_true rfl, Nat.le_of_ble_eq_true rfl⟩ (Nat.le_of_ble_eq_true rfl) dX11_second_6 ⟨Nat.zero_le _, Nat.zero_le _⟩) (fun H locs hU hS => ?_)
  refine lv_istore_n (lv' := [(1, .int r6), (0, .ref (ad 5 0))]) X.1 X.2.1 dX11_second_9 rfl hl (by decide) rfl (fun ls hl => ?_)
  refine lv_aload_n X.1 X.2.1 dX11_second_10 rfl (lv_at hl 1 rfl) ?_
  obtain ⟨r11, hr11, hf⟩ := k_bdE hf
  refine k_backi X hS (k_runV (As := []) (rest := []) X hS hU sh_5_0 (by decide) rfl vl_X11_136 (c_X11_asksNow X.2.2.2.2.2.2.1 (k_uc_s _ _ _) hr11) rfl rfl rfl hl.1 ⟨Nat.le_of_ble_eq_true rfl, Nat.le_of_ble_eq_true rfl⟩ (Nat.le_of_ble_eq_true rfl) dX11_second_11 ⟨Nat.zero_le _, Nat.zero_le _⟩) (fun H locs hU hS => ?_)
  refine lv_if_eq (tgt := 21) X.1 X.2.1 dX11_second_14 (by decide) (fun c14 => ?_) (fun c14 => ?_)
  · replace hf := k_ifP hf c14
    exact J21 _ _ _ w r6 hU hS (lv_sub hl [1, 0] rfl) hf
  · replace hf := k_ifN hf c14
    refine lv_aload_n X.1 X.2.1 dX11_second_17 rfl (lv_at hl 1 rfl) ?_
    obtain ⟨r18, hr18, hf⟩ := k_bdE hf
    refine k_backv X hS (k_runV (As := []) (rest := []) X hS hU sh_5_0 (by decide) rfl vl_X11_139 (c_X11_brakes X.2.2.2.2.2.2.1 (k_uc_s _ _ _) hr18) rfl rfl rfl hl.1 ⟨Nat.le_of_ble_eq_true rfl, Nat.le_of_ble_eq_true rfl⟩ (Nat.le_of_ble_eq_true rfl) dX11_second_18 ⟨Nat.zero_le _, Nat.zero_le _⟩) (fun H locs hU hS => ?_)
    rw [k_uc_uc] at hU
    exact J21 _ _ _ r18 r6 hU hS (lv_sub hl [1, 0] rfl) hf
def rm_X11_seconds : Room := { frames := 6, cells := 0, slots := 0, locals := 143 }
set_option maxRecDepth 100000 in
set_option maxHeartbeats 4000000 in
theorem c_X11_seconds {l : Launch} {D : va_G} {G : Nat → ClassId} {ad : Nat → Nat → Nat} {u : k_U} (hI : k_ok ad) {w : k_M} (hw : u 5 = w) {a1 : Int32} {a2 : Int32} {sz : Nat} {r : (k_M × Int32)} (hf : f_X11_seconds w a1 a2 = some r) : Met l yX11_seconds (.code yX11_seconds cX11_seconds 4 (some .int) :: lw_g) rm_X11_seconds (k_Pre D G ad u sz [.ref (ad 5 0), .int a1, .int a2]) (k_Qi D G ad (k_uc u 5 r.1) r.2 sz) 0 0 (k_A ad sz) := by
  refine k_ofW (by decide +kernel) hI (Nat.le_of_ble_eq_true rfl) ?_
  intro p e s m args below meth c X hr hlk hU hS ls hl
  have hl : lv_has ls 4 [(0, .ref (ad 5 0)), (1, .int a1), (2, .int a2)] := hl
  have hU : k_Uv D G ad (k_uc u 5 w) s.heap := by rw [← hw, k_uc_id]; exact hU
  have L2 : ∀ (n2 : Nat) (H : Heap) (locs : List Loc) (ls : Array Slot) (w : k_M) (a1 : Int32) (a2 : Int32) (a3 : Int32), k_Uv D G ad (k_uc u 5 w) H → va_S (k_A ad sz) s.heap H locs → lv_has ls 4 [(0, .ref (ad 5 0)), (1, .int a1), (2, .int a2), (3, .int a3)] → f_X11_seconds_2 n2 w a1 a2 a3 = some r → W p l e rm_X11_seconds s m args below meth c H locs 0 0 (MQ below (k_Qi D G ad (k_uc u 5 r.1) r.2 sz) args s 0 0 (k_A ad sz)) (F0 m 2 ls []) := by
    intro n2
    induction n2 with
    | zero =>
      intro H locs ls w a1 a2 a3 hU hS hl hf
      cases (show none = some r from hf)
    | succ n2 ih2 =>
      intro H locs ls w a1 a2 a3 hU hS hl hf
      replace hf : f_X11_seconds_2_b (f_X11_seconds_2 n2) w a1 a2 a3 = some r := hf
      unfold f_X11_seconds_2_b at hf
      refine lv_iload_n X.1 X.2.1 dX11_seconds_2 rfl (lv_at hl 3 rfl) ?_
      refine lv_iload_n X.1 X.2.1 dX11_seconds_3 rfl (lv_at hl 1 rfl) ?_
      refine lv_icmp_ge (tgt := 27) X.1 X.2.1 dX11_seconds_4 (by decide) (fun c4 => ?_) (fun c4 => ?_)
      · replace hf := k_ifP hf c4
        refine lv_iload_n X.1 X.2.1 dX11_seconds_27 rfl (lv_at hl 3 rfl) ?_
        have hz := Option.some.inj hf
        subst hz
        exact k_iret (v := a3) X hU hS hr hlk rfl rfl dX11_seconds_28
      · replace hf := k_ifN hf c4
        refine lv_aload_n X.1 X.2.1 dX11_seconds_7 rfl (lv_at hl 0 rfl) ?_
        refine k_getw (v := .ref (ad 5 1)) X hU sh_5_0 fl_X11_7 rfl dX11_seconds_8 ?_
        refine lv_iconst (v := 0) X.1 X.2.1 dX11_seconds_11 (by decide) ?_
        refine k_ildw (j0 := 0) X hU sh_5_1 (k_vin (N := 268) (by decide) (by decide)) (by decide) dX11_seconds_12 ?_
        refine lv_iload_n X.1 X.2.1 dX11_seconds_13 rfl (lv_at hl 2 rfl) ?_
        refine lv_icmp_le (tgt := 27) X.1 X.2.1 dX11_seconds_14 (by decide) (fun c14 => ?_) (fun c14 => ?_)
        · replace hf := k_ifP hf c14
          refine lv_iload_n X.1 X.2.1 dX11_seconds_27 rfl (lv_at hl 3 rfl) ?_
          have hz := Option.some.inj hf
          subst hz
          exact k_iret (v := a3) X hU hS hr hlk rfl rfl dX11_seconds_28
        · replace hf := k_ifN hf c14
          refine lv_aload_n X.1 X.2.1 dX11_seconds_17 rfl (lv_at hl 0 rfl) ?_
          obtain ⟨r18, hr18, hf⟩ := k_bdE hf
          refine k_backv X hS (k_runV (As := []) (rest := []) X hS hU sh_5_0 (by decide) rfl vl_X11_167 (c_X11_second X.2.2.2.2.2.2.1 (k_uc_s _ _ _) hr18) rfl rfl rfl hl.1 ⟨Nat.le_of_ble_eq_true rfl, Nat.le_of_ble_eq_true rfl⟩ (Nat.le_of_ble_eq_true rfl) dX11_seconds_18 ⟨Nat.zero_le _, Nat.zero_le _⟩) (fun H locs hU hS => ?_)
          rw [k_uc_uc] at hU
          obtain ⟨x21, e21, hf⟩ := k_ltE hf
          refine lv_iinc (v := x21) (lv' := [(3, .int x21), (0, .ref (ad 5 0)), (1, .int a1), (2, .int a2)]) X.1 X.2.1 dX11_seconds_21 hl (k := 3) rfl (by rw [e21]; rfl) (by decide) rfl (fun ls hl => ?_)
          refine lv_goto (tgt := 2) X.1 X.2.1 dX11_seconds_24 (by decide) ?_
          exact ih2 _ _ _ r18 a1 a2 x21 hU hS (lv_sub hl [1, 2, 3, 0] rfl) hf
  unfold f_X11_seconds at hf
  refine lv_iconst (v := 0) X.1 X.2.1 dX11_seconds_0 (by decide) ?_
  refine lv_istore_n (lv' := [(3, .int 0), (0, .ref (ad 5 0)), (1, .int a1), (2, .int a2)]) X.1 X.2.1 dX11_seconds_1 rfl hl (by decide) rfl (fun ls hl => ?_)
  exact L2 k_N _ _ _ w a1 a2 0 hU hS (lv_sub hl [1, 2, 3, 0] rfl) hf
def rm_X11_noPart : Room := { frames := 1, cells := 0, slots := 0, locals := 22 }
set_option maxRecDepth 100000 in
set_option maxHeartbeats 4000000 in
theorem c_X11_noPart {l : Launch} {D : va_G} {G : Nat → ClassId} {ad : Nat → Nat → Nat} {u : k_U} (hI : k_ok ad) {w : k_M} (hw : u 5 = w) {a1 : Int32} {a2 : Int32} {sz : Nat} {r : (k_M × Int32)} (hf : f_X11_noPart w a1 a2 = some r) : Met l yX11_noPart (.code yX11_noPart cX11_noPart 3 (some .boolean) :: lw_g) rm_X11_noPart (k_Pre D G ad u sz [.ref (ad 5 0), .int a1, .int a2]) (k_Qi D G ad (k_uc u 5 r.1) r.2 sz) 0 0 (k_A ad sz) := by
  refine k_ofW (by decide +kernel) hI (Nat.le_of_ble_eq_true rfl) ?_
  intro p e s m args below meth c X hr hlk hU hS ls hl
  have hl : lv_has ls 3 [(0, .ref (ad 5 0)), (1, .int a1), (2, .int a2)] := hl
  have hU : k_Uv D G ad (k_uc u 5 w) s.heap := by rw [← hw, k_uc_id]; exact hU
  have J20 : ∀ (H : Heap) (locs : List Loc) (ls : Array Slot) (w : k_M) (as0 : Int32), k_Uv D G ad (k_uc u 5 w) H → va_S (k_A ad sz) s.heap H locs → lv_has ls 3 [] → f_X11_noPart_20 w a1 a2 as0 = some r → W p l e rm_X11_noPart s m args below meth c H locs 0 0 (MQ below (k_Qi D G ad (k_uc u 5 r.1) r.2 sz) args s 0 0 (k_A ad sz)) (F0 m 20 ls [.int as0, .ref (ad 5 0)]) := by
    intro H locs ls w as0 hU hS hl hf
    unfold f_X11_noPart_20 at hf
    refine lv_iconst (v := 1) X.1 X.2.1 dX11_noPart_20 (by decide) ?_
    obtain ⟨r21, hr21, hf⟩ := k_bdE hf
    refine k_backi X hS (k_runV (As := [.int as0, .int 1]) (rest := []) X hS hU sh_5_0 (by decide) rfl vl_X11_61 (c_X11_throwsIf X.2.2.2.2.2.2.1 (k_uc_s _ _ _) hr21) rfl rfl rfl hl.1 ⟨Nat.le_of_ble_eq_true rfl, Nat.le_of_ble_eq_true rfl⟩ (Nat.le_of_ble_eq_true rfl) dX11_noPart_21 ⟨Nat.zero_le _, Nat.zero_le _⟩) (fun H locs hU hS => ?_)
    rw [k_uc_uc] at hU
    obtain ⟨hi24, hf⟩ := k_ckE hf
    have hz := Option.some.inj hf
    subst hz
    exact k_iret (v := r21.2) X hU hS hr hlk (k_nb hi24) rfl dX11_noPart_24
  unfold f_X11_noPart at hf
  refine lv_aload_n X.1 X.2.1 dX11_noPart_0 rfl (lv_at hl 0 rfl) ?_
  refine lv_iconst (v := 0) X.1 X.2.1 dX11_noPart_1 (by decide) ?_
  obtain ⟨w2, e2, hf⟩ := k_ltE hf
  refine k_putw X hU hS sh_5_0 fp_X11_50 rfl e2 rfl rfl dX11_noPart_2 (fun H locs hU hS => ?_)
  refine lv_aload_n X.1 X.2.1 dX11_noPart_5 rfl (lv_at hl 0 rfl) ?_
  refine lv_iload_n X.1 X.2.1 dX11_noPart_6 rfl (lv_at hl 1 rfl) ?_
  refine lv_iconst (v := 0) X.1 X.2.1 dX11_noPart_7 (by decide) ?_
  refine lv_iload_n X.1 X.2.1 dX11_noPart_8 rfl (lv_at hl 2 rfl) ?_
  obtain ⟨r9, hr9, hf⟩ := k_bdE hf
  refine k_backi X hS (k_runS (As := [.int a1, .int 0, .int a2]) (rest := [.ref (ad 5 0)]) X hS hU sl_X11_57 (c_X11_within X.2.2.2.2.2.2.1 hr9) rfl rfl rfl hl.1 ⟨Nat.le_of_ble_eq_true rfl, Nat.le_of_ble_eq_true rfl⟩ (Nat.le_of_ble_eq_true rfl) dX11_noPart_9 ⟨Nat.zero_le _, Nat.zero_le _⟩) (fun H locs hU hS => ?_)
  refine lv_if_ne (tgt := 19) X.1 X.2.1 dX11_noPart_12 (by decide) (fun c12 => ?_) (fun c12 => ?_)
  · replace hf := k_ifN hf c12
    refine lv_iconst (v := 0) X.1 X.2.1 dX11_noPart_19 (by decide) ?_
    exact J20 _ _ _ w2 0 hU hS (lv_sub hl [] rfl) hf
  · replace hf := k_ifP hf c12
    refine lv_iconst (v := 1) X.1 X.2.1 dX11_noPart_15 (by decide) ?_
    refine lv_goto (tgt := 20) X.1 X.2.1 dX11_noPart_16 (by decide) ?_
    exact J20 _ _ _ w2 1 hU hS (lv_sub hl [] rfl) hf
def rm_X11_capsule : Room := { frames := 3, cells := 0, slots := 0, locals := 65 }
set_option maxRecDepth 100000 in
set_option maxHeartbeats 4000000 in
theorem c_X11_capsule {l : Launch} {D : va_G} {G : Nat → ClassId} {ad : Nat → Nat → Nat} {u : k_U} (hI : k_ok ad) {w : k_M} (hw : u 5 = w) {a1 : Int32} {sz : Nat} {r : (k_M × Int32)} (hf : f_X11_capsule w a1 = some r) : Met l yX11_capsule (.code yX11_capsule cX11_capsule 2 (some .int) :: lw_g) rm_X11_capsule (k_Pre D G ad u sz [.ref (ad 5 0), .int a1]) (k_Qi D G ad (k_uc u 5 r.1) r.2 sz) 0 0 (k_A ad sz) := by
  refine k_ofW (by decide +kernel) hI (Nat.le_of_ble_eq_true rfl) ?_
  intro p e s m args below meth c X hr hlk hU hS ls hl
  have hl : lv_has ls 2 [(0, .ref (ad 5 0)), (1, .int a1)] := hl
  have hU : k_Uv D G ad (k_uc u 5 w) s.heap := by rw [← hw, k_uc_id]; exact hU
  unfold f_X11_capsule at hf
  refine lv_aload_n X.1 X.2.1 dX11_capsule_0 rfl (lv_at hl 0 rfl) ?_
  refine lv_iload_n X.1 X.2.1 dX11_capsule_1 rfl (lv_at hl 1 rfl) ?_
  refine lv_bipush (v := 8) X.1 X.2.1 dX11_capsule_2 (by decide) ?_
  obtain ⟨r4, hr4, hf⟩ := k_bdE hf
  refine k_backi X hS (k_runV (As := [.int a1, .int 8]) (rest := []) X hS hU sh_5_0 (by decide) rfl vl_X11_170 (c_X11_noPart X.2.2.2.2.2.2.1 (k_uc_s _ _ _) hr4) rfl rfl rfl hl.1 ⟨Nat.le_of_ble_eq_true rfl, Nat.le_of_ble_eq_true rfl⟩ (Nat.le_of_ble_eq_true rfl) dX11_capsule_4 ⟨Nat.zero_le _, Nat.zero_le _⟩) (fun H locs hU hS => ?_)
  rw [k_uc_uc] at hU
  refine lv_if_eq (tgt := 12) X.1 X.2.1 dX11_capsule_7 (by decide) (fun c7 => ?_) (fun c7 => ?_)
  · replace hf := k_ifP hf c7
    refine lv_iload_n X.1 X.2.1 dX11_capsule_12 rfl (lv_at hl 1 rfl) ?_
    refine lv_bipush (v := 7) X.1 X.2.1 dX11_capsule_13 (by decide) ?_
    refine lv_icmp_ne (tgt := 30) X.1 X.2.1 dX11_capsule_15 (by decide) (fun c15 => ?_) (fun c15 => ?_)
    · replace hf := k_ifN hf c15
      refine lv_iload_n X.1 X.2.1 dX11_capsule_30 rfl (lv_at hl 1 rfl) ?_
      refine lv_bipush (v := 8) X.1 X.2.1 dX11_capsule_31 (by decide) ?_
      refine lv_icmp_ne (tgt := 43) X.1 X.2.1 dX11_capsule_33 (by decide) (fun c33 => ?_) (fun c33 => ?_)
      · replace hf := k_ifN hf c33
        refine lv_aload_n X.1 X.2.1 dX11_capsule_43 rfl (lv_at hl 0 rfl) ?_
        refine k_getw (v := .ref (ad 5 1)) X hU sh_5_0 fl_X11_7 rfl dX11_capsule_44 ?_
        refine lv_iload_n X.1 X.2.1 dX11_capsule_47 rfl (lv_at hl 1 rfl) ?_
        obtain ⟨hi48, hf⟩ := k_ckE hf
        refine k_ildw (j0 := a1.toNatClampNeg) X hU sh_5_1 (k_vin (n := 268) hi48 (by decide)) rfl dX11_capsule_48 ?_
        have hz := Option.some.inj hf
        subst hz
        exact k_iret (v := r4.1 1 a1.toNatClampNeg) X hU hS hr hlk rfl rfl dX11_capsule_49
      · replace hf := k_ifP hf c33
        refine lv_aload_n X.1 X.2.1 dX11_capsule_36 rfl (lv_at hl 0 rfl) ?_
        obtain ⟨r37, hr37, hf⟩ := k_bdE hf
        refine k_backi X hS (k_runV (As := []) (rest := []) X hS hU sh_5_0 (by decide) rfl vl_X11_164 (c_X11_result X.2.2.2.2.2.2.1 (k_uc_s _ _ _) hr37) rfl rfl rfl hl.1 ⟨Nat.le_of_ble_eq_true rfl, Nat.le_of_ble_eq_true rfl⟩ (Nat.le_of_ble_eq_true rfl) dX11_capsule_37 ⟨Nat.zero_le _, Nat.zero_le _⟩) (fun H locs hU hS => ?_)
        refine lv_goto (tgt := 49) X.1 X.2.1 dX11_capsule_40 (by decide) ?_
        have hz := Option.some.inj hf
        subst hz
        exact k_iret (v := r37) X hU hS hr hlk rfl rfl dX11_capsule_49
    · replace hf := k_ifP hf c15
      refine lv_aload_n X.1 X.2.1 dX11_capsule_18 rfl (lv_at hl 0 rfl) ?_
      refine k_getw (v := .ref (ad 5 1)) X hU sh_5_0 fl_X11_7 rfl dX11_capsule_19 ?_
      refine lv_iconst (v := 0) X.1 X.2.1 dX11_capsule_22 (by decide) ?_
      refine k_ildw (j0 := 0) X hU sh_5_1 (k_vin (N := 268) (by decide) (by decide)) (by decide) dX11_capsule_23 ?_
      obtain ⟨r24, hr24, hf⟩ := k_bdE hf
      refine k_backi X hS (k_runS (As := [.int (r4.1 1 0)]) (rest := []) X hS hU sl_X11_86 (c_X11_air X.2.2.2.2.2.2.1 hr24) rfl rfl rfl hl.1 ⟨Nat.le_of_ble_eq_true rfl, Nat.le_of_ble_eq_true rfl⟩ (Nat.le_of_ble_eq_true rfl) dX11_capsule_24 ⟨Nat.zero_le _, Nat.zero_le _⟩) (fun H locs hU hS => ?_)
      refine lv_goto (tgt := 49) X.1 X.2.1 dX11_capsule_27 (by decide) ?_
      have hz := Option.some.inj hf
      subst hz
      exact k_iret (v := r24) X hU hS hr hlk rfl rfl dX11_capsule_49
  · replace hf := k_ifN hf c7
    refine lv_iconst (v := 0) X.1 X.2.1 dX11_capsule_10 (by decide) ?_
    have hz := Option.some.inj hf
    subst hz
    exact k_iret (v := 0) X hU hS hr hlk rfl rfl dX11_capsule_11
def rm_X11_allLines : Room := { frames := 1, cells := 0, slots := 0, locals := 21 }
set_option maxRecDepth 100000 in
set_option maxHeartbeats 4000000 in
theorem c_X11_allLines {l : Launch} {D : va_G} {G : Nat → ClassId} {ad : Nat → Nat → Nat} {u : k_U} (hI : k_ok ad) {w : k_M} (hw : u 5 = w) {sz : Nat} {r : Int32} (hf : f_X11_allLines w = some r) : Met l yX11_allLines (.code yX11_allLines cX11_allLines 3 (some .int) :: lw_g) rm_X11_allLines (k_Pre D G ad u sz [.ref (ad 5 0)]) (k_Qi D G ad u r sz) 0 0 (k_A ad sz) := by
  refine k_ofW (by decide +kernel) hI (Nat.le_of_ble_eq_true rfl) ?_
  intro p e s m args below meth c X hr hlk hU hS ls hl
  have hl : lv_has ls 3 [(0, .ref (ad 5 0))] := hl
  have hU : k_Uv D G ad (k_uc u 5 w) s.heap := by rw [← hw, k_uc_id]; exact hU
  have L4 : ∀ (n4 : Nat) (H : Heap) (locs : List Loc) (ls : Array Slot) (a1 : Int32) (a2 : Int32), k_Uv D G ad (k_uc u 5 w) H → va_S (k_A ad sz) s.heap H locs → lv_has ls 3 [(0, .ref (ad 5 0)), (1, .int a1), (2, .int a2)] → f_X11_allLines_4 n4 w a1 a2 = some r → W p l e rm_X11_allLines s m args below meth c H locs 0 0 (MQ below (k_Qi D G ad u r sz) args s 0 0 (k_A ad sz)) (F0 m 4 ls []) := by
    intro n4
    induction n4 with
    | zero =>
      intro H locs ls a1 a2 hU hS hl hf
      cases (show none = some r from hf)
    | succ n4 ih4 =>
      have J32 : ∀ (H : Heap) (locs : List Loc) (ls : Array Slot) (a2 : Int32) (as0 : Int32) (as1 : Int32), k_Uv D G ad (k_uc u 5 w) H → va_S (k_A ad sz) s.heap H locs → lv_has ls 3 [(0, .ref (ad 5 0)), (2, .int a2)] → f_X11_allLines_32 (f_X11_allLines_4 n4) w a2 as0 as1 = some r → W p l e rm_X11_allLines s m args below meth c H locs 0 0 (MQ below (k_Qi D G ad u r sz) args s 0 0 (k_A ad sz)) (F0 m 32 ls [.int as0, .int as1]) := by
        intro H locs ls a2 as0 as1 hU hS hl hf
        unfold f_X11_allLines_32 at hf
        refine lv_iadd X.1 X.2.1 dX11_allLines_32 ?_
        obtain ⟨x33, e33, hf⟩ := k_ltE hf
        refine k_nmi e33 ?_
        refine lv_istore_n (lv' := [(1, .int x33), (0, .ref (ad 5 0)), (2, .int a2)]) X.1 X.2.1 dX11_allLines_33 rfl hl (by decide) rfl (fun ls hl => ?_)
        obtain ⟨x34, e34, hf⟩ := k_ltE hf
        refine lv_iinc (v := x34) (lv' := [(2, .int x34), (1, .int x33), (0, .ref (ad 5 0))]) X.1 X.2.1 dX11_allLines_34 hl (k := 2) rfl (by rw [e34]; rfl) (by decide) rfl (fun ls hl => ?_)
        refine lv_goto (tgt := 4) X.1 X.2.1 dX11_allLines_37 (by decide) ?_
        exact ih4 _ _ _ x33 x34 hU hS (lv_sub hl [2, 1, 0] rfl) hf
      intro H locs ls a1 a2 hU hS hl hf
      replace hf : f_X11_allLines_4_b (f_X11_allLines_4 n4) w a1 a2 = some r := hf
      unfold f_X11_allLines_4_b at hf
      refine lv_iload_n X.1 X.2.1 dX11_allLines_4 rfl (lv_at hl 2 rfl) ?_
      refine lv_bipush (v := 9) X.1 X.2.1 dX11_allLines_5 (by decide) ?_
      refine lv_icmp_ge (tgt := 40) X.1 X.2.1 dX11_allLines_7 (by decide) (fun c7 => ?_) (fun c7 => ?_)
      · replace hf := k_ifP hf c7
        refine lv_iload_n X.1 X.2.1 dX11_allLines_40 rfl (lv_at hl 1 rfl) ?_
        rw [← hw, k_uc_id] at hU
        have hz := Option.some.inj hf
        subst hz
        exact k_iret (v := a1) X hU hS hr hlk rfl rfl dX11_allLines_41
      · replace hf := k_ifN hf c7
        refine lv_iload_n X.1 X.2.1 dX11_allLines_10 rfl (lv_at hl 1 rfl) ?_
        refine lv_aload_n X.1 X.2.1 dX11_allLines_11 rfl (lv_at hl 0 rfl) ?_
        refine lv_iload_n X.1 X.2.1 dX11_allLines_12 rfl (lv_at hl 2 rfl) ?_
        obtain ⟨r13, hr13, hf⟩ := k_bdE hf
        refine k_backi X hS (k_runV (As := [.int a2]) (rest := [.int a1]) X hS hU sh_5_0 (by decide) rfl vl_X11_65 (c_X11_isThere X.2.2.2.2.2.2.1 (k_uc_s _ _ _) hr13) rfl rfl rfl hl.1 ⟨Nat.le_of_ble_eq_true rfl, Nat.le_of_ble_eq_true rfl⟩ (Nat.le_of_ble_eq_true rfl) dX11_allLines_13 ⟨Nat.zero_le _, Nat.zero_le _⟩) (fun H locs hU hS => ?_)
        refine lv_if_eq (tgt := 31) X.1 X.2.1 dX11_allLines_16 (by decide) (fun c16 => ?_) (fun c16 => ?_)
        · replace hf := k_ifP hf c16
          refine lv_iconst (v := 0) X.1 X.2.1 dX11_allLines_31 (by decide) ?_
          exact J32 _ _ _ a2 0 a1 hU hS (lv_sub hl [0, 2] rfl) hf
        · replace hf := k_ifN hf c16
          refine lv_aload_n X.1 X.2.1 dX11_allLines_19 rfl (lv_at hl 0 rfl) ?_
          refine k_getw (v := .ref (ad 5 1)) X hU sh_5_0 fl_X11_7 rfl dX11_allLines_20 ?_
          refine lv_bipush (v := 29) X.1 X.2.1 dX11_allLines_23 (by decide) ?_
          refine lv_iload_n X.1 X.2.1 dX11_allLines_25 rfl (lv_at hl 2 rfl) ?_
          refine lv_iadd X.1 X.2.1 dX11_allLines_26 ?_
          obtain ⟨hi27, hf⟩ := k_ckE hf
          refine k_ildw (j0 := (29 + a2).toNatClampNeg) X hU sh_5_1 (k_vin (n := 268) hi27 (by decide)) rfl dX11_allLines_27 ?_
          refine lv_goto (tgt := 32) X.1 X.2.1 dX11_allLines_28 (by decide) ?_
          exact J32 _ _ _ a2 (w 1 ((29 + a2).toNatClampNeg)) a1 hU hS (lv_sub hl [0, 2] rfl) hf
  unfold f_X11_allLines at hf
  refine lv_iconst (v := 0) X.1 X.2.1 dX11_allLines_0 (by decide) ?_
  refine lv_istore_n (lv' := [(1, .int 0), (0, .ref (ad 5 0))]) X.1 X.2.1 dX11_allLines_1 rfl hl (by decide) rfl (fun ls hl => ?_)
  refine lv_iconst (v := 0) X.1 X.2.1 dX11_allLines_2 (by decide) ?_
  refine lv_istore_n (lv' := [(2, .int 0), (1, .int 0), (0, .ref (ad 5 0))]) X.1 X.2.1 dX11_allLines_3 rfl hl (by decide) rfl (fun ls hl => ?_)
  exact L4 k_N _ _ _ 0 0 hU hS (lv_sub hl [2, 1, 0] rfl) hf
def rm_X11_linesThere : Room := { frames := 1, cells := 0, slots := 0, locals := 22 }
set_option maxRecDepth 100000 in
set_option maxHeartbeats 4000000 in
theorem c_X11_linesThere {l : Launch} {D : va_G} {G : Nat → ClassId} {ad : Nat → Nat → Nat} {u : k_U} (hI : k_ok ad) {w : k_M} (hw : u 5 = w) {sz : Nat} {r : Int32} (hf : f_X11_linesThere w = some r) : Met l yX11_linesThere (.code yX11_linesThere cX11_linesThere 3 (some .int) :: lw_g) rm_X11_linesThere (k_Pre D G ad u sz [.ref (ad 5 0)]) (k_Qi D G ad u r sz) 0 0 (k_A ad sz) := by
  refine k_ofW (by decide +kernel) hI (Nat.le_of_ble_eq_true rfl) ?_
  intro p e s m args below meth c X hr hlk hU hS ls hl
  have hl : lv_has ls 3 [(0, .ref (ad 5 0))] := hl
  have hU : k_Uv D G ad (k_uc u 5 w) s.heap := by rw [← hw, k_uc_id]; exact hU
  have L4 : ∀ (n4 : Nat) (H : Heap) (locs : List Loc) (ls : Array Slot) (a1 : Int32) (a2 : Int32), k_Uv D G ad (k_uc u 5 w) H → va_S (k_A ad sz) s.heap H locs → lv_has ls 3 [(0, .ref (ad 5 0)), (1, .int a1), (2, .int a2)] → f_X11_linesThere_4 n4 w a1 a2 = some r → W p l e rm_X11_linesThere s m args below meth c H locs 0 0 (MQ below (k_Qi D G ad u r sz) args s 0 0 (k_A ad sz)) (F0 m 4 ls []) := by
    intro n4
    induction n4 with
    | zero =>
      intro H locs ls a1 a2 hU hS hl hf
      cases (show none = some r from hf)
    | succ n4 ih4 =>
      have J48 : ∀ (H : Heap) (locs : List Loc) (ls : Array Slot) (a2 : Int32) (as0 : Int32) (as1 : Int32), k_Uv D G ad (k_uc u 5 w) H → va_S (k_A ad sz) s.heap H locs → lv_has ls 3 [(0, .ref (ad 5 0)), (2, .int a2)] → f_X11_linesThere_48 (f_X11_linesThere_4 n4) w a2 as0 as1 = some r → W p l e rm_X11_linesThere s m args below meth c H locs 0 0 (MQ below (k_Qi D G ad u r sz) args s 0 0 (k_A ad sz)) (F0 m 48 ls [.int as0, .int as1]) := by
        intro H locs ls a2 as0 as1 hU hS hl hf
        unfold f_X11_linesThere_48 at hf
        refine lv_iadd X.1 X.2.1 dX11_linesThere_48 ?_
        obtain ⟨x49, e49, hf⟩ := k_ltE hf
        refine k_nmi e49 ?_
        refine lv_istore_n (lv' := [(1, .int x49), (0, .ref (ad 5 0)), (2, .int a2)]) X.1 X.2.1 dX11_linesThere_49 rfl hl (by decide) rfl (fun ls hl => ?_)
        obtain ⟨x50, e50, hf⟩ := k_ltE hf
        refine lv_iinc (v := x50) (lv' := [(2, .int x50), (1, .int x49), (0, .ref (ad 5 0))]) X.1 X.2.1 dX11_linesThere_50 hl (k := 2) rfl (by rw [e50]; rfl) (by decide) rfl (fun ls hl => ?_)
        refine lv_goto (tgt := 4) X.1 X.2.1 dX11_linesThere_53 (by decide) ?_
        exact ih4 _ _ _ x49 x50 hU hS (lv_sub hl [2, 1, 0] rfl) hf
      have J47 : ∀ (H : Heap) (locs : List Loc) (ls : Array Slot) (a2 : Int32) (as0 : Int32), k_Uv D G ad (k_uc u 5 w) H → va_S (k_A ad sz) s.heap H locs → lv_has ls 3 [(0, .ref (ad 5 0)), (2, .int a2)] → f_X11_linesThere_47 (f_X11_linesThere_4 n4) w a2 as0 = some r → W p l e rm_X11_linesThere s m args below meth c H locs 0 0 (MQ below (k_Qi D G ad u r sz) args s 0 0 (k_A ad sz)) (F0 m 47 ls [.int as0]) := by
        intro H locs ls a2 as0 hU hS hl hf
        unfold f_X11_linesThere_47 at hf
        refine lv_iconst (v := 0) X.1 X.2.1 dX11_linesThere_47 (by decide) ?_
        exact J48 _ _ _ a2 0 as0 hU hS (lv_sub hl [0, 1] rfl) hf
      intro H locs ls a1 a2 hU hS hl hf
      replace hf : f_X11_linesThere_4_b (f_X11_linesThere_4 n4) w a1 a2 = some r := hf
      unfold f_X11_linesThere_4_b at hf
      refine lv_iload_n X.1 X.2.1 dX11_linesThere_4 rfl (lv_at hl 2 rfl) ?_
      refine lv_bipush (v := 9) X.1 X.2.1 dX11_linesThere_5 (by decide) ?_
      refine lv_icmp_ge (tgt := 56) X.1 X.2.1 dX11_linesThere_7 (by decide) (fun c7 => ?_) (fun c7 => ?_)
      · replace hf := k_ifP hf c7
        refine lv_iload_n X.1 X.2.1 dX11_linesThere_56 rfl (lv_at hl 1 rfl) ?_
        rw [← hw, k_uc_id] at hU
        have hz := Option.some.inj hf
        subst hz
        exact k_iret (v := a1) X hU hS hr hlk rfl rfl dX11_linesThere_57
      · replace hf := k_ifN hf c7
        refine lv_iload_n X.1 X.2.1 dX11_linesThere_10 rfl (lv_at hl 1 rfl) ?_
        refine lv_aload_n X.1 X.2.1 dX11_linesThere_11 rfl (lv_at hl 0 rfl) ?_
        refine lv_iload_n X.1 X.2.1 dX11_linesThere_12 rfl (lv_at hl 2 rfl) ?_
        obtain ⟨r13, hr13, hf⟩ := k_bdE hf
        refine k_backi X hS (k_runV (As := [.int a2]) (rest := [.int a1]) X hS hU sh_5_0 (by decide) rfl vl_X11_65 (c_X11_isThere X.2.2.2.2.2.2.1 (k_uc_s _ _ _) hr13) rfl rfl rfl hl.1 ⟨Nat.le_of_ble_eq_true rfl, Nat.le_of_ble_eq_true rfl⟩ (Nat.le_of_ble_eq_true rfl) dX11_linesThere_13 ⟨Nat.zero_le _, Nat.zero_le _⟩) (fun H locs hU hS => ?_)
        refine lv_if_eq (tgt := 47) X.1 X.2.1 dX11_linesThere_16 (by decide) (fun c16 => ?_) (fun c16 => ?_)
        · replace hf := k_ifP hf c16
          exact J47 _ _ _ a2 a1 hU hS (lv_sub hl [0, 2] rfl) hf
        · replace hf := k_ifN hf c16
          refine lv_aload_n X.1 X.2.1 dX11_linesThere_19 rfl (lv_at hl 0 rfl) ?_
          refine k_getw (v := .ref (ad 5 1)) X hU sh_5_0 fl_X11_7 rfl dX11_linesThere_20 ?_
          refine lv_bipush (v := 65) X.1 X.2.1 dX11_linesThere_23 (by decide) ?_
          refine lv_iload_n X.1 X.2.1 dX11_linesThere_25 rfl (lv_at hl 2 rfl) ?_
          refine lv_iadd X.1 X.2.1 dX11_linesThere_26 ?_
          obtain ⟨hi27, hf⟩ := k_ckE hf
          refine k_ildw (j0 := (65 + a2).toNatClampNeg) X hU sh_5_1 (k_vin (n := 268) hi27 (by decide)) rfl dX11_linesThere_27 ?_
          refine lv_iconst (v := 4) X.1 X.2.1 dX11_linesThere_28 (by decide) ?_
          refine lv_icmp_eq (tgt := 47) X.1 X.2.1 dX11_linesThere_29 (by decide) (fun c29 => ?_) (fun c29 => ?_)
          · replace hf := k_ifP hf c29
            exact J47 _ _ _ a2 a1 hU hS (lv_sub hl [0, 2] rfl) hf
          · replace hf := k_ifN hf c29
            refine lv_aload_n X.1 X.2.1 dX11_linesThere_32 rfl (lv_at hl 0 rfl) ?_
            refine k_getw (v := .ref (ad 5 1)) X hU sh_5_0 fl_X11_7 rfl dX11_linesThere_33 ?_
            refine lv_bipush (v := 74) X.1 X.2.1 dX11_linesThere_36 (by decide) ?_
            refine lv_iload_n X.1 X.2.1 dX11_linesThere_38 rfl (lv_at hl 2 rfl) ?_
            refine lv_iadd X.1 X.2.1 dX11_linesThere_39 ?_
            obtain ⟨hi40, hf⟩ := k_ckE hf
            refine k_ildw (j0 := (74 + a2).toNatClampNeg) X hU sh_5_1 (k_vin (n := 268) hi40 (by decide)) rfl dX11_linesThere_40 ?_
            obtain ⟨r41, hr41, hf⟩ := k_bdE hf
            refine k_backi X hS (k_runS (As := [.int (w 1 ((74 + a2).toNatClampNeg))]) (rest := [.int a1]) X hS hU sl_X11_100 (c_X11_bits X.2.2.2.2.2.2.1 hr41) rfl rfl rfl hl.1 ⟨Nat.le_of_ble_eq_true rfl, Nat.le_of_ble_eq_true rfl⟩ (Nat.le_of_ble_eq_true rfl) dX11_linesThere_41 ⟨Nat.zero_le _, Nat.zero_le _⟩) (fun H locs hU hS => ?_)
            refine lv_goto (tgt := 48) X.1 X.2.1 dX11_linesThere_44 (by decide) ?_
            exact J48 _ _ _ a2 r41 a1 hU hS (lv_sub hl [0, 2] rfl) hf
  unfold f_X11_linesThere at hf
  refine lv_iconst (v := 0) X.1 X.2.1 dX11_linesThere_0 (by decide) ?_
  refine lv_istore_n (lv' := [(1, .int 0), (0, .ref (ad 5 0))]) X.1 X.2.1 dX11_linesThere_1 rfl hl (by decide) rfl (fun ls hl => ?_)
  refine lv_iconst (v := 0) X.1 X.2.1 dX11_linesThere_2 (by decide) ?_
  refine lv_istore_n (lv' := [(2, .int 0), (1, .int 0), (0, .ref (ad 5 0))]) X.1 X.2.1 dX11_linesThere_3 rfl hl (by decide) rfl (fun ls hl => ?_)
  exact L4 k_N _ _ _ 0 0 hU hS (lv_sub hl [2, 1, 0] rfl) hf
def rm_X11_size : Room := { frames := 2, cells := 0, slots := 0, locals := 44 }
set_option maxRecDepth 100000 in
set_option maxHeartbeats 4000000 in
theorem c_X11_size {l : Launch} {D : va_G} {G : Nat → ClassId} {ad : Nat → Nat → Nat} {u : k_U} (hI : k_ok ad) {w : k_M} (hw : u 5 = w) {a1 : Int32} {sz : Nat} {r : (k_M × Int32)} (hf : f_X11_size w a1 = some r) : Met l yX11_size (.code yX11_size cX11_size 2 (some .int) :: lw_g) rm_X11_size (k_Pre D G ad u sz [.ref (ad 5 0), .int a1]) (k_Qi D G ad (k_uc u 5 r.1) r.2 sz) 0 0 (k_A ad sz) := by
  refine k_ofW (by decide +kernel) hI (Nat.le_of_ble_eq_true rfl) ?_
  intro p e s m args below meth c X hr hlk hU hS ls hl
  have hl : lv_has ls 2 [(0, .ref (ad 5 0)), (1, .int a1)] := hl
  have hU : k_Uv D G ad (k_uc u 5 w) s.heap := by rw [← hw, k_uc_id]; exact hU
  unfold f_X11_size at hf
  refine lv_aload_n X.1 X.2.1 dX11_size_0 rfl (lv_at hl 0 rfl) ?_
  refine lv_iload_n X.1 X.2.1 dX11_size_1 rfl (lv_at hl 1 rfl) ?_
  refine lv_bipush (v := 15) X.1 X.2.1 dX11_size_2 (by decide) ?_
  obtain ⟨r4, hr4, hf⟩ := k_bdE hf
  refine k_backi X hS (k_runV (As := [.int a1, .int 15]) (rest := []) X hS hU sh_5_0 (by decide) rfl vl_X11_170 (c_X11_noPart X.2.2.2.2.2.2.1 (k_uc_s _ _ _) hr4) rfl rfl rfl hl.1 ⟨Nat.le_of_ble_eq_true rfl, Nat.le_of_ble_eq_true rfl⟩ (Nat.le_of_ble_eq_true rfl) dX11_size_4 ⟨Nat.zero_le _, Nat.zero_le _⟩) (fun H locs hU hS => ?_)
  rw [k_uc_uc] at hU
  refine lv_if_eq (tgt := 12) X.1 X.2.1 dX11_size_7 (by decide) (fun c7 => ?_) (fun c7 => ?_)
  · replace hf := k_ifP hf c7
    refine lv_iload_n X.1 X.2.1 dX11_size_12 rfl (lv_at hl 1 rfl) ?_
    by_cases c13_0 : a1 = 0
    · replace hf := k_ifP hf c13_0
      refine lv_tableIn (x := a1) (off := 75) (tgt := 88) X.1 X.2.1 dX11_size_13 (by rw [c13_0]; decide) (by rw [c13_0]; decide) (by rw [c13_0]; rfl) (by decide) ?_
      refine lv_aload_n X.1 X.2.1 dX11_size_88 rfl (lv_at hl 0 rfl) ?_
      refine k_getw (v := .ref (ad 5 1)) X hU sh_5_0 fl_X11_7 rfl dX11_size_89 ?_
      refine lv_bipush (v := 8) X.1 X.2.1 dX11_size_92 (by decide) ?_
      refine k_ildw (j0 := 8) X hU sh_5_1 (k_vin (N := 268) (by decide) (by decide)) (by decide) dX11_size_94 ?_
      have hz := Option.some.inj hf
      subst hz
      exact k_iret (v := r4.1 1 8) X hU hS hr hlk rfl rfl dX11_size_95
    replace hf := k_ifN hf c13_0
    by_cases c13_1 : a1 = 1
    · replace hf := k_ifP hf c13_1
      refine lv_tableIn (x := a1) (off := 83) (tgt := 96) X.1 X.2.1 dX11_size_13 (by rw [c13_1]; decide) (by rw [c13_1]; decide) (by rw [c13_1]; rfl) (by decide) ?_
      refine lv_aload_n X.1 X.2.1 dX11_size_96 rfl (lv_at hl 0 rfl) ?_
      refine k_getw (v := .ref (ad 5 1)) X hU sh_5_0 fl_X11_7 rfl dX11_size_97 ?_
      refine lv_bipush (v := 9) X.1 X.2.1 dX11_size_100 (by decide) ?_
      refine k_ildw (j0 := 9) X hU sh_5_1 (k_vin (N := 268) (by decide) (by decide)) (by decide) dX11_size_102 ?_
      have hz := Option.some.inj hf
      subst hz
      exact k_iret (v := r4.1 1 9) X hU hS hr hlk rfl rfl dX11_size_103
    replace hf := k_ifN hf c13_1
    by_cases c13_2 : a1 = 2
    · replace hf := k_ifP hf c13_2
      refine lv_tableIn (x := a1) (off := 91) (tgt := 104) X.1 X.2.1 dX11_size_13 (by rw [c13_2]; decide) (by rw [c13_2]; decide) (by rw [c13_2]; rfl) (by decide) ?_
      refine lv_aload_n X.1 X.2.1 dX11_size_104 rfl (lv_at hl 0 rfl) ?_
      refine k_getw (v := .ref (ad 5 1)) X hU sh_5_0 fl_X11_7 rfl dX11_size_105 ?_
      refine lv_bipush (v := 10) X.1 X.2.1 dX11_size_108 (by decide) ?_
      refine k_ildw (j0 := 10) X hU sh_5_1 (k_vin (N := 268) (by decide) (by decide)) (by decide) dX11_size_110 ?_
      have hz := Option.some.inj hf
      subst hz
      exact k_iret (v := r4.1 1 10) X hU hS hr hlk rfl rfl dX11_size_111
    replace hf := k_ifN hf c13_2
    by_cases c13_3 : a1 = 3
    · replace hf := k_ifP hf c13_3
      refine lv_tableIn (x := a1) (off := 99) (tgt := 112) X.1 X.2.1 dX11_size_13 (by rw [c13_3]; decide) (by rw [c13_3]; decide) (by rw [c13_3]; rfl) (by decide) ?_
      refine lv_aload_n X.1 X.2.1 dX11_size_112 rfl (lv_at hl 0 rfl) ?_
      refine k_getw (v := .ref (ad 5 1)) X hU sh_5_0 fl_X11_7 rfl dX11_size_113 ?_
      refine lv_bipush (v := 11) X.1 X.2.1 dX11_size_116 (by decide) ?_
      refine k_ildw (j0 := 11) X hU sh_5_1 (k_vin (N := 268) (by decide) (by decide)) (by decide) dX11_size_118 ?_
      have hz := Option.some.inj hf
      subst hz
      exact k_iret (v := r4.1 1 11) X hU hS hr hlk rfl rfl dX11_size_119
    replace hf := k_ifN hf c13_3
    by_cases c13_4 : a1 = 4
    · replace hf := k_ifP hf c13_4
      refine lv_tableIn (x := a1) (off := 107) (tgt := 120) X.1 X.2.1 dX11_size_13 (by rw [c13_4]; decide) (by rw [c13_4]; decide) (by rw [c13_4]; rfl) (by decide) ?_
      refine lv_aload_n X.1 X.2.1 dX11_size_120 rfl (lv_at hl 0 rfl) ?_
      refine k_getw (v := .ref (ad 5 1)) X hU sh_5_0 fl_X11_7 rfl dX11_size_121 ?_
      refine lv_bipush (v := 12) X.1 X.2.1 dX11_size_124 (by decide) ?_
      refine k_ildw (j0 := 12) X hU sh_5_1 (k_vin (N := 268) (by decide) (by decide)) (by decide) dX11_size_126 ?_
      have hz := Option.some.inj hf
      subst hz
      exact k_iret (v := r4.1 1 12) X hU hS hr hlk rfl rfl dX11_size_127
    replace hf := k_ifN hf c13_4
    by_cases c13_5 : a1 = 5
    · replace hf := k_ifP hf c13_5
      refine lv_tableIn (x := a1) (off := 115) (tgt := 128) X.1 X.2.1 dX11_size_13 (by rw [c13_5]; decide) (by rw [c13_5]; decide) (by rw [c13_5]; rfl) (by decide) ?_
      refine lv_aload_n X.1 X.2.1 dX11_size_128 rfl (lv_at hl 0 rfl) ?_
      refine k_getw (v := .ref (ad 5 1)) X hU sh_5_0 fl_X11_7 rfl dX11_size_129 ?_
      refine lv_bipush (v := 7) X.1 X.2.1 dX11_size_132 (by decide) ?_
      refine k_ildw (j0 := 7) X hU sh_5_1 (k_vin (N := 268) (by decide) (by decide)) (by decide) dX11_size_134 ?_
      have hz := Option.some.inj hf
      subst hz
      exact k_iret (v := r4.1 1 7) X hU hS hr hlk rfl rfl dX11_size_135
    replace hf := k_ifN hf c13_5
    by_cases c13_6 : a1 = 6
    · replace hf := k_ifP hf c13_6
      refine lv_tableIn (x := a1) (off := 123) (tgt := 136) X.1 X.2.1 dX11_size_13 (by rw [c13_6]; decide) (by rw [c13_6]; decide) (by rw [c13_6]; rfl) (by decide) ?_
      refine lv_aload_n X.1 X.2.1 dX11_size_136 rfl (lv_at hl 0 rfl) ?_
      refine lv_iconst (v := 1) X.1 X.2.1 dX11_size_137 (by decide) ?_
      obtain ⟨r138, hr138, hf⟩ := k_bdE hf
      refine k_backi X hS (k_runV (As := [.int 1]) (rest := []) X hS hU sh_5_0 (by decide) rfl vl_X11_173 (c_X11_inState X.2.2.2.2.2.2.1 (k_uc_s _ _ _) hr138) rfl rfl rfl hl.1 ⟨Nat.le_of_ble_eq_true rfl, Nat.le_of_ble_eq_true rfl⟩ (Nat.le_of_ble_eq_true rfl) dX11_size_138 ⟨Nat.zero_le _, Nat.zero_le _⟩) (fun H locs hU hS => ?_)
      have hz := Option.some.inj hf
      subst hz
      exact k_iret (v := r138) X hU hS hr hlk rfl rfl dX11_size_141
    replace hf := k_ifN hf c13_6
    by_cases c13_7 : a1 = 7
    · replace hf := k_ifP hf c13_7
      refine lv_tableIn (x := a1) (off := 129) (tgt := 142) X.1 X.2.1 dX11_size_13 (by rw [c13_7]; decide) (by rw [c13_7]; decide) (by rw [c13_7]; rfl) (by decide) ?_
      refine lv_aload_n X.1 X.2.1 dX11_size_142 rfl (lv_at hl 0 rfl) ?_
      obtain ⟨r143, hr143, hf⟩ := k_bdE hf
      refine k_backi X hS (k_runV (As := []) (rest := []) X hS hU sh_5_0 (by decide) rfl vl_X11_72 (c_X11_failed X.2.2.2.2.2.2.1 (k_uc_s _ _ _) hr143) rfl rfl rfl hl.1 ⟨Nat.le_of_ble_eq_true rfl, Nat.le_of_ble_eq_true rfl⟩ (Nat.le_of_ble_eq_true rfl) dX11_size_143 ⟨Nat.zero_le _, Nat.zero_le _⟩) (fun H locs hU hS => ?_)
      have hz := Option.some.inj hf
      subst hz
      exact k_iret (v := r143) X hU hS hr hlk rfl rfl dX11_size_146
    replace hf := k_ifN hf c13_7
    by_cases c13_8 : a1 = 8
    · replace hf := k_ifP hf c13_8
      refine lv_tableIn (x := a1) (off := 134) (tgt := 147) X.1 X.2.1 dX11_size_13 (by rw [c13_8]; decide) (by rw [c13_8]; decide) (by rw [c13_8]; rfl) (by decide) ?_
      refine lv_aload_n X.1 X.2.1 dX11_size_147 rfl (lv_at hl 0 rfl) ?_
      refine k_getw (v := .ref (ad 5 1)) X hU sh_5_0 fl_X11_7 rfl dX11_size_148 ?_
      refine lv_bipush (v := 16) X.1 X.2.1 dX11_size_151 (by decide) ?_
      refine k_ildw (j0 := 16) X hU sh_5_1 (k_vin (N := 268) (by decide) (by decide)) (by decide) dX11_size_153 ?_
      have hz := Option.some.inj hf
      subst hz
      exact k_iret (v := r4.1 1 16) X hU hS hr hlk rfl rfl dX11_size_154
    replace hf := k_ifN hf c13_8
    by_cases c13_9 : a1 = 9
    · replace hf := k_ifP hf c13_9
      refine lv_tableIn (x := a1) (off := 142) (tgt := 155) X.1 X.2.1 dX11_size_13 (by rw [c13_9]; decide) (by rw [c13_9]; decide) (by rw [c13_9]; rfl) (by decide) ?_
      refine lv_aload_n X.1 X.2.1 dX11_size_155 rfl (lv_at hl 0 rfl) ?_
      refine k_getw (v := .int (r4.1 0 8)) X hU sh_5_0 fl_X11_176 rfl dX11_size_156 ?_
      have hz := Option.some.inj hf
      subst hz
      exact k_iret (v := r4.1 0 8) X hU hS hr hlk rfl rfl dX11_size_159
    replace hf := k_ifN hf c13_9
    by_cases c13_10 : a1 = 10
    · replace hf := k_ifP hf c13_10
      refine lv_tableIn (x := a1) (off := 147) (tgt := 160) X.1 X.2.1 dX11_size_13 (by rw [c13_10]; decide) (by rw [c13_10]; decide) (by rw [c13_10]; rfl) (by decide) ?_
      refine lv_aload_n X.1 X.2.1 dX11_size_160 rfl (lv_at hl 0 rfl) ?_
      obtain ⟨r161, hr161, hf⟩ := k_bdE hf
      refine k_backi X hS (k_runV (As := []) (rest := []) X hS hU sh_5_0 (by decide) rfl vl_X11_179 (c_X11_allLines X.2.2.2.2.2.2.1 (k_uc_s _ _ _) hr161) rfl rfl rfl hl.1 ⟨Nat.le_of_ble_eq_true rfl, Nat.le_of_ble_eq_true rfl⟩ (Nat.le_of_ble_eq_true rfl) dX11_size_161 ⟨Nat.zero_le _, Nat.zero_le _⟩) (fun H locs hU hS => ?_)
      have hz := Option.some.inj hf
      subst hz
      exact k_iret (v := r161) X hU hS hr hlk rfl rfl dX11_size_164
    replace hf := k_ifN hf c13_10
    by_cases c13_11 : a1 = 11
    · replace hf := k_ifP hf c13_11
      refine lv_tableIn (x := a1) (off := 152) (tgt := 165) X.1 X.2.1 dX11_size_13 (by rw [c13_11]; decide) (by rw [c13_11]; decide) (by rw [c13_11]; rfl) (by decide) ?_
      refine lv_aload_n X.1 X.2.1 dX11_size_165 rfl (lv_at hl 0 rfl) ?_
      obtain ⟨r166, hr166, hf⟩ := k_bdE hf
      refine k_backi X hS (k_runV (As := []) (rest := []) X hS hU sh_5_0 (by decide) rfl vl_X11_182 (c_X11_linesThere X.2.2.2.2.2.2.1 (k_uc_s _ _ _) hr166) rfl rfl rfl hl.1 ⟨Nat.le_of_ble_eq_true rfl, Nat.le_of_ble_eq_true rfl⟩ (Nat.le_of_ble_eq_true rfl) dX11_size_166 ⟨Nat.zero_le _, Nat.zero_le _⟩) (fun H locs hU hS => ?_)
      have hz := Option.some.inj hf
      subst hz
      exact k_iret (v := r166) X hU hS hr hlk rfl rfl dX11_size_169
    replace hf := k_ifN hf c13_11
    by_cases c13_12 : a1 = 12
    · replace hf := k_ifP hf c13_12
      refine lv_tableIn (x := a1) (off := 157) (tgt := 170) X.1 X.2.1 dX11_size_13 (by rw [c13_12]; decide) (by rw [c13_12]; decide) (by rw [c13_12]; rfl) (by decide) ?_
      refine lv_aload_n X.1 X.2.1 dX11_size_170 rfl (lv_at hl 0 rfl) ?_
      obtain ⟨r171, hr171, hf⟩ := k_bdE hf
      refine k_backi X hS (k_runV (As := []) (rest := []) X hS hU sh_5_0 (by decide) rfl vl_X11_179 (c_X11_allLines X.2.2.2.2.2.2.1 (k_uc_s _ _ _) hr171) rfl rfl rfl hl.1 ⟨Nat.le_of_ble_eq_true rfl, Nat.le_of_ble_eq_true rfl⟩ (Nat.le_of_ble_eq_true rfl) dX11_size_171 ⟨Nat.zero_le _, Nat.zero_le _⟩) (fun H locs hU hS => ?_)
      refine lv_aload_n X.1 X.2.1 dX11_size_174 rfl (lv_at hl 0 rfl) ?_
      obtain ⟨r175, hr175, hf⟩ := k_bdE hf
      refine k_backi X hS (k_runV (As := []) (rest := [.int r171]) X hS hU sh_5_0 (by decide) rfl vl_X11_182 (c_X11_linesThere X.2.2.2.2.2.2.1 (k_uc_s _ _ _) hr175) rfl rfl rfl hl.1 ⟨Nat.le_of_ble_eq_true rfl, Nat.le_of_ble_eq_true rfl⟩ (Nat.le_of_ble_eq_true rfl) dX11_size_175 ⟨Nat.zero_le _, Nat.zero_le _⟩) (fun H locs hU hS => ?_)
      refine lv_isub X.1 X.2.1 dX11_size_178 ?_
      refine lv_aload_n X.1 X.2.1 dX11_size_179 rfl (lv_at hl 0 rfl) ?_
      refine k_getw (v := .ref (ad 5 1)) X hU sh_5_0 fl_X11_7 rfl dX11_size_180 ?_
      refine lv_bipush (v := 15) X.1 X.2.1 dX11_size_183 (by decide) ?_
      refine k_ildw (j0 := 15) X hU sh_5_1 (k_vin (N := 268) (by decide) (by decide)) (by decide) dX11_size_185 ?_
      refine lv_isub X.1 X.2.1 dX11_size_186 ?_
      have hz := Option.some.inj hf
      subst hz
      exact k_iret (v := ((r171 - r175) - (r4.1 1 15))) X hU hS hr hlk rfl rfl dX11_size_187
    replace hf := k_ifN hf c13_12
    by_cases c13_13 : a1 = 13
    · replace hf := k_ifP hf c13_13
      refine lv_tableIn (x := a1) (off := 175) (tgt := 188) X.1 X.2.1 dX11_size_13 (by rw [c13_13]; decide) (by rw [c13_13]; decide) (by rw [c13_13]; rfl) (by decide) ?_
      refine lv_aload_n X.1 X.2.1 dX11_size_188 rfl (lv_at hl 0 rfl) ?_
      refine k_getw (v := .ref (ad 5 1)) X hU sh_5_0 fl_X11_7 rfl dX11_size_189 ?_
      refine lv_bipush (v := 15) X.1 X.2.1 dX11_size_192 (by decide) ?_
      refine k_ildw (j0 := 15) X hU sh_5_1 (k_vin (N := 268) (by decide) (by decide)) (by decide) dX11_size_194 ?_
      have hz := Option.some.inj hf
      subst hz
      exact k_iret (v := r4.1 1 15) X hU hS hr hlk rfl rfl dX11_size_195
    replace hf := k_ifN hf c13_13
    by_cases c13_14 : a1 = 14
    · replace hf := k_ifP hf c13_14
      refine lv_tableIn (x := a1) (off := 183) (tgt := 196) X.1 X.2.1 dX11_size_13 (by rw [c13_14]; decide) (by rw [c13_14]; decide) (by rw [c13_14]; rfl) (by decide) ?_
      refine lv_aload_n X.1 X.2.1 dX11_size_196 rfl (lv_at hl 0 rfl) ?_
      refine k_getw (v := .ref (ad 5 1)) X hU sh_5_0 fl_X11_7 rfl dX11_size_197 ?_
      refine lv_bipush (v := 13) X.1 X.2.1 dX11_size_200 (by decide) ?_
      refine k_ildw (j0 := 13) X hU sh_5_1 (k_vin (N := 268) (by decide) (by decide)) (by decide) dX11_size_202 ?_
      have hz := Option.some.inj hf
      subst hz
      exact k_iret (v := r4.1 1 13) X hU hS hr hlk rfl rfl dX11_size_203
    replace hf := k_ifN hf c13_14
    have ho13 : (a1).toInt < 0 ∨ 14 < (a1).toInt := by
      have g0 := k_tne (n := 0) (z := 0) c13_0 (by decide)
      have g1 := k_tne (n := 1) (z := 1) c13_1 (by decide)
      have g2 := k_tne (n := 2) (z := 2) c13_2 (by decide)
      have g3 := k_tne (n := 3) (z := 3) c13_3 (by decide)
      have g4 := k_tne (n := 4) (z := 4) c13_4 (by decide)
      have g5 := k_tne (n := 5) (z := 5) c13_5 (by decide)
      have g6 := k_tne (n := 6) (z := 6) c13_6 (by decide)
      have g7 := k_tne (n := 7) (z := 7) c13_7 (by decide)
      have g8 := k_tne (n := 8) (z := 8) c13_8 (by decide)
      have g9 := k_tne (n := 9) (z := 9) c13_9 (by decide)
      have g10 := k_tne (n := 10) (z := 10) c13_10 (by decide)
      have g11 := k_tne (n := 11) (z := 11) c13_11 (by decide)
      have g12 := k_tne (n := 12) (z := 12) c13_12 (by decide)
      have g13 := k_tne (n := 13) (z := 13) c13_13 (by decide)
      have g14 := k_tne (n := 14) (z := 14) c13_14 (by decide)
      omega
    refine lv_tableOut (x := a1) (tgt := 204) X.1 X.2.1 dX11_size_13 ho13 (by decide) ?_
    refine lv_aload_n X.1 X.2.1 dX11_size_204 rfl (lv_at hl 0 rfl) ?_
    refine k_getw (v := .ref (ad 5 1)) X hU sh_5_0 fl_X11_7 rfl dX11_size_205 ?_
    refine lv_bipush (v := 14) X.1 X.2.1 dX11_size_208 (by decide) ?_
    refine k_ildw (j0 := 14) X hU sh_5_1 (k_vin (N := 268) (by decide) (by decide)) (by decide) dX11_size_210 ?_
    have hz := Option.some.inj hf
    subst hz
    exact k_iret (v := r4.1 1 14) X hU hS hr hlk rfl rfl dX11_size_211
  · replace hf := k_ifN hf c7
    refine lv_iconst (v := 0) X.1 X.2.1 dX11_size_10 (by decide) ?_
    have hz := Option.some.inj hf
    subst hz
    exact k_iret (v := 0) X hU hS hr hlk rfl rfl dX11_size_11
def rm_X11_chute : Room := { frames := 2, cells := 0, slots := 0, locals := 43 }
set_option maxRecDepth 100000 in
set_option maxHeartbeats 4000000 in
theorem c_X11_chute {l : Launch} {D : va_G} {G : Nat → ClassId} {ad : Nat → Nat → Nat} {u : k_U} (hI : k_ok ad) {w : k_M} (hw : u 5 = w) {a1 : Int32} {a2 : Int32} {sz : Nat} {r : (k_M × Int32)} (hf : f_X11_chute w a1 a2 = some r) : Met l yX11_chute (.code yX11_chute cX11_chute 4 (some .int) :: lw_g) rm_X11_chute (k_Pre D G ad u sz [.ref (ad 5 0), .int a1, .int a2]) (k_Qi D G ad (k_uc u 5 r.1) r.2 sz) 0 0 (k_A ad sz) := by
  refine k_ofW (by decide +kernel) hI (Nat.le_of_ble_eq_true rfl) ?_
  intro p e s m args below meth c X hr hlk hU hS ls hl
  have hl : lv_has ls 4 [(0, .ref (ad 5 0)), (1, .int a1), (2, .int a2)] := hl
  have hU : k_Uv D G ad (k_uc u 5 w) s.heap := by rw [← hw, k_uc_id]; exact hU
  have J29 : ∀ (H : Heap) (locs : List Loc) (ls : Array Slot) (w : k_M) (a1 : Int32) (a2 : Int32) (as0 : Int32), k_Uv D G ad (k_uc u 5 w) H → va_S (k_A ad sz) s.heap H locs → lv_has ls 4 [(0, .ref (ad 5 0)), (1, .int a1), (2, .int a2)] → f_X11_chute_29 w a1 a2 as0 = some r → W p l e rm_X11_chute s m args below meth c H locs 0 0 (MQ below (k_Qi D G ad (k_uc u 5 r.1) r.2 sz) args s 0 0 (k_A ad sz)) (F0 m 29 ls [.int as0, .ref (ad 5 0)]) := by
    intro H locs ls w a1 a2 as0 hU hS hl hf
    unfold f_X11_chute_29 at hf
    refine lv_iconst (v := 2) X.1 X.2.1 dX11_chute_29 (by decide) ?_
    obtain ⟨r30, hr30, hf⟩ := k_bdE hf
    refine k_backi X hS (k_runV (As := [.int as0, .int 2]) (rest := []) X hS hU sh_5_0 (by decide) rfl vl_X11_61 (c_X11_throwsIf X.2.2.2.2.2.2.1 (k_uc_s _ _ _) hr30) rfl rfl rfl hl.1 ⟨Nat.le_of_ble_eq_true rfl, Nat.le_of_ble_eq_true rfl⟩ (Nat.le_of_ble_eq_true rfl) dX11_chute_30 ⟨Nat.zero_le _, Nat.zero_le _⟩) (fun H locs hU hS => ?_)
    rw [k_uc_uc] at hU
    refine lv_if_eq (tgt := 38) X.1 X.2.1 dX11_chute_33 (by decide) (fun c33 => ?_) (fun c33 => ?_)
    · replace hf := k_ifP hf c33
      refine lv_aload_n X.1 X.2.1 dX11_chute_38 rfl (lv_at hl 0 rfl) ?_
      refine lv_iload_n X.1 X.2.1 dX11_chute_39 rfl (lv_at hl 1 rfl) ?_
      obtain ⟨r40, hr40, hf⟩ := k_bdE hf
      refine k_backi X hS (k_runV (As := [.int a1]) (rest := []) X hS hU sh_5_0 (by decide) rfl vl_X11_188 (c_X11_placeOf X.2.2.2.2.2.2.1 (k_uc_s _ _ _) hr40) rfl rfl rfl hl.1 ⟨Nat.le_of_ble_eq_true rfl, Nat.le_of_ble_eq_true rfl⟩ (Nat.le_of_ble_eq_true rfl) dX11_chute_40 ⟨Nat.zero_le _, Nat.zero_le _⟩) (fun H locs hU hS => ?_)
      refine lv_istore_n (lv' := [(3, .int r40), (0, .ref (ad 5 0)), (1, .int a1), (2, .int a2)]) X.1 X.2.1 dX11_chute_43 rfl hl (by decide) rfl (fun ls hl => ?_)
      refine lv_iload_n X.1 X.2.1 dX11_chute_44 rfl (lv_at hl 3 rfl) ?_
      refine lv_bipush (v := 6) X.1 X.2.1 dX11_chute_45 (by decide) ?_
      refine lv_icmp_ne (tgt := 80) X.1 X.2.1 dX11_chute_47 (by decide) (fun c47 => ?_) (fun c47 => ?_)
      · replace hf := k_ifN hf c47
        refine lv_aload_n X.1 X.2.1 dX11_chute_80 rfl (lv_at hl 1 rfl) ?_
        refine k_getw (v := .ref (ad 5 1)) X hU sh_5_0 fl_X11_7 rfl dX11_chute_81 ?_
        refine lv_bipush (v := 20) X.1 X.2.1 dX11_chute_84 (by decide) ?_
        refine lv_bipush (v := 9) X.1 X.2.1 dX11_chute_86 (by decide) ?_
        refine lv_iload_n X.1 X.2.1 dX11_chute_88 rfl (lv_at hl 3 rfl) ?_
        refine lv_imul X.1 X.2.1 dX11_chute_89 ?_
        refine lv_iadd X.1 X.2.1 dX11_chute_90 ?_
        refine lv_iload_n X.1 X.2.1 dX11_chute_91 rfl (lv_at hl 0 rfl) ?_
        refine lv_iadd X.1 X.2.1 dX11_chute_92 ?_
        obtain ⟨hi93, hf⟩ := k_ckE hf
        refine k_ildw (j0 := ((20 + (9 * a2)) + r40).toNatClampNeg) X hU sh_5_1 (k_vin (n := 268) hi93 (by decide)) rfl dX11_chute_93 ?_
        have hz := Option.some.inj hf
        subst hz
        exact k_iret (v := r30.1 1 (((20 + (9 * a2)) + r40).toNatClampNeg)) X hU hS hr hlk rfl rfl dX11_chute_94
      · replace hf := k_ifP hf c47
        refine lv_aload_n X.1 X.2.1 dX11_chute_50 rfl (lv_at hl 1 rfl) ?_
        refine k_getw (v := .ref (ad 5 1)) X hU sh_5_0 fl_X11_7 rfl dX11_chute_51 ?_
        refine lv_bipush (v := 65) X.1 X.2.1 dX11_chute_54 (by decide) ?_
        refine lv_iload_n X.1 X.2.1 dX11_chute_56 rfl (lv_at hl 0 rfl) ?_
        refine lv_iadd X.1 X.2.1 dX11_chute_57 ?_
        obtain ⟨hi58, hf⟩ := k_ckE hf
        refine k_ildw (j0 := (65 + r40).toNatClampNeg) X hU sh_5_1 (k_vin (n := 268) hi58 (by decide)) rfl dX11_chute_58 ?_
        refine lv_iconst (v := 4) X.1 X.2.1 dX11_chute_59 (by decide) ?_
        refine lv_icmp_ne (tgt := 67) X.1 X.2.1 dX11_chute_60 (by decide) (fun c60 => ?_) (fun c60 => ?_)
        · replace hf := k_ifN hf c60
          refine lv_aload_n X.1 X.2.1 dX11_chute_67 rfl (lv_at hl 1 rfl) ?_
          refine k_getw (v := .ref (ad 5 1)) X hU sh_5_0 fl_X11_7 rfl dX11_chute_68 ?_
          refine lv_bipush (v := 74) X.1 X.2.1 dX11_chute_71 (by decide) ?_
          refine lv_iload_n X.1 X.2.1 dX11_chute_73 rfl (lv_at hl 0 rfl) ?_
          refine lv_iadd X.1 X.2.1 dX11_chute_74 ?_
          obtain ⟨hi75, hf⟩ := k_ckE hf
          refine k_ildw (j0 := (74 + r40).toNatClampNeg) X hU sh_5_1 (k_vin (n := 268) hi75 (by decide)) rfl dX11_chute_75 ?_
          obtain ⟨r76, hr76, hf⟩ := k_bdE hf
          refine k_backi X hS (k_runS (As := [.int (r30.1 1 ((74 + r40).toNatClampNeg))]) (rest := []) X hS hU sl_X11_100 (c_X11_bits X.2.2.2.2.2.2.1 hr76) rfl rfl rfl hl.1 ⟨Nat.le_of_ble_eq_true rfl, Nat.le_of_ble_eq_true rfl⟩ (Nat.le_of_ble_eq_true rfl) dX11_chute_76 ⟨Nat.zero_le _, Nat.zero_le _⟩) (fun H locs hU hS => ?_)
          have hz := Option.some.inj hf
          subst hz
          exact k_iret (v := r76) X hU hS hr hlk rfl rfl dX11_chute_79
        · replace hf := k_ifP hf c60
          refine lv_iconst (v := 0) X.1 X.2.1 dX11_chute_63 (by decide) ?_
          refine lv_goto (tgt := 79) X.1 X.2.1 dX11_chute_64 (by decide) ?_
          have hz := Option.some.inj hf
          subst hz
          exact k_iret (v := 0) X hU hS hr hlk rfl rfl dX11_chute_79
    · replace hf := k_ifN hf c33
      refine lv_iconst (v := 0) X.1 X.2.1 dX11_chute_36 (by decide) ?_
      have hz := Option.some.inj hf
      subst hz
      exact k_iret (v := 0) X hU hS hr hlk rfl rfl dX11_chute_37
  unfold f_X11_chute at hf
  refine lv_aload_n X.1 X.2.1 dX11_chute_0 rfl (lv_at hl 0 rfl) ?_
  refine lv_iconst (v := 0) X.1 X.2.1 dX11_chute_1 (by decide) ?_
  obtain ⟨w2, e2, hf⟩ := k_ltE hf
  refine k_putw X hU hS sh_5_0 fp_X11_50 rfl e2 rfl rfl dX11_chute_2 (fun H locs hU hS => ?_)
  refine lv_aload_n X.1 X.2.1 dX11_chute_5 rfl (lv_at hl 0 rfl) ?_
  refine lv_iload_n X.1 X.2.1 dX11_chute_6 rfl (lv_at hl 1 rfl) ?_
  obtain ⟨r7, hr7, hf⟩ := k_bdE hf
  refine k_backi X hS (k_runV (As := [.int a1]) (rest := []) X hS hU sh_5_0 (by decide) rfl vl_X11_185 (c_X11_noChute X.2.2.2.2.2.2.1 (k_uc_s _ _ _) hr7) rfl rfl rfl hl.1 ⟨Nat.le_of_ble_eq_true rfl, Nat.le_of_ble_eq_true rfl⟩ (Nat.le_of_ble_eq_true rfl) dX11_chute_7 ⟨Nat.zero_le _, Nat.zero_le _⟩) (fun H locs hU hS => ?_)
  rw [k_uc_uc] at hU
  refine lv_if_ne (tgt := 36) X.1 X.2.1 dX11_chute_10 (by decide) (fun c10 => ?_) (fun c10 => ?_)
  · replace hf := k_ifN hf c10
    refine lv_iconst (v := 0) X.1 X.2.1 dX11_chute_36 (by decide) ?_
    have hz := Option.some.inj hf
    subst hz
    exact k_iret (v := 0) X hU hS hr hlk rfl rfl dX11_chute_37
  · replace hf := k_ifP hf c10
    refine lv_aload_n X.1 X.2.1 dX11_chute_13 rfl (lv_at hl 0 rfl) ?_
    refine lv_iload_n X.1 X.2.1 dX11_chute_14 rfl (lv_at hl 2 rfl) ?_
    refine lv_iconst (v := 0) X.1 X.2.1 dX11_chute_15 (by decide) ?_
    refine lv_bipush (v := 7) X.1 X.2.1 dX11_chute_16 (by decide) ?_
    obtain ⟨r18, hr18, hf⟩ := k_bdE hf
    refine k_backi X hS (k_runS (As := [.int a2, .int 0, .int 7]) (rest := [.ref (ad 5 0)]) X hS hU sl_X11_57 (c_X11_within X.2.2.2.2.2.2.1 hr18) rfl rfl rfl hl.1 ⟨Nat.le_of_ble_eq_true rfl, Nat.le_of_ble_eq_true rfl⟩ (Nat.le_of_ble_eq_true rfl) dX11_chute_18 ⟨Nat.zero_le _, Nat.zero_le _⟩) (fun H locs hU hS => ?_)
    refine lv_if_ne (tgt := 28) X.1 X.2.1 dX11_chute_21 (by decide) (fun c21 => ?_) (fun c21 => ?_)
    · replace hf := k_ifN hf c21
      refine lv_iconst (v := 0) X.1 X.2.1 dX11_chute_28 (by decide) ?_
      exact J29 _ _ _ r7.1 a1 a2 0 hU hS (lv_sub hl [0, 1, 2] rfl) hf
    · replace hf := k_ifP hf c21
      refine lv_iconst (v := 1) X.1 X.2.1 dX11_chute_24 (by decide) ?_
      refine lv_goto (tgt := 29) X.1 X.2.1 dX11_chute_25 (by decide) ?_
      exact J29 _ _ _ r7.1 a1 a2 1 hU hS (lv_sub hl [0, 1, 2] rfl) hf
def rm_X11_line : Room := { frames := 2, cells := 0, slots := 0, locals := 43 }
set_option maxRecDepth 100000 in
set_option maxHeartbeats 4000000 in
theorem c_X11_line {l : Launch} {D : va_G} {G : Nat → ClassId} {ad : Nat → Nat → Nat} {u : k_U} (hI : k_ok ad) {w : k_M} (hw : u 5 = w) {a1 : Int32} {a2 : Int32} {sz : Nat} {r : (k_M × Int32)} (hf : f_X11_line w a1 a2 = some r) : Met l yX11_line (.code yX11_line cX11_line 4 (some .int) :: lw_g) rm_X11_line (k_Pre D G ad u sz [.ref (ad 5 0), .int a1, .int a2]) (k_Qi D G ad (k_uc u 5 r.1) r.2 sz) 0 0 (k_A ad sz) := by
  refine k_ofW (by decide +kernel) hI (Nat.le_of_ble_eq_true rfl) ?_
  intro p e s m args below meth c X hr hlk hU hS ls hl
  have hl : lv_has ls 4 [(0, .ref (ad 5 0)), (1, .int a1), (2, .int a2)] := hl
  have hU : k_Uv D G ad (k_uc u 5 w) s.heap := by rw [← hw, k_uc_id]; exact hU
  have J42 : ∀ (H : Heap) (locs : List Loc) (ls : Array Slot) (w : k_M) (a1 : Int32) (a2 : Int32) (as0 : Int32), k_Uv D G ad (k_uc u 5 w) H → va_S (k_A ad sz) s.heap H locs → lv_has ls 4 [(0, .ref (ad 5 0)), (1, .int a1), (2, .int a2)] → f_X11_line_42 w a1 a2 as0 = some r → W p l e rm_X11_line s m args below meth c H locs 0 0 (MQ below (k_Qi D G ad (k_uc u 5 r.1) r.2 sz) args s 0 0 (k_A ad sz)) (F0 m 42 ls [.int as0, .ref (ad 5 0)]) := by
    intro H locs ls w a1 a2 as0 hU hS hl hf
    unfold f_X11_line_42 at hf
    refine lv_iconst (v := 1) X.1 X.2.1 dX11_line_42 (by decide) ?_
    obtain ⟨r43, hr43, hf⟩ := k_bdE hf
    refine k_backi X hS (k_runV (As := [.int as0, .int 1]) (rest := []) X hS hU sh_5_0 (by decide) rfl vl_X11_61 (c_X11_throwsIf X.2.2.2.2.2.2.1 (k_uc_s _ _ _) hr43) rfl rfl rfl hl.1 ⟨Nat.le_of_ble_eq_true rfl, Nat.le_of_ble_eq_true rfl⟩ (Nat.le_of_ble_eq_true rfl) dX11_line_43 ⟨Nat.zero_le _, Nat.zero_le _⟩) (fun H locs hU hS => ?_)
    rw [k_uc_uc] at hU
    refine lv_if_eq (tgt := 51) X.1 X.2.1 dX11_line_46 (by decide) (fun c46 => ?_) (fun c46 => ?_)
    · replace hf := k_ifP hf c46
      refine lv_aload_n X.1 X.2.1 dX11_line_51 rfl (lv_at hl 0 rfl) ?_
      refine lv_iload_n X.1 X.2.1 dX11_line_52 rfl (lv_at hl 1 rfl) ?_
      obtain ⟨r53, hr53, hf⟩ := k_bdE hf
      refine k_backi X hS (k_runV (As := [.int a1]) (rest := []) X hS hU sh_5_0 (by decide) rfl vl_X11_188 (c_X11_placeOf X.2.2.2.2.2.2.1 (k_uc_s _ _ _) hr53) rfl rfl rfl hl.1 ⟨Nat.le_of_ble_eq_true rfl, Nat.le_of_ble_eq_true rfl⟩ (Nat.le_of_ble_eq_true rfl) dX11_line_53 ⟨Nat.zero_le _, Nat.zero_le _⟩) (fun H locs hU hS => ?_)
      refine lv_istore_n (lv' := [(3, .int r53), (0, .ref (ad 5 0)), (1, .int a1), (2, .int a2)]) X.1 X.2.1 dX11_line_56 rfl hl (by decide) rfl (fun ls hl => ?_)
      refine lv_aload_n X.1 X.2.1 dX11_line_57 rfl (lv_at hl 1 rfl) ?_
      refine k_getw (v := .ref (ad 5 1)) X hU sh_5_0 fl_X11_7 rfl dX11_line_58 ?_
      refine lv_bipush (v := 74) X.1 X.2.1 dX11_line_61 (by decide) ?_
      refine lv_iload_n X.1 X.2.1 dX11_line_63 rfl (lv_at hl 0 rfl) ?_
      refine lv_iadd X.1 X.2.1 dX11_line_64 ?_
      obtain ⟨hi65, hf⟩ := k_ckE hf
      refine k_ildw (j0 := (74 + r53).toNatClampNeg) X hU sh_5_1 (k_vin (n := 268) hi65 (by decide)) rfl dX11_line_65 ?_
      refine lv_iload_n X.1 X.2.1 dX11_line_66 rfl (lv_at hl 3 rfl) ?_
      obtain ⟨r67, hr67, hf⟩ := k_bdE hf
      refine k_backi X hS (k_runS (As := [.int (r43.1 1 ((74 + r53).toNatClampNeg)), .int a2]) (rest := []) X hS hU sl_X11_107 (c_X11_has X.2.2.2.2.2.2.1 hr67) rfl rfl rfl hl.1 ⟨Nat.le_of_ble_eq_true rfl, Nat.le_of_ble_eq_true rfl⟩ (Nat.le_of_ble_eq_true rfl) dX11_line_67 ⟨Nat.zero_le _, Nat.zero_le _⟩) (fun H locs hU hS => ?_)
      refine lv_if_eq (tgt := 83) X.1 X.2.1 dX11_line_70 (by decide) (fun c70 => ?_) (fun c70 => ?_)
      · replace hf := k_ifP hf c70
        refine lv_iconst (v := (-1)) X.1 X.2.1 dX11_line_83 (by decide) ?_
        have hz := Option.some.inj hf
        subst hz
        exact k_iret (v := (-1)) X hU hS hr hlk rfl rfl dX11_line_84
      · replace hf := k_ifN hf c70
        refine lv_aload_n X.1 X.2.1 dX11_line_73 rfl (lv_at hl 1 rfl) ?_
        refine lv_iload_n X.1 X.2.1 dX11_line_74 rfl (lv_at hl 0 rfl) ?_
        refine lv_iload_n X.1 X.2.1 dX11_line_75 rfl (lv_at hl 3 rfl) ?_
        obtain ⟨r76, hr76, hf⟩ := k_bdE hf
        refine k_backl X hS (k_runV (As := [.int r53, .int a2]) (rest := []) X hS hU sh_5_0 (by decide) rfl vl_X11_111 (c_X11_strength X.2.2.2.2.2.2.1 (k_uc_s _ _ _) hr76) rfl rfl rfl hl.1 ⟨Nat.le_of_ble_eq_true rfl, Nat.le_of_ble_eq_true rfl⟩ (Nat.le_of_ble_eq_true rfl) dX11_line_76 ⟨Nat.zero_le _, Nat.zero_le _⟩) (fun H locs hU hS => ?_)
        refine lv_l2i (v := r76.toInt32) X.1 X.2.1 dX11_line_79 rfl ?_
        refine lv_goto (tgt := 84) X.1 X.2.1 dX11_line_80 (by decide) ?_
        have hz := Option.some.inj hf
        subst hz
        exact k_iret (v := r76.toInt32) X hU hS hr hlk rfl rfl dX11_line_84
    · replace hf := k_ifN hf c46
      refine lv_iconst (v := 0) X.1 X.2.1 dX11_line_49 (by decide) ?_
      have hz := Option.some.inj hf
      subst hz
      exact k_iret (v := 0) X hU hS hr hlk rfl rfl dX11_line_50
  unfold f_X11_line at hf
  refine lv_aload_n X.1 X.2.1 dX11_line_0 rfl (lv_at hl 0 rfl) ?_
  refine lv_iconst (v := 0) X.1 X.2.1 dX11_line_1 (by decide) ?_
  obtain ⟨w2, e2, hf⟩ := k_ltE hf
  refine k_putw X hU hS sh_5_0 fp_X11_50 rfl e2 rfl rfl dX11_line_2 (fun H locs hU hS => ?_)
  refine lv_aload_n X.1 X.2.1 dX11_line_5 rfl (lv_at hl 0 rfl) ?_
  refine lv_iload_n X.1 X.2.1 dX11_line_6 rfl (lv_at hl 1 rfl) ?_
  obtain ⟨r7, hr7, hf⟩ := k_bdE hf
  refine k_backi X hS (k_runV (As := [.int a1]) (rest := []) X hS hU sh_5_0 (by decide) rfl vl_X11_185 (c_X11_noChute X.2.2.2.2.2.2.1 (k_uc_s _ _ _) hr7) rfl rfl rfl hl.1 ⟨Nat.le_of_ble_eq_true rfl, Nat.le_of_ble_eq_true rfl⟩ (Nat.le_of_ble_eq_true rfl) dX11_line_7 ⟨Nat.zero_le _, Nat.zero_le _⟩) (fun H locs hU hS => ?_)
  rw [k_uc_uc] at hU
  refine lv_if_ne (tgt := 49) X.1 X.2.1 dX11_line_10 (by decide) (fun c10 => ?_) (fun c10 => ?_)
  · replace hf := k_ifN hf c10
    refine lv_iconst (v := 0) X.1 X.2.1 dX11_line_49 (by decide) ?_
    have hz := Option.some.inj hf
    subst hz
    exact k_iret (v := 0) X hU hS hr hlk rfl rfl dX11_line_50
  · replace hf := k_ifP hf c10
    refine lv_aload_n X.1 X.2.1 dX11_line_13 rfl (lv_at hl 0 rfl) ?_
    refine lv_iload_n X.1 X.2.1 dX11_line_14 rfl (lv_at hl 2 rfl) ?_
    refine lv_iconst (v := 0) X.1 X.2.1 dX11_line_15 (by decide) ?_
    refine lv_aload_n X.1 X.2.1 dX11_line_16 rfl (lv_at hl 0 rfl) ?_
    refine k_getw (v := .ref (ad 5 1)) X hU sh_5_0 fl_X11_7 rfl dX11_line_17 ?_
    refine lv_bipush (v := 29) X.1 X.2.1 dX11_line_20 (by decide) ?_
    refine lv_aload_n X.1 X.2.1 dX11_line_22 rfl (lv_at hl 0 rfl) ?_
    refine lv_iload_n X.1 X.2.1 dX11_line_23 rfl (lv_at hl 1 rfl) ?_
    obtain ⟨r24, hr24, hf⟩ := k_bdE hf
    refine k_backi X hS (k_runV (As := [.int a1]) (rest := [.int 29, .ref (ad 5 1), .int 0, .int a2, .ref (ad 5 0)]) X hS hU sh_5_0 (by decide) rfl vl_X11_188 (c_X11_placeOf X.2.2.2.2.2.2.1 (k_uc_s _ _ _) hr24) rfl rfl rfl hl.1 ⟨Nat.le_of_ble_eq_true rfl, Nat.le_of_ble_eq_true rfl⟩ (Nat.le_of_ble_eq_true rfl) dX11_line_24 ⟨Nat.zero_le _, Nat.zero_le _⟩) (fun H locs hU hS => ?_)
    refine lv_iadd X.1 X.2.1 dX11_line_27 ?_
    obtain ⟨hi28, hf⟩ := k_ckE hf
    refine k_ildw (j0 := (29 + r24).toNatClampNeg) X hU sh_5_1 (k_vin (n := 268) hi28 (by decide)) rfl dX11_line_28 ?_
    refine lv_iconst (v := 1) X.1 X.2.1 dX11_line_29 (by decide) ?_
    refine lv_isub X.1 X.2.1 dX11_line_30 ?_
    obtain ⟨r31, hr31, hf⟩ := k_bdE hf
    refine k_backi X hS (k_runS (As := [.int a2, .int 0, .int ((r7.1 1 ((29 + r24).toNatClampNeg)) - 1)]) (rest := [.ref (ad 5 0)]) X hS hU sl_X11_57 (c_X11_within X.2.2.2.2.2.2.1 hr31) rfl rfl rfl hl.1 ⟨Nat.le_of_ble_eq_true rfl, Nat.le_of_ble_eq_true rfl⟩ (Nat.le_of_ble_eq_true rfl) dX11_line_31 ⟨Nat.zero_le _, Nat.zero_le _⟩) (fun H locs hU hS => ?_)
    refine lv_if_ne (tgt := 41) X.1 X.2.1 dX11_line_34 (by decide) (fun c34 => ?_) (fun c34 => ?_)
    · replace hf := k_ifN hf c34
      refine lv_iconst (v := 0) X.1 X.2.1 dX11_line_41 (by decide) ?_
      exact J42 _ _ _ r7.1 a1 a2 0 hU hS (lv_sub hl [0, 1, 2] rfl) hf
    · replace hf := k_ifP hf c34
      refine lv_iconst (v := 1) X.1 X.2.1 dX11_line_37 (by decide) ?_
      refine lv_goto (tgt := 42) X.1 X.2.1 dX11_line_38 (by decide) ?_
      exact J42 _ _ _ r7.1 a1 a2 1 hU hS (lv_sub hl [0, 1, 2] rfl) hf
def rm_X11_targetAt : Room := { frames := 2, cells := 0, slots := 0, locals := 44 }
set_option maxRecDepth 100000 in
set_option maxHeartbeats 4000000 in
theorem c_X11_targetAt {l : Launch} {D : va_G} {G : Nat → ClassId} {ad : Nat → Nat → Nat} {u : k_U} (hI : k_ok ad) {w : k_M} (hw : u 5 = w) {a1 : Int32} {sz : Nat} {r : (k_M × Int32)} (hf : f_X11_targetAt w a1 = some r) : Met l yX11_targetAt (.code yX11_targetAt cX11_targetAt 2 (some .int) :: lw_g) rm_X11_targetAt (k_Pre D G ad u sz [.ref (ad 5 0), .int a1]) (k_Qi D G ad (k_uc u 5 r.1) r.2 sz) 0 0 (k_A ad sz) := by
  refine k_ofW (by decide +kernel) hI (Nat.le_of_ble_eq_true rfl) ?_
  intro p e s m args below meth c X hr hlk hU hS ls hl
  have hl : lv_has ls 2 [(0, .ref (ad 5 0)), (1, .int a1)] := hl
  have hU : k_Uv D G ad (k_uc u 5 w) s.heap := by rw [← hw, k_uc_id]; exact hU
  unfold f_X11_targetAt at hf
  refine lv_aload_n X.1 X.2.1 dX11_targetAt_0 rfl (lv_at hl 0 rfl) ?_
  refine lv_iload_n X.1 X.2.1 dX11_targetAt_1 rfl (lv_at hl 1 rfl) ?_
  refine lv_sipush (v := 30000) X.1 X.2.1 dX11_targetAt_2 (by decide) ?_
  obtain ⟨r5, hr5, hf⟩ := k_bdE hf
  refine k_backi X hS (k_runV (As := [.int a1, .int 30000]) (rest := []) X hS hU sh_5_0 (by decide) rfl vl_X11_170 (c_X11_noPart X.2.2.2.2.2.2.1 (k_uc_s _ _ _) hr5) rfl rfl rfl hl.1 ⟨Nat.le_of_ble_eq_true rfl, Nat.le_of_ble_eq_true rfl⟩ (Nat.le_of_ble_eq_true rfl) dX11_targetAt_5 ⟨Nat.zero_le _, Nat.zero_le _⟩) (fun H locs hU hS => ?_)
  rw [k_uc_uc] at hU
  refine lv_if_eq (tgt := 15) X.1 X.2.1 dX11_targetAt_8 (by decide) (fun c8 => ?_) (fun c8 => ?_)
  · replace hf := k_ifP hf c8
    refine lv_aload_n X.1 X.2.1 dX11_targetAt_15 rfl (lv_at hl 0 rfl) ?_
    refine lv_iload_n X.1 X.2.1 dX11_targetAt_16 rfl (lv_at hl 1 rfl) ?_
    obtain ⟨r17, hr17, hf⟩ := k_bdE hf
    refine k_backi X hS (k_runV (As := [.int a1]) (rest := []) X hS hU sh_5_0 (by decide) rfl vl_X11_78 (c_X11_targetFor X.2.2.2.2.2.2.1 (k_uc_s _ _ _) hr17) rfl rfl rfl hl.1 ⟨Nat.le_of_ble_eq_true rfl, Nat.le_of_ble_eq_true rfl⟩ (Nat.le_of_ble_eq_true rfl) dX11_targetAt_17 ⟨Nat.zero_le _, Nat.zero_le _⟩) (fun H locs hU hS => ?_)
    have hz := Option.some.inj hf
    subst hz
    exact k_iret (v := r17) X hU hS hr hlk rfl rfl dX11_targetAt_20
  · replace hf := k_ifN hf c8
    refine lv_iconst (v := 0) X.1 X.2.1 dX11_targetAt_11 (by decide) ?_
    refine lv_goto (tgt := 20) X.1 X.2.1 dX11_targetAt_12 (by decide) ?_
    have hz := Option.some.inj hf
    subst hz
    exact k_iret (v := 0) X hU hS hr hlk rfl rfl dX11_targetAt_20
def rm_X11_windAt : Room := { frames := 2, cells := 0, slots := 0, locals := 44 }
set_option maxRecDepth 100000 in
set_option maxHeartbeats 4000000 in
theorem c_X11_windAt {l : Launch} {D : va_G} {G : Nat → ClassId} {ad : Nat → Nat → Nat} {u : k_U} (hI : k_ok ad) {w : k_M} (hw : u 5 = w) {a1 : Int32} {sz : Nat} {r : (k_M × Int32)} (hf : f_X11_windAt w a1 = some r) : Met l yX11_windAt (.code yX11_windAt cX11_windAt 2 (some .int) :: lw_g) rm_X11_windAt (k_Pre D G ad u sz [.ref (ad 5 0), .int a1]) (k_Qi D G ad (k_uc u 5 r.1) r.2 sz) 0 0 (k_A ad sz) := by
  refine k_ofW (by decide +kernel) hI (Nat.le_of_ble_eq_true rfl) ?_
  intro p e s m args below meth c X hr hlk hU hS ls hl
  have hl : lv_has ls 2 [(0, .ref (ad 5 0)), (1, .int a1)] := hl
  have hU : k_Uv D G ad (k_uc u 5 w) s.heap := by rw [← hw, k_uc_id]; exact hU
  unfold f_X11_windAt at hf
  refine lv_aload_n X.1 X.2.1 dX11_windAt_0 rfl (lv_at hl 0 rfl) ?_
  refine lv_iload_n X.1 X.2.1 dX11_windAt_1 rfl (lv_at hl 1 rfl) ?_
  refine lv_sipush (v := 30000) X.1 X.2.1 dX11_windAt_2 (by decide) ?_
  obtain ⟨r5, hr5, hf⟩ := k_bdE hf
  refine k_backi X hS (k_runV (As := [.int a1, .int 30000]) (rest := []) X hS hU sh_5_0 (by decide) rfl vl_X11_170 (c_X11_noPart X.2.2.2.2.2.2.1 (k_uc_s _ _ _) hr5) rfl rfl rfl hl.1 ⟨Nat.le_of_ble_eq_true rfl, Nat.le_of_ble_eq_true rfl⟩ (Nat.le_of_ble_eq_true rfl) dX11_windAt_5 ⟨Nat.zero_le _, Nat.zero_le _⟩) (fun H locs hU hS => ?_)
  rw [k_uc_uc] at hU
  refine lv_if_eq (tgt := 15) X.1 X.2.1 dX11_windAt_8 (by decide) (fun c8 => ?_) (fun c8 => ?_)
  · replace hf := k_ifP hf c8
    refine lv_aload_n X.1 X.2.1 dX11_windAt_15 rfl (lv_at hl 0 rfl) ?_
    refine lv_iload_n X.1 X.2.1 dX11_windAt_16 rfl (lv_at hl 1 rfl) ?_
    obtain ⟨r17, hr17, hf⟩ := k_bdE hf
    refine k_backi X hS (k_runV (As := [.int a1]) (rest := []) X hS hU sh_5_0 (by decide) rfl vl_X11_161 (c_X11_windFor X.2.2.2.2.2.2.1 (k_uc_s _ _ _) hr17) rfl rfl rfl hl.1 ⟨Nat.le_of_ble_eq_true rfl, Nat.le_of_ble_eq_true rfl⟩ (Nat.le_of_ble_eq_true rfl) dX11_windAt_17 ⟨Nat.zero_le _, Nat.zero_le _⟩) (fun H locs hU hS => ?_)
    have hz := Option.some.inj hf
    subst hz
    exact k_iret (v := r17) X hU hS hr hlk rfl rfl dX11_windAt_20
  · replace hf := k_ifN hf c8
    refine lv_iconst (v := 0) X.1 X.2.1 dX11_windAt_11 (by decide) ?_
    refine lv_goto (tgt := 20) X.1 X.2.1 dX11_windAt_12 (by decide) ?_
    have hz := Option.some.inj hf
    subst hz
    exact k_iret (v := 0) X hU hS hr hlk rfl rfl dX11_windAt_20
def rm_X11_noSpot : Room := { frames := 1, cells := 0, slots := 0, locals := 22 }
set_option maxRecDepth 100000 in
set_option maxHeartbeats 4000000 in
theorem c_X11_noSpot {l : Launch} {D : va_G} {G : Nat → ClassId} {ad : Nat → Nat → Nat} {u : k_U} (hI : k_ok ad) {w : k_M} (hw : u 5 = w) {a1 : Int32} {sz : Nat} {r : (k_M × Int32)} (hf : f_X11_noSpot w a1 = some r) : Met l yX11_noSpot (.code yX11_noSpot cX11_noSpot 2 (some .boolean) :: lw_g) rm_X11_noSpot (k_Pre D G ad u sz [.ref (ad 5 0), .int a1]) (k_Qi D G ad (k_uc u 5 r.1) r.2 sz) 0 0 (k_A ad sz) := by
  refine k_ofW (by decide +kernel) hI (Nat.le_of_ble_eq_true rfl) ?_
  intro p e s m args below meth c X hr hlk hU hS ls hl
  have hl : lv_has ls 2 [(0, .ref (ad 5 0)), (1, .int a1)] := hl
  have hU : k_Uv D G ad (k_uc u 5 w) s.heap := by rw [← hw, k_uc_id]; exact hU
  have J23 : ∀ (H : Heap) (locs : List Loc) (ls : Array Slot) (w : k_M) (as0 : Int32), k_Uv D G ad (k_uc u 5 w) H → va_S (k_A ad sz) s.heap H locs → lv_has ls 2 [] → f_X11_noSpot_23 w a1 as0 = some r → W p l e rm_X11_noSpot s m args below meth c H locs 0 0 (MQ below (k_Qi D G ad (k_uc u 5 r.1) r.2 sz) args s 0 0 (k_A ad sz)) (F0 m 23 ls [.int as0, .ref (ad 5 0)]) := by
    intro H locs ls w as0 hU hS hl hf
    unfold f_X11_noSpot_23 at hf
    refine lv_iconst (v := 1) X.1 X.2.1 dX11_noSpot_23 (by decide) ?_
    obtain ⟨r24, hr24, hf⟩ := k_bdE hf
    refine k_backi X hS (k_runV (As := [.int as0, .int 1]) (rest := []) X hS hU sh_5_0 (by decide) rfl vl_X11_61 (c_X11_throwsIf X.2.2.2.2.2.2.1 (k_uc_s _ _ _) hr24) rfl rfl rfl hl.1 ⟨Nat.le_of_ble_eq_true rfl, Nat.le_of_ble_eq_true rfl⟩ (Nat.le_of_ble_eq_true rfl) dX11_noSpot_24 ⟨Nat.zero_le _, Nat.zero_le _⟩) (fun H locs hU hS => ?_)
    rw [k_uc_uc] at hU
    obtain ⟨hi27, hf⟩ := k_ckE hf
    have hz := Option.some.inj hf
    subst hz
    exact k_iret (v := r24.2) X hU hS hr hlk (k_nb hi27) rfl dX11_noSpot_27
  unfold f_X11_noSpot at hf
  refine lv_aload_n X.1 X.2.1 dX11_noSpot_0 rfl (lv_at hl 0 rfl) ?_
  refine lv_iload_n X.1 X.2.1 dX11_noSpot_1 rfl (lv_at hl 1 rfl) ?_
  refine lv_iconst (v := 0) X.1 X.2.1 dX11_noSpot_2 (by decide) ?_
  refine lv_aload_n X.1 X.2.1 dX11_noSpot_3 rfl (lv_at hl 0 rfl) ?_
  refine k_getw (v := .ref (ad 5 1)) X hU sh_5_0 fl_X11_7 rfl dX11_noSpot_4 ?_
  refine lv_bipush (v := 12) X.1 X.2.1 dX11_noSpot_7 (by decide) ?_
  refine k_ildw (j0 := 12) X hU sh_5_1 (k_vin (N := 268) (by decide) (by decide)) (by decide) dX11_noSpot_9 ?_
  refine lv_iconst (v := 1) X.1 X.2.1 dX11_noSpot_10 (by decide) ?_
  refine lv_isub X.1 X.2.1 dX11_noSpot_11 ?_
  obtain ⟨r12, hr12, hf⟩ := k_bdE hf
  refine k_backi X hS (k_runS (As := [.int a1, .int 0, .int ((w 1 12) - 1)]) (rest := [.ref (ad 5 0)]) X hS hU sl_X11_57 (c_X11_within X.2.2.2.2.2.2.1 hr12) rfl rfl rfl hl.1 ⟨Nat.le_of_ble_eq_true rfl, Nat.le_of_ble_eq_true rfl⟩ (Nat.le_of_ble_eq_true rfl) dX11_noSpot_12 ⟨Nat.zero_le _, Nat.zero_le _⟩) (fun H locs hU hS => ?_)
  refine lv_if_ne (tgt := 22) X.1 X.2.1 dX11_noSpot_15 (by decide) (fun c15 => ?_) (fun c15 => ?_)
  · replace hf := k_ifN hf c15
    refine lv_iconst (v := 0) X.1 X.2.1 dX11_noSpot_22 (by decide) ?_
    exact J23 _ _ _ w 0 hU hS (lv_sub hl [] rfl) hf
  · replace hf := k_ifP hf c15
    refine lv_iconst (v := 1) X.1 X.2.1 dX11_noSpot_18 (by decide) ?_
    refine lv_goto (tgt := 23) X.1 X.2.1 dX11_noSpot_19 (by decide) ?_
    exact J23 _ _ _ w 1 hU hS (lv_sub hl [] rfl) hf
def rm_X11_spot : Room := { frames := 2, cells := 0, slots := 0, locals := 43 }
set_option maxRecDepth 100000 in
set_option maxHeartbeats 4000000 in
theorem c_X11_spot {l : Launch} {D : va_G} {G : Nat → ClassId} {ad : Nat → Nat → Nat} {u : k_U} (hI : k_ok ad) {w : k_M} (hw : u 5 = w) {a1 : Int32} {a2 : Int32} {sz : Nat} {r : (k_M × Int32)} (hf : f_X11_spot w a1 a2 = some r) : Met l yX11_spot (.code yX11_spot cX11_spot 3 (some .int) :: lw_g) rm_X11_spot (k_Pre D G ad u sz [.ref (ad 5 0), .int a1, .int a2]) (k_Qi D G ad (k_uc u 5 r.1) r.2 sz) 0 0 (k_A ad sz) := by
  refine k_ofW (by decide +kernel) hI (Nat.le_of_ble_eq_true rfl) ?_
  intro p e s m args below meth c X hr hlk hU hS ls hl
  have hl : lv_has ls 3 [(0, .ref (ad 5 0)), (1, .int a1), (2, .int a2)] := hl
  have hU : k_Uv D G ad (k_uc u 5 w) s.heap := by rw [← hw, k_uc_id]; exact hU
  have J28 : ∀ (H : Heap) (locs : List Loc) (ls : Array Slot) (w : k_M) (a1 : Int32) (a2 : Int32) (as0 : Int32), k_Uv D G ad (k_uc u 5 w) H → va_S (k_A ad sz) s.heap H locs → lv_has ls 3 [(0, .ref (ad 5 0)), (1, .int a1), (2, .int a2)] → f_X11_spot_28 w a1 a2 as0 = some r → W p l e rm_X11_spot s m args below meth c H locs 0 0 (MQ below (k_Qi D G ad (k_uc u 5 r.1) r.2 sz) args s 0 0 (k_A ad sz)) (F0 m 28 ls [.int as0, .ref (ad 5 0)]) := by
    intro H locs ls w a1 a2 as0 hU hS hl hf
    unfold f_X11_spot_28 at hf
    refine lv_iconst (v := 2) X.1 X.2.1 dX11_spot_28 (by decide) ?_
    obtain ⟨r29, hr29, hf⟩ := k_bdE hf
    refine k_backi X hS (k_runV (As := [.int as0, .int 2]) (rest := []) X hS hU sh_5_0 (by decide) rfl vl_X11_61 (c_X11_throwsIf X.2.2.2.2.2.2.1 (k_uc_s _ _ _) hr29) rfl rfl rfl hl.1 ⟨Nat.le_of_ble_eq_true rfl, Nat.le_of_ble_eq_true rfl⟩ (Nat.le_of_ble_eq_true rfl) dX11_spot_29 ⟨Nat.zero_le _, Nat.zero_le _⟩) (fun H locs hU hS => ?_)
    rw [k_uc_uc] at hU
    refine lv_if_eq (tgt := 39) X.1 X.2.1 dX11_spot_32 (by decide) (fun c32 => ?_) (fun c32 => ?_)
    · replace hf := k_ifP hf c32
      refine lv_aload_n X.1 X.2.1 dX11_spot_39 rfl (lv_at hl 0 rfl) ?_
      refine k_getw (v := .ref (ad 5 1)) X hU sh_5_0 fl_X11_7 rfl dX11_spot_40 ?_
      refine lv_bipush (v := 124) X.1 X.2.1 dX11_spot_43 (by decide) ?_
      refine lv_iconst (v := 3) X.1 X.2.1 dX11_spot_45 (by decide) ?_
      refine lv_iload_n X.1 X.2.1 dX11_spot_46 rfl (lv_at hl 1 rfl) ?_
      refine lv_imul X.1 X.2.1 dX11_spot_47 ?_
      refine lv_iadd X.1 X.2.1 dX11_spot_48 ?_
      refine lv_iload_n X.1 X.2.1 dX11_spot_49 rfl (lv_at hl 2 rfl) ?_
      refine lv_iadd X.1 X.2.1 dX11_spot_50 ?_
      obtain ⟨hi51, hf⟩ := k_ckE hf
      refine k_ildw (j0 := ((124 + (3 * a1)) + a2).toNatClampNeg) X hU sh_5_1 (k_vin (n := 268) hi51 (by decide)) rfl dX11_spot_51 ?_
      have hz := Option.some.inj hf
      subst hz
      exact k_iret (v := r29.1 1 (((124 + (3 * a1)) + a2).toNatClampNeg)) X hU hS hr hlk rfl rfl dX11_spot_52
    · replace hf := k_ifN hf c32
      refine lv_iconst (v := 0) X.1 X.2.1 dX11_spot_35 (by decide) ?_
      refine lv_goto (tgt := 52) X.1 X.2.1 dX11_spot_36 (by decide) ?_
      have hz := Option.some.inj hf
      subst hz
      exact k_iret (v := 0) X hU hS hr hlk rfl rfl dX11_spot_52
  unfold f_X11_spot at hf
  refine lv_aload_n X.1 X.2.1 dX11_spot_0 rfl (lv_at hl 0 rfl) ?_
  refine lv_iconst (v := 0) X.1 X.2.1 dX11_spot_1 (by decide) ?_
  obtain ⟨w2, e2, hf⟩ := k_ltE hf
  refine k_putw X hU hS sh_5_0 fp_X11_50 rfl e2 rfl rfl dX11_spot_2 (fun H locs hU hS => ?_)
  refine lv_aload_n X.1 X.2.1 dX11_spot_5 rfl (lv_at hl 0 rfl) ?_
  refine lv_iload_n X.1 X.2.1 dX11_spot_6 rfl (lv_at hl 1 rfl) ?_
  obtain ⟨r7, hr7, hf⟩ := k_bdE hf
  refine k_backi X hS (k_runV (As := [.int a1]) (rest := []) X hS hU sh_5_0 (by decide) rfl vl_X11_191 (c_X11_noSpot X.2.2.2.2.2.2.1 (k_uc_s _ _ _) hr7) rfl rfl rfl hl.1 ⟨Nat.le_of_ble_eq_true rfl, Nat.le_of_ble_eq_true rfl⟩ (Nat.le_of_ble_eq_true rfl) dX11_spot_7 ⟨Nat.zero_le _, Nat.zero_le _⟩) (fun H locs hU hS => ?_)
  rw [k_uc_uc] at hU
  refine lv_if_ne (tgt := 35) X.1 X.2.1 dX11_spot_10 (by decide) (fun c10 => ?_) (fun c10 => ?_)
  · replace hf := k_ifN hf c10
    refine lv_iconst (v := 0) X.1 X.2.1 dX11_spot_35 (by decide) ?_
    refine lv_goto (tgt := 52) X.1 X.2.1 dX11_spot_36 (by decide) ?_
    have hz := Option.some.inj hf
    subst hz
    exact k_iret (v := 0) X hU hS hr hlk rfl rfl dX11_spot_52
  · replace hf := k_ifP hf c10
    refine lv_aload_n X.1 X.2.1 dX11_spot_13 rfl (lv_at hl 0 rfl) ?_
    refine lv_iload_n X.1 X.2.1 dX11_spot_14 rfl (lv_at hl 2 rfl) ?_
    refine lv_iconst (v := 0) X.1 X.2.1 dX11_spot_15 (by decide) ?_
    refine lv_iconst (v := 2) X.1 X.2.1 dX11_spot_16 (by decide) ?_
    obtain ⟨r17, hr17, hf⟩ := k_bdE hf
    refine k_backi X hS (k_runS (As := [.int a2, .int 0, .int 2]) (rest := [.ref (ad 5 0)]) X hS hU sl_X11_57 (c_X11_within X.2.2.2.2.2.2.1 hr17) rfl rfl rfl hl.1 ⟨Nat.le_of_ble_eq_true rfl, Nat.le_of_ble_eq_true rfl⟩ (Nat.le_of_ble_eq_true rfl) dX11_spot_17 ⟨Nat.zero_le _, Nat.zero_le _⟩) (fun H locs hU hS => ?_)
    refine lv_if_ne (tgt := 27) X.1 X.2.1 dX11_spot_20 (by decide) (fun c20 => ?_) (fun c20 => ?_)
    · replace hf := k_ifN hf c20
      refine lv_iconst (v := 0) X.1 X.2.1 dX11_spot_27 (by decide) ?_
      exact J28 _ _ _ r7.1 a1 a2 0 hU hS (lv_sub hl [0, 1, 2] rfl) hf
    · replace hf := k_ifP hf c20
      refine lv_iconst (v := 1) X.1 X.2.1 dX11_spot_23 (by decide) ?_
      refine lv_goto (tgt := 28) X.1 X.2.1 dX11_spot_24 (by decide) ?_
      exact J28 _ _ _ r7.1 a1 a2 1 hU hS (lv_sub hl [0, 1, 2] rfl) hf
def rm_X11_event : Room := { frames := 1, cells := 0, slots := 0, locals := 22 }
set_option maxRecDepth 100000 in
set_option maxHeartbeats 4000000 in
theorem c_X11_event {l : Launch} {D : va_G} {G : Nat → ClassId} {ad : Nat → Nat → Nat} {u : k_U} (hI : k_ok ad) {w : k_M} (hw : u 5 = w) {a1 : Int32} {a2 : Int32} {sz : Nat} {r : (k_M × Int32)} (hf : f_X11_event w a1 a2 = some r) : Met l yX11_event (.code yX11_event cX11_event 3 (some .int) :: lw_g) rm_X11_event (k_Pre D G ad u sz [.ref (ad 5 0), .int a1, .int a2]) (k_Qi D G ad (k_uc u 5 r.1) r.2 sz) 0 0 (k_A ad sz) := by
  refine k_ofW (by decide +kernel) hI (Nat.le_of_ble_eq_true rfl) ?_
  intro p e s m args below meth c X hr hlk hU hS ls hl
  have hl : lv_has ls 3 [(0, .ref (ad 5 0)), (1, .int a1), (2, .int a2)] := hl
  have hU : k_Uv D G ad (k_uc u 5 w) s.heap := by rw [← hw, k_uc_id]; exact hU
  have J50 : ∀ (H : Heap) (locs : List Loc) (ls : Array Slot) (w : k_M) (a1 : Int32) (a2 : Int32) (as0 : Int32), k_Uv D G ad (k_uc u 5 w) H → va_S (k_A ad sz) s.heap H locs → lv_has ls 3 [(0, .ref (ad 5 0)), (1, .int a1), (2, .int a2)] → f_X11_event_50 w a1 a2 as0 = some r → W p l e rm_X11_event s m args below meth c H locs 0 0 (MQ below (k_Qi D G ad (k_uc u 5 r.1) r.2 sz) args s 0 0 (k_A ad sz)) (F0 m 50 ls [.int as0, .ref (ad 5 0)]) := by
    intro H locs ls w a1 a2 as0 hU hS hl hf
    unfold f_X11_event_50 at hf
    refine lv_iconst (v := 2) X.1 X.2.1 dX11_event_50 (by decide) ?_
    obtain ⟨r51, hr51, hf⟩ := k_bdE hf
    refine k_backi X hS (k_runV (As := [.int as0, .int 2]) (rest := []) X hS hU sh_5_0 (by decide) rfl vl_X11_61 (c_X11_throwsIf X.2.2.2.2.2.2.1 (k_uc_s _ _ _) hr51) rfl rfl rfl hl.1 ⟨Nat.le_of_ble_eq_true rfl, Nat.le_of_ble_eq_true rfl⟩ (Nat.le_of_ble_eq_true rfl) dX11_event_51 ⟨Nat.zero_le _, Nat.zero_le _⟩) (fun H locs hU hS => ?_)
    rw [k_uc_uc] at hU
    refine lv_if_eq (tgt := 61) X.1 X.2.1 dX11_event_54 (by decide) (fun c54 => ?_) (fun c54 => ?_)
    · replace hf := k_ifP hf c54
      refine lv_aload_n X.1 X.2.1 dX11_event_61 rfl (lv_at hl 0 rfl) ?_
      refine k_getw (v := .ref (ad 5 1)) X hU sh_5_0 fl_X11_7 rfl dX11_event_62 ?_
      refine lv_sipush (v := 148) X.1 X.2.1 dX11_event_65 (by decide) ?_
      refine lv_iconst (v := 4) X.1 X.2.1 dX11_event_68 (by decide) ?_
      refine lv_iload_n X.1 X.2.1 dX11_event_69 rfl (lv_at hl 1 rfl) ?_
      refine lv_imul X.1 X.2.1 dX11_event_70 ?_
      refine lv_iadd X.1 X.2.1 dX11_event_71 ?_
      refine lv_iload_n X.1 X.2.1 dX11_event_72 rfl (lv_at hl 2 rfl) ?_
      refine lv_iadd X.1 X.2.1 dX11_event_73 ?_
      obtain ⟨hi74, hf⟩ := k_ckE hf
      refine k_ildw (j0 := ((148 + (4 * a1)) + a2).toNatClampNeg) X hU sh_5_1 (k_vin (n := 268) hi74 (by decide)) rfl dX11_event_74 ?_
      have hz := Option.some.inj hf
      subst hz
      exact k_iret (v := r51.1 1 (((148 + (4 * a1)) + a2).toNatClampNeg)) X hU hS hr hlk rfl rfl dX11_event_75
    · replace hf := k_ifN hf c54
      refine lv_iconst (v := 0) X.1 X.2.1 dX11_event_57 (by decide) ?_
      refine lv_goto (tgt := 75) X.1 X.2.1 dX11_event_58 (by decide) ?_
      have hz := Option.some.inj hf
      subst hz
      exact k_iret (v := 0) X hU hS hr hlk rfl rfl dX11_event_75
  have J28 : ∀ (H : Heap) (locs : List Loc) (ls : Array Slot) (w : k_M) (a1 : Int32) (a2 : Int32) (as0 : Int32), k_Uv D G ad (k_uc u 5 w) H → va_S (k_A ad sz) s.heap H locs → lv_has ls 3 [(0, .ref (ad 5 0)), (1, .int a1), (2, .int a2)] → f_X11_event_28 w a1 a2 as0 = some r → W p l e rm_X11_event s m args below meth c H locs 0 0 (MQ below (k_Qi D G ad (k_uc u 5 r.1) r.2 sz) args s 0 0 (k_A ad sz)) (F0 m 28 ls [.int as0, .ref (ad 5 0)]) := by
    intro H locs ls w a1 a2 as0 hU hS hl hf
    unfold f_X11_event_28 at hf
    refine lv_iconst (v := 1) X.1 X.2.1 dX11_event_28 (by decide) ?_
    obtain ⟨r29, hr29, hf⟩ := k_bdE hf
    refine k_backi X hS (k_runV (As := [.int as0, .int 1]) (rest := []) X hS hU sh_5_0 (by decide) rfl vl_X11_61 (c_X11_throwsIf X.2.2.2.2.2.2.1 (k_uc_s _ _ _) hr29) rfl rfl rfl hl.1 ⟨Nat.le_of_ble_eq_true rfl, Nat.le_of_ble_eq_true rfl⟩ (Nat.le_of_ble_eq_true rfl) dX11_event_29 ⟨Nat.zero_le _, Nat.zero_le _⟩) (fun H locs hU hS => ?_)
    rw [k_uc_uc] at hU
    refine lv_if_ne (tgt := 57) X.1 X.2.1 dX11_event_32 (by decide) (fun c32 => ?_) (fun c32 => ?_)
    · replace hf := k_ifN hf c32
      refine lv_iconst (v := 0) X.1 X.2.1 dX11_event_57 (by decide) ?_
      refine lv_goto (tgt := 75) X.1 X.2.1 dX11_event_58 (by decide) ?_
      have hz := Option.some.inj hf
      subst hz
      exact k_iret (v := 0) X hU hS hr hlk rfl rfl dX11_event_75
    · replace hf := k_ifP hf c32
      refine lv_aload_n X.1 X.2.1 dX11_event_35 rfl (lv_at hl 0 rfl) ?_
      refine lv_iload_n X.1 X.2.1 dX11_event_36 rfl (lv_at hl 2 rfl) ?_
      refine lv_iconst (v := 0) X.1 X.2.1 dX11_event_37 (by decide) ?_
      refine lv_iconst (v := 3) X.1 X.2.1 dX11_event_38 (by decide) ?_
      obtain ⟨r39, hr39, hf⟩ := k_bdE hf
      refine k_backi X hS (k_runS (As := [.int a2, .int 0, .int 3]) (rest := [.ref (ad 5 0)]) X hS hU sl_X11_57 (c_X11_within X.2.2.2.2.2.2.1 hr39) rfl rfl rfl hl.1 ⟨Nat.le_of_ble_eq_true rfl, Nat.le_of_ble_eq_true rfl⟩ (Nat.le_of_ble_eq_true rfl) dX11_event_39 ⟨Nat.zero_le _, Nat.zero_le _⟩) (fun H locs hU hS => ?_)
      refine lv_if_ne (tgt := 49) X.1 X.2.1 dX11_event_42 (by decide) (fun c42 => ?_) (fun c42 => ?_)
      · replace hf := k_ifN hf c42
        refine lv_iconst (v := 0) X.1 X.2.1 dX11_event_49 (by decide) ?_
        exact J50 _ _ _ r29.1 a1 a2 0 hU hS (lv_sub hl [0, 1, 2] rfl) hf
      · replace hf := k_ifP hf c42
        refine lv_iconst (v := 1) X.1 X.2.1 dX11_event_45 (by decide) ?_
        refine lv_goto (tgt := 50) X.1 X.2.1 dX11_event_46 (by decide) ?_
        exact J50 _ _ _ r29.1 a1 a2 1 hU hS (lv_sub hl [0, 1, 2] rfl) hf
  unfold f_X11_event at hf
  refine lv_aload_n X.1 X.2.1 dX11_event_0 rfl (lv_at hl 0 rfl) ?_
  refine lv_iconst (v := 0) X.1 X.2.1 dX11_event_1 (by decide) ?_
  obtain ⟨w2, e2, hf⟩ := k_ltE hf
  refine k_putw X hU hS sh_5_0 fp_X11_50 rfl e2 rfl rfl dX11_event_2 (fun H locs hU hS => ?_)
  refine lv_aload_n X.1 X.2.1 dX11_event_5 rfl (lv_at hl 0 rfl) ?_
  refine lv_iload_n X.1 X.2.1 dX11_event_6 rfl (lv_at hl 1 rfl) ?_
  refine lv_iconst (v := 0) X.1 X.2.1 dX11_event_7 (by decide) ?_
  refine lv_aload_n X.1 X.2.1 dX11_event_8 rfl (lv_at hl 0 rfl) ?_
  refine k_getw (v := .ref (ad 5 1)) X hU sh_5_0 fl_X11_7 rfl dX11_event_9 ?_
  refine lv_bipush (v := 16) X.1 X.2.1 dX11_event_12 (by decide) ?_
  refine k_ildw (j0 := 16) X hU sh_5_1 (k_vin (N := 268) (by decide) (by decide)) (by decide) dX11_event_14 ?_
  refine lv_iconst (v := 1) X.1 X.2.1 dX11_event_15 (by decide) ?_
  refine lv_isub X.1 X.2.1 dX11_event_16 ?_
  obtain ⟨r17, hr17, hf⟩ := k_bdE hf
  refine k_backi X hS (k_runS (As := [.int a1, .int 0, .int ((w2 1 16) - 1)]) (rest := [.ref (ad 5 0)]) X hS hU sl_X11_57 (c_X11_within X.2.2.2.2.2.2.1 hr17) rfl rfl rfl hl.1 ⟨Nat.le_of_ble_eq_true rfl, Nat.le_of_ble_eq_true rfl⟩ (Nat.le_of_ble_eq_true rfl) dX11_event_17 ⟨Nat.zero_le _, Nat.zero_le _⟩) (fun H locs hU hS => ?_)
  refine lv_if_ne (tgt := 27) X.1 X.2.1 dX11_event_20 (by decide) (fun c20 => ?_) (fun c20 => ?_)
  · replace hf := k_ifN hf c20
    refine lv_iconst (v := 0) X.1 X.2.1 dX11_event_27 (by decide) ?_
    exact J28 _ _ _ w2 a1 a2 0 hU hS (lv_sub hl [0, 1, 2] rfl) hf
  · replace hf := k_ifP hf c20
    refine lv_iconst (v := 1) X.1 X.2.1 dX11_event_23 (by decide) ?_
    refine lv_goto (tgt := 28) X.1 X.2.1 dX11_event_24 (by decide) ?_
    exact J28 _ _ _ w2 a1 a2 1 hU hS (lv_sub hl [0, 1, 2] rfl) hf
def rm_X11_account : Room := { frames := 2, cells := 0, slots := 0, locals := 44 }
set_option maxRecDepth 100000 in
set_option maxHeartbeats 4000000 in
theorem c_X11_account {l : Launch} {D : va_G} {G : Nat → ClassId} {ad : Nat → Nat → Nat} {u : k_U} (hI : k_ok ad) {w : k_M} (hw : u 5 = w) {a1 : Int32} {sz : Nat} {r : (k_M × Int32)} (hf : f_X11_account w a1 = some r) : Met l yX11_account (.code yX11_account cX11_account 2 (some .int) :: lw_g) rm_X11_account (k_Pre D G ad u sz [.ref (ad 5 0), .int a1]) (k_Qi D G ad (k_uc u 5 r.1) r.2 sz) 0 0 (k_A ad sz) := by
  refine k_ofW (by decide +kernel) hI (Nat.le_of_ble_eq_true rfl) ?_
  intro p e s m args below meth c X hr hlk hU hS ls hl
  have hl : lv_has ls 2 [(0, .ref (ad 5 0)), (1, .int a1)] := hl
  have hU : k_Uv D G ad (k_uc u 5 w) s.heap := by rw [← hw, k_uc_id]; exact hU
  unfold f_X11_account at hf
  refine lv_aload_n X.1 X.2.1 dX11_account_0 rfl (lv_at hl 0 rfl) ?_
  refine lv_iload_n X.1 X.2.1 dX11_account_1 rfl (lv_at hl 1 rfl) ?_
  refine lv_bipush (v := 9) X.1 X.2.1 dX11_account_2 (by decide) ?_
  obtain ⟨r4, hr4, hf⟩ := k_bdE hf
  refine k_backi X hS (k_runV (As := [.int a1, .int 9]) (rest := []) X hS hU sh_5_0 (by decide) rfl vl_X11_170 (c_X11_noPart X.2.2.2.2.2.2.1 (k_uc_s _ _ _) hr4) rfl rfl rfl hl.1 ⟨Nat.le_of_ble_eq_true rfl, Nat.le_of_ble_eq_true rfl⟩ (Nat.le_of_ble_eq_true rfl) dX11_account_4 ⟨Nat.zero_le _, Nat.zero_le _⟩) (fun H locs hU hS => ?_)
  rw [k_uc_uc] at hU
  refine lv_if_eq (tgt := 14) X.1 X.2.1 dX11_account_7 (by decide) (fun c7 => ?_) (fun c7 => ?_)
  · replace hf := k_ifP hf c7
    refine lv_aload_n X.1 X.2.1 dX11_account_14 rfl (lv_at hl 0 rfl) ?_
    refine k_getw (v := .ref (ad 5 7)) X hU sh_5_0 fl_X11_29 rfl dX11_account_15 ?_
    refine lv_iload_n X.1 X.2.1 dX11_account_18 rfl (lv_at hl 1 rfl) ?_
    obtain ⟨hi19, hf⟩ := k_ckE hf
    refine k_ildw (j0 := a1.toNatClampNeg) X hU sh_5_7 (k_vin (n := 10) hi19 (by decide)) rfl dX11_account_19 ?_
    have hz := Option.some.inj hf
    subst hz
    exact k_iret (v := r4.1 7 a1.toNatClampNeg) X hU hS hr hlk rfl rfl dX11_account_20
  · replace hf := k_ifN hf c7
    refine lv_iconst (v := 0) X.1 X.2.1 dX11_account_10 (by decide) ?_
    refine lv_goto (tgt := 20) X.1 X.2.1 dX11_account_11 (by decide) ?_
    have hz := Option.some.inj hf
    subst hz
    exact k_iret (v := 0) X hU hS hr hlk rfl rfl dX11_account_20
def rm_X11_asks : Room := { frames := 2, cells := 0, slots := 0, locals := 45 }
set_option maxRecDepth 100000 in
set_option maxHeartbeats 4000000 in
theorem c_X11_asks {l : Launch} {D : va_G} {G : Nat → ClassId} {ad : Nat → Nat → Nat} {u : k_U} (hI : k_ok ad) {w : k_M} (hw : u 5 = w) {sz : Nat} {r : (k_M × Int32)} (hf : f_X11_asks w = some r) : Met l yX11_asks (.code yX11_asks cX11_asks 1 (some .boolean) :: lw_g) rm_X11_asks (k_Pre D G ad u sz [.ref (ad 5 0)]) (k_Qi D G ad (k_uc u 5 r.1) r.2 sz) 0 0 (k_A ad sz) := by
  refine k_ofW (by decide +kernel) hI (Nat.le_of_ble_eq_true rfl) ?_
  intro p e s m args below meth c X hr hlk hU hS ls hl
  have hl : lv_has ls 1 [(0, .ref (ad 5 0))] := hl
  have hU : k_Uv D G ad (k_uc u 5 w) s.heap := by rw [← hw, k_uc_id]; exact hU
  unfold f_X11_asks at hf
  refine lv_aload_n X.1 X.2.1 dX11_asks_0 rfl (lv_at hl 0 rfl) ?_
  refine lv_iconst (v := 0) X.1 X.2.1 dX11_asks_1 (by decide) ?_
  obtain ⟨w2, e2, hf⟩ := k_ltE hf
  refine k_putw X hU hS sh_5_0 fp_X11_50 rfl e2 rfl rfl dX11_asks_2 (fun H locs hU hS => ?_)
  refine lv_aload_n X.1 X.2.1 dX11_asks_5 rfl (lv_at hl 0 rfl) ?_
  obtain ⟨r6, hr6, hf⟩ := k_bdE hf
  refine k_backi X hS (k_runV (As := []) (rest := []) X hS hU sh_5_0 (by decide) rfl vl_X11_136 (c_X11_asksNow X.2.2.2.2.2.2.1 (k_uc_s _ _ _) hr6) rfl rfl rfl hl.1 ⟨Nat.le_of_ble_eq_true rfl, Nat.le_of_ble_eq_true rfl⟩ (Nat.le_of_ble_eq_true rfl) dX11_asks_6 ⟨Nat.zero_le _, Nat.zero_le _⟩) (fun H locs hU hS => ?_)
  obtain ⟨hi9, hf⟩ := k_ckE hf
  have hz := Option.some.inj hf
  subst hz
  exact k_iret (v := r6) X hU hS hr hlk (k_nb hi9) rfl dX11_asks_9
def rm_X11_whyOf : Room := { frames := 2, cells := 0, slots := 0, locals := 45 }
set_option maxRecDepth 100000 in
set_option maxHeartbeats 4000000 in
theorem c_X11_whyOf {l : Launch} {D : va_G} {G : Nat → ClassId} {ad : Nat → Nat → Nat} {u : k_U} (hI : k_ok ad) {w : k_M} (hw : u 5 = w) {a1 : Int32} {sz : Nat} {r : Int32} (hf : f_X11_whyOf w a1 = some r) : Met l yX11_whyOf (.code yX11_whyOf cX11_whyOf 3 (some .int) :: lw_g) rm_X11_whyOf (k_Pre D G ad u sz [.ref (ad 5 0), .int a1]) (k_Qi D G ad u r sz) 0 0 (k_A ad sz) := by
  refine k_ofW (by decide +kernel) hI (Nat.le_of_ble_eq_true rfl) ?_
  intro p e s m args below meth c X hr hlk hU hS ls hl
  have hl : lv_has ls 3 [(0, .ref (ad 5 0)), (1, .int a1)] := hl
  have hU : k_Uv D G ad (k_uc u 5 w) s.heap := by rw [← hw, k_uc_id]; exact hU
  unfold f_X11_whyOf at hf
  refine lv_aload_n X.1 X.2.1 dX11_whyOf_0 rfl (lv_at hl 0 rfl) ?_
  obtain ⟨r1, hr1, hf⟩ := k_bdE hf
  refine k_backi X hS (k_runV (As := []) (rest := []) X hS hU sh_5_0 (by decide) rfl vl_X11_75 (c_X11_firstThatMay X.2.2.2.2.2.2.1 (k_uc_s _ _ _) hr1) rfl rfl rfl hl.1 ⟨Nat.le_of_ble_eq_true rfl, Nat.le_of_ble_eq_true rfl⟩ (Nat.le_of_ble_eq_true rfl) dX11_whyOf_1 ⟨Nat.zero_le _, Nat.zero_le _⟩) (fun H locs hU hS => ?_)
  refine lv_istore_n (lv' := [(2, .int r1), (0, .ref (ad 5 0)), (1, .int a1)]) X.1 X.2.1 dX11_whyOf_4 rfl hl (by decide) rfl (fun ls hl => ?_)
  refine lv_aload_n X.1 X.2.1 dX11_whyOf_5 rfl (lv_at hl 1 rfl) ?_
  refine k_getw (v := .ref (ad 5 1)) X hU sh_5_0 fl_X11_7 rfl dX11_whyOf_6 ?_
  refine lv_bipush (v := 65) X.1 X.2.1 dX11_whyOf_9 (by decide) ?_
  refine lv_iload_n X.1 X.2.1 dX11_whyOf_11 rfl (lv_at hl 2 rfl) ?_
  refine lv_iadd X.1 X.2.1 dX11_whyOf_12 ?_
  obtain ⟨hi13, hf⟩ := k_ckE hf
  refine k_ildw (j0 := (65 + a1).toNatClampNeg) X hU sh_5_1 (k_vin (n := 268) hi13 (by decide)) rfl dX11_whyOf_13 ?_
  by_cases c14_1 : (w 1 ((65 + a1).toNatClampNeg)) = 1
  · replace hf := k_ifP hf c14_1
    refine lv_tableIn (x := w 1 ((65 + a1).toNatClampNeg)) (off := 30) (tgt := 44) X.1 X.2.1 dX11_whyOf_14 (by rw [c14_1]; decide) (by rw [c14_1]; decide) (by rw [c14_1]; rfl) (by decide) ?_
    refine lv_iconst (v := 0) X.1 X.2.1 dX11_whyOf_44 (by decide) ?_
    rw [← hw, k_uc_id] at hU
    have hz := Option.some.inj hf
    subst hz
    exact k_iret (v := 0) X hU hS hr hlk rfl rfl dX11_whyOf_45
  replace hf := k_ifN hf c14_1
  by_cases c14_2 : (w 1 ((65 + a1).toNatClampNeg)) = 2
  · replace hf := k_ifP hf c14_2
    refine lv_tableIn (x := w 1 ((65 + a1).toNatClampNeg)) (off := 32) (tgt := 46) X.1 X.2.1 dX11_whyOf_14 (by rw [c14_2]; decide) (by rw [c14_2]; decide) (by rw [c14_2]; rfl) (by decide) ?_
    refine lv_iconst (v := 1) X.1 X.2.1 dX11_whyOf_46 (by decide) ?_
    rw [← hw, k_uc_id] at hU
    have hz := Option.some.inj hf
    subst hz
    exact k_iret (v := 1) X hU hS hr hlk rfl rfl dX11_whyOf_47
  replace hf := k_ifN hf c14_2
  by_cases c14_3 : (w 1 ((65 + a1).toNatClampNeg)) = 3
  · replace hf := k_ifP hf c14_3
    refine lv_tableIn (x := w 1 ((65 + a1).toNatClampNeg)) (off := 34) (tgt := 48) X.1 X.2.1 dX11_whyOf_14 (by rw [c14_3]; decide) (by rw [c14_3]; decide) (by rw [c14_3]; rfl) (by decide) ?_
    refine lv_iconst (v := 2) X.1 X.2.1 dX11_whyOf_48 (by decide) ?_
    rw [← hw, k_uc_id] at hU
    have hz := Option.some.inj hf
    subst hz
    exact k_iret (v := 2) X hU hS hr hlk rfl rfl dX11_whyOf_49
  replace hf := k_ifN hf c14_3
  by_cases c14_4 : (w 1 ((65 + a1).toNatClampNeg)) = 4
  · replace hf := k_ifP hf c14_4
    refine lv_tableIn (x := w 1 ((65 + a1).toNatClampNeg)) (off := 36) (tgt := 50) X.1 X.2.1 dX11_whyOf_14 (by rw [c14_4]; decide) (by rw [c14_4]; decide) (by rw [c14_4]; rfl) (by decide) ?_
    refine lv_iconst (v := 3) X.1 X.2.1 dX11_whyOf_50 (by decide) ?_
    rw [← hw, k_uc_id] at hU
    have hz := Option.some.inj hf
    subst hz
    exact k_iret (v := 3) X hU hS hr hlk rfl rfl dX11_whyOf_51
  replace hf := k_ifN hf c14_4
  have ho14 : (w 1 ((65 + a1).toNatClampNeg)).toInt < 1 ∨ 4 < (w 1 ((65 + a1).toNatClampNeg)).toInt := by
    have g1 := k_tne (n := 1) (z := 1) c14_1 (by decide)
    have g2 := k_tne (n := 2) (z := 2) c14_2 (by decide)
    have g3 := k_tne (n := 3) (z := 3) c14_3 (by decide)
    have g4 := k_tne (n := 4) (z := 4) c14_4 (by decide)
    omega
  refine lv_tableOut (x := w 1 ((65 + a1).toNatClampNeg)) (tgt := 52) X.1 X.2.1 dX11_whyOf_14 ho14 (by decide) ?_
  refine lv_aload_n X.1 X.2.1 dX11_whyOf_52 rfl (lv_at hl 1 rfl) ?_
  refine k_getw (v := .ref (ad 5 1)) X hU sh_5_0 fl_X11_7 rfl dX11_whyOf_53 ?_
  refine lv_iconst (v := 0) X.1 X.2.1 dX11_whyOf_56 (by decide) ?_
  refine k_ildw (j0 := 0) X hU sh_5_1 (k_vin (N := 268) (by decide) (by decide)) (by decide) dX11_whyOf_57 ?_
  refine lv_aload_n X.1 X.2.1 dX11_whyOf_58 rfl (lv_at hl 1 rfl) ?_
  refine k_getw (v := .ref (ad 5 1)) X hU sh_5_0 fl_X11_7 rfl dX11_whyOf_59 ?_
  refine lv_bipush (v := 47) X.1 X.2.1 dX11_whyOf_62 (by decide) ?_
  refine lv_iload_n X.1 X.2.1 dX11_whyOf_64 rfl (lv_at hl 2 rfl) ?_
  refine lv_iadd X.1 X.2.1 dX11_whyOf_65 ?_
  obtain ⟨hi66, hf⟩ := k_ckE hf
  refine k_ildw (j0 := (47 + a1).toNatClampNeg) X hU sh_5_1 (k_vin (n := 268) hi66 (by decide)) rfl dX11_whyOf_66 ?_
  refine lv_icmp_le (tgt := 74) X.1 X.2.1 dX11_whyOf_67 (by decide) (fun c67 => ?_) (fun c67 => ?_)
  · replace hf := k_ifP hf c67
    refine lv_aload_n X.1 X.2.1 dX11_whyOf_74 rfl (lv_at hl 1 rfl) ?_
    refine k_getw (v := .ref (ad 5 1)) X hU sh_5_0 fl_X11_7 rfl dX11_whyOf_75 ?_
    refine lv_iconst (v := 1) X.1 X.2.1 dX11_whyOf_78 (by decide) ?_
    refine k_ildw (j0 := 1) X hU sh_5_1 (k_vin (N := 268) (by decide) (by decide)) (by decide) dX11_whyOf_79 ?_
    refine lv_aload_n X.1 X.2.1 dX11_whyOf_80 rfl (lv_at hl 1 rfl) ?_
    refine k_getw (v := .ref (ad 5 1)) X hU sh_5_0 fl_X11_7 rfl dX11_whyOf_81 ?_
    refine lv_bipush (v := 56) X.1 X.2.1 dX11_whyOf_84 (by decide) ?_
    refine lv_iload_n X.1 X.2.1 dX11_whyOf_86 rfl (lv_at hl 2 rfl) ?_
    refine lv_iadd X.1 X.2.1 dX11_whyOf_87 ?_
    obtain ⟨hi88, hf⟩ := k_ckE hf
    refine k_ildw (j0 := (56 + a1).toNatClampNeg) X hU sh_5_1 (k_vin (n := 268) hi88 (by decide)) rfl dX11_whyOf_88 ?_
    refine lv_icmp_le (tgt := 96) X.1 X.2.1 dX11_whyOf_89 (by decide) (fun c89 => ?_) (fun c89 => ?_)
    · replace hf := k_ifP hf c89
      refine lv_aload_n X.1 X.2.1 dX11_whyOf_96 rfl (lv_at hl 1 rfl) ?_
      obtain ⟨r97, hr97, hf⟩ := k_bdE hf
      refine k_backi X hS (k_runV (As := []) (rest := []) X hS hU sh_5_0 (by decide) rfl vl_X11_136 (c_X11_asksNow X.2.2.2.2.2.2.1 (k_uc_s _ _ _) hr97) rfl rfl rfl hl.1 ⟨Nat.le_of_ble_eq_true rfl, Nat.le_of_ble_eq_true rfl⟩ (Nat.le_of_ble_eq_true rfl) dX11_whyOf_97 ⟨Nat.zero_le _, Nat.zero_le _⟩) (fun H locs hU hS => ?_)
      refine lv_if_ne (tgt := 108) X.1 X.2.1 dX11_whyOf_100 (by decide) (fun c100 => ?_) (fun c100 => ?_)
      · replace hf := k_ifN hf c100
        refine lv_iload_n X.1 X.2.1 dX11_whyOf_108 rfl (lv_at hl 0 rfl) ?_
        refine lv_iconst (v := (-1)) X.1 X.2.1 dX11_whyOf_109 (by decide) ?_
        refine lv_icmp_eq (tgt := 123) X.1 X.2.1 dX11_whyOf_110 (by decide) (fun c110 => ?_) (fun c110 => ?_)
        · replace hf := k_ifP hf c110
          refine lv_bipush (v := 8) X.1 X.2.1 dX11_whyOf_123 (by decide) ?_
          rw [← hw, k_uc_id] at hU
          have hz := Option.some.inj hf
          subst hz
          exact k_iret (v := 8) X hU hS hr hlk rfl rfl dX11_whyOf_125
        · replace hf := k_ifN hf c110
          refine lv_iload_n X.1 X.2.1 dX11_whyOf_113 rfl (lv_at hl 0 rfl) ?_
          refine lv_iload_n X.1 X.2.1 dX11_whyOf_114 rfl (lv_at hl 2 rfl) ?_
          refine lv_icmp_ge (tgt := 123) X.1 X.2.1 dX11_whyOf_115 (by decide) (fun c115 => ?_) (fun c115 => ?_)
          · replace hf := k_ifP hf c115
            refine lv_bipush (v := 8) X.1 X.2.1 dX11_whyOf_123 (by decide) ?_
            rw [← hw, k_uc_id] at hU
            have hz := Option.some.inj hf
            subst hz
            exact k_iret (v := 8) X hU hS hr hlk rfl rfl dX11_whyOf_125
          · replace hf := k_ifN hf c115
            refine lv_bipush (v := 7) X.1 X.2.1 dX11_whyOf_118 (by decide) ?_
            refine lv_goto (tgt := 125) X.1 X.2.1 dX11_whyOf_120 (by decide) ?_
            rw [← hw, k_uc_id] at hU
            have hz := Option.some.inj hf
            subst hz
            exact k_iret (v := 7) X hU hS hr hlk rfl rfl dX11_whyOf_125
      · replace hf := k_ifP hf c100
        refine lv_bipush (v := 6) X.1 X.2.1 dX11_whyOf_103 (by decide) ?_
        refine lv_goto (tgt := 125) X.1 X.2.1 dX11_whyOf_105 (by decide) ?_
        rw [← hw, k_uc_id] at hU
        have hz := Option.some.inj hf
        subst hz
        exact k_iret (v := 6) X hU hS hr hlk rfl rfl dX11_whyOf_125
    · replace hf := k_ifN hf c89
      refine lv_iconst (v := 5) X.1 X.2.1 dX11_whyOf_92 (by decide) ?_
      refine lv_goto (tgt := 125) X.1 X.2.1 dX11_whyOf_93 (by decide) ?_
      rw [← hw, k_uc_id] at hU
      have hz := Option.some.inj hf
      subst hz
      exact k_iret (v := 5) X hU hS hr hlk rfl rfl dX11_whyOf_125
  · replace hf := k_ifN hf c67
    refine lv_iconst (v := 4) X.1 X.2.1 dX11_whyOf_70 (by decide) ?_
    refine lv_goto (tgt := 125) X.1 X.2.1 dX11_whyOf_71 (by decide) ?_
    rw [← hw, k_uc_id] at hU
    have hz := Option.some.inj hf
    subst hz
    exact k_iret (v := 4) X hU hS hr hlk rfl rfl dX11_whyOf_125
def rm_X11_why : Room := { frames := 3, cells := 0, slots := 0, locals := 67 }
set_option maxRecDepth 100000 in
set_option maxHeartbeats 4000000 in
theorem c_X11_why {l : Launch} {D : va_G} {G : Nat → ClassId} {ad : Nat → Nat → Nat} {u : k_U} (hI : k_ok ad) {w : k_M} (hw : u 5 = w) {a1 : Int32} {sz : Nat} {r : (k_M × Int32)} (hf : f_X11_why w a1 = some r) : Met l yX11_why (.code yX11_why cX11_why 2 (some .int) :: lw_g) rm_X11_why (k_Pre D G ad u sz [.ref (ad 5 0), .int a1]) (k_Qi D G ad (k_uc u 5 r.1) r.2 sz) 0 0 (k_A ad sz) := by
  refine k_ofW (by decide +kernel) hI (Nat.le_of_ble_eq_true rfl) ?_
  intro p e s m args below meth c X hr hlk hU hS ls hl
  have hl : lv_has ls 2 [(0, .ref (ad 5 0)), (1, .int a1)] := hl
  have hU : k_Uv D G ad (k_uc u 5 w) s.heap := by rw [← hw, k_uc_id]; exact hU
  unfold f_X11_why at hf
  refine lv_aload_n X.1 X.2.1 dX11_why_0 rfl (lv_at hl 0 rfl) ?_
  refine lv_iconst (v := 0) X.1 X.2.1 dX11_why_1 (by decide) ?_
  obtain ⟨w2, e2, hf⟩ := k_ltE hf
  refine k_putw X hU hS sh_5_0 fp_X11_50 rfl e2 rfl rfl dX11_why_2 (fun H locs hU hS => ?_)
  refine lv_aload_n X.1 X.2.1 dX11_why_5 rfl (lv_at hl 0 rfl) ?_
  refine lv_iload_n X.1 X.2.1 dX11_why_6 rfl (lv_at hl 1 rfl) ?_
  obtain ⟨r7, hr7, hf⟩ := k_bdE hf
  refine k_backi X hS (k_runV (As := [.int a1]) (rest := []) X hS hU sh_5_0 (by decide) rfl vl_X11_194 (c_X11_noLayer X.2.2.2.2.2.2.1 (k_uc_s _ _ _) hr7) rfl rfl rfl hl.1 ⟨Nat.le_of_ble_eq_true rfl, Nat.le_of_ble_eq_true rfl⟩ (Nat.le_of_ble_eq_true rfl) dX11_why_7 ⟨Nat.zero_le _, Nat.zero_le _⟩) (fun H locs hU hS => ?_)
  rw [k_uc_uc] at hU
  refine lv_if_eq (tgt := 17) X.1 X.2.1 dX11_why_10 (by decide) (fun c10 => ?_) (fun c10 => ?_)
  · replace hf := k_ifP hf c10
    refine lv_aload_n X.1 X.2.1 dX11_why_17 rfl (lv_at hl 0 rfl) ?_
    refine lv_iload_n X.1 X.2.1 dX11_why_18 rfl (lv_at hl 1 rfl) ?_
    obtain ⟨r19, hr19, hf⟩ := k_bdE hf
    refine k_backi X hS (k_runV (As := [.int a1]) (rest := []) X hS hU sh_5_0 (by decide) rfl vl_X11_197 (c_X11_whyOf X.2.2.2.2.2.2.1 (k_uc_s _ _ _) hr19) rfl rfl rfl hl.1 ⟨Nat.le_of_ble_eq_true rfl, Nat.le_of_ble_eq_true rfl⟩ (Nat.le_of_ble_eq_true rfl) dX11_why_19 ⟨Nat.zero_le _, Nat.zero_le _⟩) (fun H locs hU hS => ?_)
    have hz := Option.some.inj hf
    subst hz
    exact k_iret (v := r19) X hU hS hr hlk rfl rfl dX11_why_22
  · replace hf := k_ifN hf c10
    refine lv_iconst (v := 0) X.1 X.2.1 dX11_why_13 (by decide) ?_
    refine lv_goto (tgt := 22) X.1 X.2.1 dX11_why_14 (by decide) ?_
    have hz := Option.some.inj hf
    subst hz
    exact k_iret (v := 0) X hU hS hr hlk rfl rfl dX11_why_22
def rm_X11_whyReserve : Room := { frames := 2, cells := 0, slots := 0, locals := 45 }
set_option maxRecDepth 100000 in
set_option maxHeartbeats 4000000 in
theorem c_X11_whyReserve {l : Launch} {D : va_G} {G : Nat → ClassId} {ad : Nat → Nat → Nat} {u : k_U} (hI : k_ok ad) {w : k_M} (hw : u 5 = w) {sz : Nat} {r : (k_M × Int32)} (hf : f_X11_whyReserve w = some r) : Met l yX11_whyReserve (.code yX11_whyReserve cX11_whyReserve 2 (some .int) :: lw_g) rm_X11_whyReserve (k_Pre D G ad u sz [.ref (ad 5 0)]) (k_Qi D G ad (k_uc u 5 r.1) r.2 sz) 0 0 (k_A ad sz) := by
  refine k_ofW (by decide +kernel) hI (Nat.le_of_ble_eq_true rfl) ?_
  intro p e s m args below meth c X hr hlk hU hS ls hl
  have hl : lv_has ls 2 [(0, .ref (ad 5 0))] := hl
  have hU : k_Uv D G ad (k_uc u 5 w) s.heap := by rw [← hw, k_uc_id]; exact hU
  unfold f_X11_whyReserve at hf
  refine lv_aload_n X.1 X.2.1 dX11_whyReserve_0 rfl (lv_at hl 0 rfl) ?_
  refine lv_iconst (v := 0) X.1 X.2.1 dX11_whyReserve_1 (by decide) ?_
  obtain ⟨w2, e2, hf⟩ := k_ltE hf
  refine k_putw X hU hS sh_5_0 fp_X11_50 rfl e2 rfl rfl dX11_whyReserve_2 (fun H locs hU hS => ?_)
  refine lv_aload_n X.1 X.2.1 dX11_whyReserve_5 rfl (lv_at hl 0 rfl) ?_
  refine k_getw (v := .ref (ad 5 1)) X hU sh_5_0 fl_X11_7 rfl dX11_whyReserve_6 ?_
  refine lv_bipush (v := 9) X.1 X.2.1 dX11_whyReserve_9 (by decide) ?_
  refine k_ildw (j0 := 9) X hU sh_5_1 (k_vin (N := 268) (by decide) (by decide)) (by decide) dX11_whyReserve_11 ?_
  refine lv_if_ne (tgt := 17) X.1 X.2.1 dX11_whyReserve_12 (by decide) (fun c12 => ?_) (fun c12 => ?_)
  · replace hf := k_ifN hf c12
    refine lv_aload_n X.1 X.2.1 dX11_whyReserve_17 rfl (lv_at hl 0 rfl) ?_
    refine k_getw (v := .ref (ad 5 1)) X hU sh_5_0 fl_X11_7 rfl dX11_whyReserve_18 ?_
    refine lv_bipush (v := 73) X.1 X.2.1 dX11_whyReserve_21 (by decide) ?_
    refine k_ildw (j0 := 73) X hU sh_5_1 (k_vin (N := 268) (by decide) (by decide)) (by decide) dX11_whyReserve_23 ?_
    obtain ⟨x24, e24, hf⟩ := k_ltE hf
    refine k_nmi e24 ?_
    refine lv_istore_n (lv' := [(1, .int x24), (0, .ref (ad 5 0))]) X.1 X.2.1 dX11_whyReserve_24 rfl hl (by decide) rfl (fun ls hl => ?_)
    refine lv_iload_n X.1 X.2.1 dX11_whyReserve_25 rfl (lv_at hl 0 rfl) ?_
    refine lv_if_eq (tgt := 40) X.1 X.2.1 dX11_whyReserve_26 (by decide) (fun c26 => ?_) (fun c26 => ?_)
    · replace hf := k_ifP hf c26
      refine lv_aload_n X.1 X.2.1 dX11_whyReserve_40 rfl (lv_at hl 1 rfl) ?_
      refine k_getw (v := .ref (ad 5 1)) X hU sh_5_0 fl_X11_7 rfl dX11_whyReserve_41 ?_
      refine lv_iconst (v := 0) X.1 X.2.1 dX11_whyReserve_44 (by decide) ?_
      refine k_ildw (j0 := 0) X hU sh_5_1 (k_vin (N := 268) (by decide) (by decide)) (by decide) dX11_whyReserve_45 ?_
      refine lv_aload_n X.1 X.2.1 dX11_whyReserve_46 rfl (lv_at hl 1 rfl) ?_
      refine k_getw (v := .ref (ad 5 1)) X hU sh_5_0 fl_X11_7 rfl dX11_whyReserve_47 ?_
      refine lv_bipush (v := 55) X.1 X.2.1 dX11_whyReserve_50 (by decide) ?_
      refine k_ildw (j0 := 55) X hU sh_5_1 (k_vin (N := 268) (by decide) (by decide)) (by decide) dX11_whyReserve_52 ?_
      refine lv_icmp_le (tgt := 60) X.1 X.2.1 dX11_whyReserve_53 (by decide) (fun c53 => ?_) (fun c53 => ?_)
      · replace hf := k_ifP hf c53
        refine lv_aload_n X.1 X.2.1 dX11_whyReserve_60 rfl (lv_at hl 1 rfl) ?_
        obtain ⟨r61, hr61, hf⟩ := k_bdE hf
        refine k_backi X hS (k_runV (As := []) (rest := []) X hS hU sh_5_0 (by decide) rfl vl_X11_72 (c_X11_failed X.2.2.2.2.2.2.1 (k_uc_s _ _ _) hr61) rfl rfl rfl hl.1 ⟨Nat.le_of_ble_eq_true rfl, Nat.le_of_ble_eq_true rfl⟩ (Nat.le_of_ble_eq_true rfl) dX11_whyReserve_61 ⟨Nat.zero_le _, Nat.zero_le _⟩) (fun H locs hU hS => ?_)
        refine lv_aload_n X.1 X.2.1 dX11_whyReserve_64 rfl (lv_at hl 1 rfl) ?_
        refine k_getw (v := .ref (ad 5 1)) X hU sh_5_0 fl_X11_7 rfl dX11_whyReserve_65 ?_
        refine lv_bipush (v := 64) X.1 X.2.1 dX11_whyReserve_68 (by decide) ?_
        refine k_ildw (j0 := 64) X hU sh_5_1 (k_vin (N := 268) (by decide) (by decide)) (by decide) dX11_whyReserve_70 ?_
        refine lv_icmp_ge (tgt := 78) X.1 X.2.1 dX11_whyReserve_71 (by decide) (fun c71 => ?_) (fun c71 => ?_)
        · replace hf := k_ifP hf c71
          refine lv_aload_n X.1 X.2.1 dX11_whyReserve_78 rfl (lv_at hl 1 rfl) ?_
          obtain ⟨r79, hr79, hf⟩ := k_bdE hf
          refine k_backi X hS (k_runV (As := []) (rest := []) X hS hU sh_5_0 (by decide) rfl vl_X11_75 (c_X11_firstThatMay X.2.2.2.2.2.2.1 (k_uc_s _ _ _) hr79) rfl rfl rfl hl.1 ⟨Nat.le_of_ble_eq_true rfl, Nat.le_of_ble_eq_true rfl⟩ (Nat.le_of_ble_eq_true rfl) dX11_whyReserve_79 ⟨Nat.zero_le _, Nat.zero_le _⟩) (fun H locs hU hS => ?_)
          refine lv_iconst (v := (-1)) X.1 X.2.1 dX11_whyReserve_82 (by decide) ?_
          refine lv_icmp_eq (tgt := 90) X.1 X.2.1 dX11_whyReserve_83 (by decide) (fun c83 => ?_) (fun c83 => ?_)
          · replace hf := k_ifP hf c83
            refine lv_aload_n X.1 X.2.1 dX11_whyReserve_90 rfl (lv_at hl 1 rfl) ?_
            obtain ⟨r91, hr91, hf⟩ := k_bdE hf
            refine k_backi X hS (k_runV (As := []) (rest := []) X hS hU sh_5_0 (by decide) rfl vl_X11_136 (c_X11_asksNow X.2.2.2.2.2.2.1 (k_uc_s _ _ _) hr91) rfl rfl rfl hl.1 ⟨Nat.le_of_ble_eq_true rfl, Nat.le_of_ble_eq_true rfl⟩ (Nat.le_of_ble_eq_true rfl) dX11_whyReserve_91 ⟨Nat.zero_le _, Nat.zero_le _⟩) (fun H locs hU hS => ?_)
            refine lv_if_ne (tgt := 102) X.1 X.2.1 dX11_whyReserve_94 (by decide) (fun c94 => ?_) (fun c94 => ?_)
            · replace hf := k_ifN hf c94
              refine lv_bipush (v := 7) X.1 X.2.1 dX11_whyReserve_102 (by decide) ?_
              have hz := Option.some.inj hf
              subst hz
              exact k_iret (v := 7) X hU hS hr hlk rfl rfl dX11_whyReserve_104
            · replace hf := k_ifP hf c94
              refine lv_bipush (v := 6) X.1 X.2.1 dX11_whyReserve_97 (by decide) ?_
              refine lv_goto (tgt := 104) X.1 X.2.1 dX11_whyReserve_99 (by decide) ?_
              have hz := Option.some.inj hf
              subst hz
              exact k_iret (v := 6) X hU hS hr hlk rfl rfl dX11_whyReserve_104
          · replace hf := k_ifN hf c83
            refine lv_iconst (v := 5) X.1 X.2.1 dX11_whyReserve_86 (by decide) ?_
            refine lv_goto (tgt := 104) X.1 X.2.1 dX11_whyReserve_87 (by decide) ?_
            have hz := Option.some.inj hf
            subst hz
            exact k_iret (v := 5) X hU hS hr hlk rfl rfl dX11_whyReserve_104
        · replace hf := k_ifN hf c71
          refine lv_iconst (v := 4) X.1 X.2.1 dX11_whyReserve_74 (by decide) ?_
          refine lv_goto (tgt := 104) X.1 X.2.1 dX11_whyReserve_75 (by decide) ?_
          have hz := Option.some.inj hf
          subst hz
          exact k_iret (v := 4) X hU hS hr hlk rfl rfl dX11_whyReserve_104
      · replace hf := k_ifN hf c53
        refine lv_iconst (v := 3) X.1 X.2.1 dX11_whyReserve_56 (by decide) ?_
        refine lv_goto (tgt := 104) X.1 X.2.1 dX11_whyReserve_57 (by decide) ?_
        have hz := Option.some.inj hf
        subst hz
        exact k_iret (v := 3) X hU hS hr hlk rfl rfl dX11_whyReserve_104
    · replace hf := k_ifN hf c26
      refine lv_iload_n X.1 X.2.1 dX11_whyReserve_29 rfl (lv_at hl 0 rfl) ?_
      refine lv_iconst (v := 1) X.1 X.2.1 dX11_whyReserve_30 (by decide) ?_
      refine lv_icmp_ne (tgt := 38) X.1 X.2.1 dX11_whyReserve_31 (by decide) (fun c31 => ?_) (fun c31 => ?_)
      · replace hf := k_ifN hf c31
        refine lv_iconst (v := 2) X.1 X.2.1 dX11_whyReserve_38 (by decide) ?_
        have hz := Option.some.inj hf
        subst hz
        exact k_iret (v := 2) X hU hS hr hlk rfl rfl dX11_whyReserve_39
      · replace hf := k_ifP hf c31
        refine lv_iconst (v := 0) X.1 X.2.1 dX11_whyReserve_34 (by decide) ?_
        refine lv_goto (tgt := 39) X.1 X.2.1 dX11_whyReserve_35 (by decide) ?_
        have hz := Option.some.inj hf
        subst hz
        exact k_iret (v := 0) X hU hS hr hlk rfl rfl dX11_whyReserve_39
  · replace hf := k_ifP hf c12
    refine lv_iconst (v := 1) X.1 X.2.1 dX11_whyReserve_15 (by decide) ?_
    have hz := Option.some.inj hf
    subst hz
    exact k_iret (v := 1) X hU hS hr hlk rfl rfl dX11_whyReserve_16
def rm_X11_loadOn : Room := { frames := 3, cells := 0, slots := 0, locals := 65 }
set_option maxRecDepth 100000 in
set_option maxHeartbeats 4000000 in
theorem c_X11_loadOn {l : Launch} {D : va_G} {G : Nat → ClassId} {ad : Nat → Nat → Nat} {u : k_U} (hI : k_ok ad) {w : k_M} (hw : u 5 = w) {a1 : Int32} {sz : Nat} {r : (k_M × Int32)} (hf : f_X11_loadOn w a1 = some r) : Met l yX11_loadOn (.code yX11_loadOn cX11_loadOn 3 (some .int) :: lw_g) rm_X11_loadOn (k_Pre D G ad u sz [.ref (ad 5 0), .int a1]) (k_Qi D G ad (k_uc u 5 r.1) r.2 sz) 0 0 (k_A ad sz) := by
  refine k_ofW (by decide +kernel) hI (Nat.le_of_ble_eq_true rfl) ?_
  intro p e s m args below meth c X hr hlk hU hS ls hl
  have hl : lv_has ls 3 [(0, .ref (ad 5 0)), (1, .int a1)] := hl
  have hU : k_Uv D G ad (k_uc u 5 w) s.heap := by rw [← hw, k_uc_id]; exact hU
  unfold f_X11_loadOn at hf
  refine lv_aload_n X.1 X.2.1 dX11_loadOn_0 rfl (lv_at hl 0 rfl) ?_
  refine lv_iconst (v := 0) X.1 X.2.1 dX11_loadOn_1 (by decide) ?_
  obtain ⟨w2, e2, hf⟩ := k_ltE hf
  refine k_putw X hU hS sh_5_0 fp_X11_50 rfl e2 rfl rfl dX11_loadOn_2 (fun H locs hU hS => ?_)
  refine lv_aload_n X.1 X.2.1 dX11_loadOn_5 rfl (lv_at hl 0 rfl) ?_
  refine lv_iload_n X.1 X.2.1 dX11_loadOn_6 rfl (lv_at hl 1 rfl) ?_
  obtain ⟨r7, hr7, hf⟩ := k_bdE hf
  refine k_backi X hS (k_runV (As := [.int a1]) (rest := []) X hS hU sh_5_0 (by decide) rfl vl_X11_185 (c_X11_noChute X.2.2.2.2.2.2.1 (k_uc_s _ _ _) hr7) rfl rfl rfl hl.1 ⟨Nat.le_of_ble_eq_true rfl, Nat.le_of_ble_eq_true rfl⟩ (Nat.le_of_ble_eq_true rfl) dX11_loadOn_7 ⟨Nat.zero_le _, Nat.zero_le _⟩) (fun H locs hU hS => ?_)
  rw [k_uc_uc] at hU
  refine lv_if_eq (tgt := 15) X.1 X.2.1 dX11_loadOn_10 (by decide) (fun c10 => ?_) (fun c10 => ?_)
  · replace hf := k_ifP hf c10
    refine lv_aload_n X.1 X.2.1 dX11_loadOn_15 rfl (lv_at hl 0 rfl) ?_
    refine lv_iload_n X.1 X.2.1 dX11_loadOn_16 rfl (lv_at hl 1 rfl) ?_
    obtain ⟨r17, hr17, hf⟩ := k_bdE hf
    refine k_backi X hS (k_runV (As := [.int a1]) (rest := []) X hS hU sh_5_0 (by decide) rfl vl_X11_188 (c_X11_placeOf X.2.2.2.2.2.2.1 (k_uc_s _ _ _) hr17) rfl rfl rfl hl.1 ⟨Nat.le_of_ble_eq_true rfl, Nat.le_of_ble_eq_true rfl⟩ (Nat.le_of_ble_eq_true rfl) dX11_loadOn_17 ⟨Nat.zero_le _, Nat.zero_le _⟩) (fun H locs hU hS => ?_)
    refine lv_istore_n (lv' := [(2, .int r17), (0, .ref (ad 5 0)), (1, .int a1)]) X.1 X.2.1 dX11_loadOn_20 rfl hl (by decide) rfl (fun ls hl => ?_)
    refine lv_aload_n X.1 X.2.1 dX11_loadOn_21 rfl (lv_at hl 1 rfl) ?_
    refine k_getw (v := .ref (ad 5 1)) X hU sh_5_0 fl_X11_7 rfl dX11_loadOn_22 ?_
    refine lv_bipush (v := 65) X.1 X.2.1 dX11_loadOn_25 (by decide) ?_
    refine lv_iload_n X.1 X.2.1 dX11_loadOn_27 rfl (lv_at hl 0 rfl) ?_
    refine lv_iadd X.1 X.2.1 dX11_loadOn_28 ?_
    obtain ⟨hi29, hf⟩ := k_ckE hf
    refine k_ildw (j0 := (65 + r17).toNatClampNeg) X hU sh_5_1 (k_vin (n := 268) hi29 (by decide)) rfl dX11_loadOn_29 ?_
    refine lv_iconst (v := 1) X.1 X.2.1 dX11_loadOn_30 (by decide) ?_
    refine lv_icmp_ne (tgt := 55) X.1 X.2.1 dX11_loadOn_31 (by decide) (fun c31 => ?_) (fun c31 => ?_)
    · replace hf := k_ifN hf c31
      refine lv_iconst (v := 0) X.1 X.2.1 dX11_loadOn_55 (by decide) ?_
      have hz := Option.some.inj hf
      subst hz
      exact k_iret (v := 0) X hU hS hr hlk rfl rfl dX11_loadOn_56
    · replace hf := k_ifP hf c31
      refine lv_aload_n X.1 X.2.1 dX11_loadOn_34 rfl (lv_at hl 1 rfl) ?_
      refine lv_iload_n X.1 X.2.1 dX11_loadOn_35 rfl (lv_at hl 0 rfl) ?_
      refine lv_aload_n X.1 X.2.1 dX11_loadOn_36 rfl (lv_at hl 1 rfl) ?_
      refine k_getw (v := .ref (ad 5 1)) X hU sh_5_0 fl_X11_7 rfl dX11_loadOn_37 ?_
      refine lv_bipush (v := 74) X.1 X.2.1 dX11_loadOn_40 (by decide) ?_
      refine lv_iload_n X.1 X.2.1 dX11_loadOn_42 rfl (lv_at hl 0 rfl) ?_
      refine lv_iadd X.1 X.2.1 dX11_loadOn_43 ?_
      obtain ⟨hi44, hf⟩ := k_ckE hf
      refine k_ildw (j0 := (74 + r17).toNatClampNeg) X hU sh_5_1 (k_vin (n := 268) hi44 (by decide)) rfl dX11_loadOn_44 ?_
      obtain ⟨r45, hr45, hf⟩ := k_bdE hf
      refine k_backi X hS (k_runS (As := [.int (r7.1 1 ((74 + r17).toNatClampNeg))]) (rest := [.int r17, .ref (ad 5 0)]) X hS hU sl_X11_100 (c_X11_bits X.2.2.2.2.2.2.1 hr45) rfl rfl rfl hl.1 ⟨Nat.le_of_ble_eq_true rfl, Nat.le_of_ble_eq_true rfl⟩ (Nat.le_of_ble_eq_true rfl) dX11_loadOn_45 ⟨Nat.zero_le _, Nat.zero_le _⟩) (fun H locs hU hS => ?_)
      obtain ⟨r48, hr48, hf⟩ := k_bdE hf
      refine k_backl X hS (k_runV (As := [.int r17, .int r45]) (rest := []) X hS hU sh_5_0 (by decide) rfl vl_X11_103 (c_X11_loadFor X.2.2.2.2.2.2.1 (k_uc_s _ _ _) hr48) rfl rfl rfl hl.1 ⟨Nat.le_of_ble_eq_true rfl, Nat.le_of_ble_eq_true rfl⟩ (Nat.le_of_ble_eq_true rfl) dX11_loadOn_48 ⟨Nat.zero_le _, Nat.zero_le _⟩) (fun H locs hU hS => ?_)
      refine lv_l2i (v := r48.toInt32) X.1 X.2.1 dX11_loadOn_51 rfl ?_
      refine lv_goto (tgt := 56) X.1 X.2.1 dX11_loadOn_52 (by decide) ?_
      have hz := Option.some.inj hf
      subst hz
      exact k_iret (v := r48.toInt32) X hU hS hr hlk rfl rfl dX11_loadOn_56
  · replace hf := k_ifN hf c10
    refine lv_iconst (v := 0) X.1 X.2.1 dX11_loadOn_13 (by decide) ?_
    have hz := Option.some.inj hf
    subst hz
    exact k_iret (v := 0) X hU hS hr hlk rfl rfl dX11_loadOn_14
def rm_X11_wouldTear : Room := { frames := 4, cells := 0, slots := 0, locals := 92 }
set_option maxRecDepth 100000 in
set_option maxHeartbeats 4000000 in
theorem c_X11_wouldTear {l : Launch} {D : va_G} {G : Nat → ClassId} {ad : Nat → Nat → Nat} {u : k_U} (hI : k_ok ad) {w : k_M} (hw : u 5 = w) {a1 : Int32} {sz : Nat} {r : (k_M × Int32)} (hf : f_X11_wouldTear w a1 = some r) : Met l yX11_wouldTear (.code yX11_wouldTear cX11_wouldTear 3 (some .int) :: lw_g) rm_X11_wouldTear (k_Pre D G ad u sz [.ref (ad 5 0), .int a1]) (k_Qi D G ad (k_uc u 5 r.1) r.2 sz) 0 0 (k_A ad sz) := by
  refine k_ofW (by decide +kernel) hI (Nat.le_of_ble_eq_true rfl) ?_
  intro p e s m args below meth c X hr hlk hU hS ls hl
  have hl : lv_has ls 3 [(0, .ref (ad 5 0)), (1, .int a1)] := hl
  have hU : k_Uv D G ad (k_uc u 5 w) s.heap := by rw [← hw, k_uc_id]; exact hU
  unfold f_X11_wouldTear at hf
  refine lv_aload_n X.1 X.2.1 dX11_wouldTear_0 rfl (lv_at hl 0 rfl) ?_
  refine lv_iconst (v := 0) X.1 X.2.1 dX11_wouldTear_1 (by decide) ?_
  obtain ⟨w2, e2, hf⟩ := k_ltE hf
  refine k_putw X hU hS sh_5_0 fp_X11_50 rfl e2 rfl rfl dX11_wouldTear_2 (fun H locs hU hS => ?_)
  refine lv_aload_n X.1 X.2.1 dX11_wouldTear_5 rfl (lv_at hl 0 rfl) ?_
  refine lv_iload_n X.1 X.2.1 dX11_wouldTear_6 rfl (lv_at hl 1 rfl) ?_
  obtain ⟨r7, hr7, hf⟩ := k_bdE hf
  refine k_backi X hS (k_runV (As := [.int a1]) (rest := []) X hS hU sh_5_0 (by decide) rfl vl_X11_185 (c_X11_noChute X.2.2.2.2.2.2.1 (k_uc_s _ _ _) hr7) rfl rfl rfl hl.1 ⟨Nat.le_of_ble_eq_true rfl, Nat.le_of_ble_eq_true rfl⟩ (Nat.le_of_ble_eq_true rfl) dX11_wouldTear_7 ⟨Nat.zero_le _, Nat.zero_le _⟩) (fun H locs hU hS => ?_)
  rw [k_uc_uc] at hU
  refine lv_if_eq (tgt := 15) X.1 X.2.1 dX11_wouldTear_10 (by decide) (fun c10 => ?_) (fun c10 => ?_)
  · replace hf := k_ifP hf c10
    refine lv_aload_n X.1 X.2.1 dX11_wouldTear_15 rfl (lv_at hl 0 rfl) ?_
    refine lv_iload_n X.1 X.2.1 dX11_wouldTear_16 rfl (lv_at hl 1 rfl) ?_
    obtain ⟨r17, hr17, hf⟩ := k_bdE hf
    refine k_backi X hS (k_runV (As := [.int a1]) (rest := []) X hS hU sh_5_0 (by decide) rfl vl_X11_188 (c_X11_placeOf X.2.2.2.2.2.2.1 (k_uc_s _ _ _) hr17) rfl rfl rfl hl.1 ⟨Nat.le_of_ble_eq_true rfl, Nat.le_of_ble_eq_true rfl⟩ (Nat.le_of_ble_eq_true rfl) dX11_wouldTear_17 ⟨Nat.zero_le _, Nat.zero_le _⟩) (fun H locs hU hS => ?_)
    refine lv_istore_n (lv' := [(2, .int r17), (0, .ref (ad 5 0)), (1, .int a1)]) X.1 X.2.1 dX11_wouldTear_20 rfl hl (by decide) rfl (fun ls hl => ?_)
    refine lv_aload_n X.1 X.2.1 dX11_wouldTear_21 rfl (lv_at hl 1 rfl) ?_
    refine k_getw (v := .ref (ad 5 1)) X hU sh_5_0 fl_X11_7 rfl dX11_wouldTear_22 ?_
    refine lv_bipush (v := 65) X.1 X.2.1 dX11_wouldTear_25 (by decide) ?_
    refine lv_iload_n X.1 X.2.1 dX11_wouldTear_27 rfl (lv_at hl 0 rfl) ?_
    refine lv_iadd X.1 X.2.1 dX11_wouldTear_28 ?_
    obtain ⟨hi29, hf⟩ := k_ckE hf
    refine k_ildw (j0 := (65 + r17).toNatClampNeg) X hU sh_5_1 (k_vin (n := 268) hi29 (by decide)) rfl dX11_wouldTear_29 ?_
    refine lv_iconst (v := 1) X.1 X.2.1 dX11_wouldTear_30 (by decide) ?_
    refine lv_icmp_ne (tgt := 58) X.1 X.2.1 dX11_wouldTear_31 (by decide) (fun c31 => ?_) (fun c31 => ?_)
    · replace hf := k_ifN hf c31
      refine lv_iconst (v := 0) X.1 X.2.1 dX11_wouldTear_58 (by decide) ?_
      have hz := Option.some.inj hf
      subst hz
      exact k_iret (v := 0) X hU hS hr hlk rfl rfl dX11_wouldTear_59
    · replace hf := k_ifP hf c31
      refine lv_aload_n X.1 X.2.1 dX11_wouldTear_34 rfl (lv_at hl 1 rfl) ?_
      refine k_getw (v := .ref (ad 5 1)) X hU sh_5_0 fl_X11_7 rfl dX11_wouldTear_35 ?_
      refine lv_bipush (v := 74) X.1 X.2.1 dX11_wouldTear_38 (by decide) ?_
      refine lv_iload_n X.1 X.2.1 dX11_wouldTear_40 rfl (lv_at hl 0 rfl) ?_
      refine lv_iadd X.1 X.2.1 dX11_wouldTear_41 ?_
      obtain ⟨hi42, hf⟩ := k_ckE hf
      refine k_ildw (j0 := (74 + r17).toNatClampNeg) X hU sh_5_1 (k_vin (n := 268) hi42 (by decide)) rfl dX11_wouldTear_42 ?_
      obtain ⟨r43, hr43, hf⟩ := k_bdE hf
      refine k_backi X hS (k_runS (As := [.int (r7.1 1 ((74 + r17).toNatClampNeg))]) (rest := []) X hS hU sl_X11_100 (c_X11_bits X.2.2.2.2.2.2.1 hr43) rfl rfl rfl hl.1 ⟨Nat.le_of_ble_eq_true rfl, Nat.le_of_ble_eq_true rfl⟩ (Nat.le_of_ble_eq_true rfl) dX11_wouldTear_43 ⟨Nat.zero_le _, Nat.zero_le _⟩) (fun H locs hU hS => ?_)
      refine lv_aload_n X.1 X.2.1 dX11_wouldTear_46 rfl (lv_at hl 1 rfl) ?_
      refine lv_iload_n X.1 X.2.1 dX11_wouldTear_47 rfl (lv_at hl 0 rfl) ?_
      obtain ⟨r48, hr48, hf⟩ := k_bdE hf
      refine k_backi X hS (k_runV (As := [.int r17]) (rest := [.int r43]) X hS hU sh_5_0 (by decide) rfl vl_X11_116 (c_X11_linesLeft X.2.2.2.2.2.2.1 (k_uc_s _ _ _) hr48) rfl rfl rfl hl.1 ⟨Nat.le_of_ble_eq_true rfl, Nat.le_of_ble_eq_true rfl⟩ (Nat.le_of_ble_eq_true rfl) dX11_wouldTear_48 ⟨Nat.zero_le _, Nat.zero_le _⟩) (fun H locs hU hS => ?_)
      obtain ⟨r51, hr51, hf⟩ := k_bdE hf
      refine k_backi X hS (k_runS (As := [.int r48]) (rest := [.int r43]) X hS hU sl_X11_100 (c_X11_bits X.2.2.2.2.2.2.1 hr51) rfl rfl rfl hl.1 ⟨Nat.le_of_ble_eq_true rfl, Nat.le_of_ble_eq_true rfl⟩ (Nat.le_of_ble_eq_true rfl) dX11_wouldTear_51 ⟨Nat.zero_le _, Nat.zero_le _⟩) (fun H locs hU hS => ?_)
      refine lv_isub X.1 X.2.1 dX11_wouldTear_54 ?_
      refine lv_goto (tgt := 59) X.1 X.2.1 dX11_wouldTear_55 (by decide) ?_
      have hz := Option.some.inj hf
      subst hz
      exact k_iret (v := (r43 - r51)) X hU hS hr hlk rfl rfl dX11_wouldTear_59
  · replace hf := k_ifN hf c10
    refine lv_iconst (v := 0) X.1 X.2.1 dX11_wouldTear_13 (by decide) ?_
    have hz := Option.some.inj hf
    subst hz
    exact k_iret (v := 0) X hU hS hr hlk rfl rfl dX11_wouldTear_14
def rm_X11_back : Room := { frames := 1, cells := 0, slots := 0, locals := 24 }
set_option maxRecDepth 100000 in
set_option maxHeartbeats 4000000 in
theorem c_X11_back {l : Launch} {D : va_G} {G : Nat → ClassId} {ad : Nat → Nat → Nat} {u : k_U} (hI : k_ok ad) {w : k_M} (hw : u 5 = w) {a1 : Int32} {sz : Nat} {r : (k_M × Int32)} (hf : f_X11_back w a1 = some r) : Met l yX11_back (.code yX11_back cX11_back 2 (some .int) :: lw_g) rm_X11_back (k_Pre D G ad u sz [.ref (ad 5 0), .int a1]) (k_Qi D G ad (k_uc u 5 r.1) r.2 sz) 0 0 (k_A ad sz) := by
  refine k_ofW (by decide +kernel) hI (Nat.le_of_ble_eq_true rfl) ?_
  intro p e s m args below meth c X hr hlk hU hS ls hl
  have hl : lv_has ls 2 [(0, .ref (ad 5 0)), (1, .int a1)] := hl
  have hU : k_Uv D G ad (k_uc u 5 w) s.heap := by rw [← hw, k_uc_id]; exact hU
  unfold f_X11_back at hf
  refine lv_aload_n X.1 X.2.1 dX11_back_0 rfl (lv_at hl 0 rfl) ?_
  refine k_getw (v := .ref (ad 5 3)) X hU sh_5_0 fl_X11_16 rfl dX11_back_1 ?_
  refine lv_iconst (v := 0) X.1 X.2.1 dX11_back_4 (by decide) ?_
  refine lv_aload_n X.1 X.2.1 dX11_back_5 rfl (lv_at hl 0 rfl) ?_
  refine k_getw (v := .ref (ad 5 1)) X hU sh_5_0 fl_X11_7 rfl dX11_back_6 ?_
  refine lv_iconst (v := 0) X.1 X.2.1 dX11_back_9 (by decide) ?_
  obtain ⟨r10, hr10, hf⟩ := k_bdE hf
  refine k_backv X hS (k_runS (As := [.ref (ad 5 3), .int 0, .ref (ad 5 1), .int 0]) (rest := []) X hS hU sl_X11_200 (c_X11_copies X.2.2.2.2.2.2.1 (k_uc_s _ _ _) sh_5_3 (by decide) sh_5_1 (by decide) hr10) rfl rfl rfl hl.1 ⟨Nat.le_of_ble_eq_true rfl, Nat.le_of_ble_eq_true rfl⟩ (Nat.le_of_ble_eq_true rfl) dX11_back_10 ⟨Nat.zero_le _, Nat.zero_le _⟩) (fun H locs hU hS => ?_)
  rw [k_uc_uc] at hU
  refine lv_iload_n X.1 X.2.1 dX11_back_13 rfl (lv_at hl 1 rfl) ?_
  have hz := Option.some.inj hf
  subst hz
  exact k_iret (v := a1) X hU hS hr hlk rfl rfl dX11_back_14
def rm_X11_looks : Room := { frames := 1, cells := 0, slots := 0, locals := 24 }
set_option maxRecDepth 100000 in
set_option maxHeartbeats 4000000 in
theorem c_X11_looks {l : Launch} {D : va_G} {G : Nat → ClassId} {ad : Nat → Nat → Nat} {u : k_U} (hI : k_ok ad) {w : k_M} (hw : u 5 = w) {sz : Nat} {r : k_M} (hf : f_X11_looks w = some r) : Met l yX11_looks (.code yX11_looks cX11_looks 1 none :: lw_g) rm_X11_looks (k_Pre D G ad u sz [.ref (ad 5 0)]) (k_Qv D G ad (k_uc u 5 r) sz) 0 0 (k_A ad sz) := by
  refine k_ofW (by decide +kernel) hI (Nat.le_of_ble_eq_true rfl) ?_
  intro p e s m args below meth c X hr hlk hU hS ls hl
  have hl : lv_has ls 1 [(0, .ref (ad 5 0))] := hl
  have hU : k_Uv D G ad (k_uc u 5 w) s.heap := by rw [← hw, k_uc_id]; exact hU
  unfold f_X11_looks at hf
  refine lv_aload_n X.1 X.2.1 dX11_looks_0 rfl (lv_at hl 0 rfl) ?_
  refine lv_iconst (v := 0) X.1 X.2.1 dX11_looks_1 (by decide) ?_
  obtain ⟨w2, e2, hf⟩ := k_ltE hf
  refine k_putw X hU hS sh_5_0 fp_X11_50 rfl e2 rfl rfl dX11_looks_2 (fun H locs hU hS => ?_)
  refine lv_aload_n X.1 X.2.1 dX11_looks_5 rfl (lv_at hl 0 rfl) ?_
  refine k_getw (v := .ref (ad 5 1)) X hU sh_5_0 fl_X11_7 rfl dX11_looks_6 ?_
  refine lv_iconst (v := 0) X.1 X.2.1 dX11_looks_9 (by decide) ?_
  refine lv_aload_n X.1 X.2.1 dX11_looks_10 rfl (lv_at hl 0 rfl) ?_
  refine k_getw (v := .ref (ad 5 3)) X hU sh_5_0 fl_X11_16 rfl dX11_looks_11 ?_
  refine lv_iconst (v := 0) X.1 X.2.1 dX11_looks_14 (by decide) ?_
  obtain ⟨r15, hr15, hf⟩ := k_bdE hf
  refine k_backv X hS (k_runS (As := [.ref (ad 5 1), .int 0, .ref (ad 5 3), .int 0]) (rest := []) X hS hU sl_X11_200 (c_X11_copies X.2.2.2.2.2.2.1 (k_uc_s _ _ _) sh_5_1 (by decide) sh_5_3 (by decide) hr15) rfl rfl rfl hl.1 ⟨Nat.le_of_ble_eq_true rfl, Nat.le_of_ble_eq_true rfl⟩ (Nat.le_of_ble_eq_true rfl) dX11_looks_15 ⟨Nat.zero_le _, Nat.zero_le _⟩) (fun H locs hU hS => ?_)
  rw [k_uc_uc] at hU
  have hz := Option.some.inj hf
  subst hz
  exact k_vret X hU hS hr hlk dX11_looks_18
def rm_X11_lands : Room := { frames := 7, cells := 0, slots := 0, locals := 166 }
set_option maxRecDepth 100000 in
set_option maxHeartbeats 4000000 in
theorem c_X11_lands {l : Launch} {D : va_G} {G : Nat → ClassId} {ad : Nat → Nat → Nat} {u : k_U} (hI : k_ok ad) {w : k_M} (hw : u 5 = w) {sz : Nat} {r : (k_M × Int32)} (hf : f_X11_lands w = some r) : Met l yX11_lands (.code yX11_lands cX11_lands 2 (some .boolean) :: lw_g) rm_X11_lands (k_Pre D G ad u sz [.ref (ad 5 0)]) (k_Qi D G ad (k_uc u 5 r.1) r.2 sz) 0 0 (k_A ad sz) := by
  refine k_ofW (by decide +kernel) hI (Nat.le_of_ble_eq_true rfl) ?_
  intro p e s m args below meth c X hr hlk hU hS ls hl
  have hl : lv_has ls 2 [(0, .ref (ad 5 0))] := hl
  have hU : k_Uv D G ad (k_uc u 5 w) s.heap := by rw [← hw, k_uc_id]; exact hU
  unfold f_X11_lands at hf
  refine lv_aload_n X.1 X.2.1 dX11_lands_0 rfl (lv_at hl 0 rfl) ?_
  refine lv_sipush (v := 3000) X.1 X.2.1 dX11_lands_1 (by decide) ?_
  refine lv_iconst (v := 0) X.1 X.2.1 dX11_lands_4 (by decide) ?_
  obtain ⟨r5, hr5, hf⟩ := k_bdE hf
  refine k_backi X hS (k_runV (As := [.int 3000, .int 0]) (rest := []) X hS hU sh_5_0 (by decide) rfl vl_X11_204 (c_X11_seconds X.2.2.2.2.2.2.1 (k_uc_s _ _ _) hr5) rfl rfl rfl hl.1 ⟨Nat.le_of_ble_eq_true rfl, Nat.le_of_ble_eq_true rfl⟩ (Nat.le_of_ble_eq_true rfl) dX11_lands_5 ⟨Nat.zero_le _, Nat.zero_le _⟩) (fun H locs hU hS => ?_)
  rw [k_uc_uc] at hU
  refine lv_istore_n (lv' := [(1, .int r5.2), (0, .ref (ad 5 0))]) X.1 X.2.1 dX11_lands_8 rfl hl (by decide) rfl (fun ls hl => ?_)
  refine lv_aload_n X.1 X.2.1 dX11_lands_9 rfl (lv_at hl 1 rfl) ?_
  refine k_getw (v := .ref (ad 5 1)) X hU sh_5_0 fl_X11_7 rfl dX11_lands_10 ?_
  refine lv_iconst (v := 0) X.1 X.2.1 dX11_lands_13 (by decide) ?_
  refine k_ildw (j0 := 0) X hU sh_5_1 (k_vin (N := 268) (by decide) (by decide)) (by decide) dX11_lands_14 ?_
  refine lv_if_ne (tgt := 22) X.1 X.2.1 dX11_lands_15 (by decide) (fun c15 => ?_) (fun c15 => ?_)
  · replace hf := k_ifN hf c15
    refine lv_iconst (v := 0) X.1 X.2.1 dX11_lands_22 (by decide) ?_
    have hz := Option.some.inj hf
    subst hz
    exact k_iret (v := 0) X hU hS hr hlk rfl rfl dX11_lands_23
  · replace hf := k_ifP hf c15
    refine lv_iconst (v := 1) X.1 X.2.1 dX11_lands_18 (by decide) ?_
    refine lv_goto (tgt := 23) X.1 X.2.1 dX11_lands_19 (by decide) ?_
    have hz := Option.some.inj hf
    subst hz
    exact k_iret (v := 1) X hU hS hr hlk rfl rfl dX11_lands_23
def rm_X11_landIn : Room := { frames := 7, cells := 0, slots := 0, locals := 166 }
set_option maxRecDepth 100000 in
set_option maxHeartbeats 4000000 in
theorem c_X11_landIn {l : Launch} {D : va_G} {G : Nat → ClassId} {ad : Nat → Nat → Nat} {u : k_U} (hI : k_ok ad) {w : k_M} (hw : u 5 = w) {sz : Nat} {r : (k_M × Int32)} (hf : f_X11_landIn w = some r) : Met l yX11_landIn (.code yX11_landIn cX11_landIn 2 (some .int) :: lw_g) rm_X11_landIn (k_Pre D G ad u sz [.ref (ad 5 0)]) (k_Qi D G ad (k_uc u 5 r.1) r.2 sz) 0 0 (k_A ad sz) := by
  refine k_ofW (by decide +kernel) hI (Nat.le_of_ble_eq_true rfl) ?_
  intro p e s m args below meth c X hr hlk hU hS ls hl
  have hl : lv_has ls 2 [(0, .ref (ad 5 0))] := hl
  have hU : k_Uv D G ad (k_uc u 5 w) s.heap := by rw [← hw, k_uc_id]; exact hU
  have J28 : ∀ (H : Heap) (locs : List Loc) (ls : Array Slot) (w : k_M) (as0 : Int32), k_Uv D G ad (k_uc u 5 w) H → va_S (k_A ad sz) s.heap H locs → lv_has ls 2 [] → f_X11_landIn_28 w as0 = some r → W p l e rm_X11_landIn s m args below meth c H locs 0 0 (MQ below (k_Qi D G ad (k_uc u 5 r.1) r.2 sz) args s 0 0 (k_A ad sz)) (F0 m 28 ls [.int as0, .ref (ad 5 0)]) := by
    intro H locs ls w as0 hU hS hl hf
    unfold f_X11_landIn_28 at hf
    obtain ⟨r28, hr28, hf⟩ := k_bdE hf
    refine k_backi X hS (k_runV (As := [.int as0]) (rest := []) X hS hU sh_5_0 (by decide) rfl vl_X11_210 (c_X11_back X.2.2.2.2.2.2.1 (k_uc_s _ _ _) hr28) rfl rfl rfl hl.1 ⟨Nat.le_of_ble_eq_true rfl, Nat.le_of_ble_eq_true rfl⟩ (Nat.le_of_ble_eq_true rfl) dX11_landIn_28 ⟨Nat.zero_le _, Nat.zero_le _⟩) (fun H locs hU hS => ?_)
    rw [k_uc_uc] at hU
    have hz := Option.some.inj hf
    subst hz
    exact k_iret (v := r28.2) X hU hS hr hlk rfl rfl dX11_landIn_31
  unfold f_X11_landIn at hf
  refine lv_aload_n X.1 X.2.1 dX11_landIn_0 rfl (lv_at hl 0 rfl) ?_
  obtain ⟨r1, hr1, hf⟩ := k_bdE hf
  refine k_backv X hS (k_runV (As := []) (rest := []) X hS hU sh_5_0 (by decide) rfl vl_X11_207 (c_X11_looks X.2.2.2.2.2.2.1 (k_uc_s _ _ _) hr1) rfl rfl rfl hl.1 ⟨Nat.le_of_ble_eq_true rfl, Nat.le_of_ble_eq_true rfl⟩ (Nat.le_of_ble_eq_true rfl) dX11_landIn_1 ⟨Nat.zero_le _, Nat.zero_le _⟩) (fun H locs hU hS => ?_)
  rw [k_uc_uc] at hU
  refine lv_aload_n X.1 X.2.1 dX11_landIn_4 rfl (lv_at hl 0 rfl) ?_
  refine lv_sipush (v := 3000) X.1 X.2.1 dX11_landIn_5 (by decide) ?_
  refine lv_iconst (v := 0) X.1 X.2.1 dX11_landIn_8 (by decide) ?_
  obtain ⟨r9, hr9, hf⟩ := k_bdE hf
  refine k_backi X hS (k_runV (As := [.int 3000, .int 0]) (rest := []) X hS hU sh_5_0 (by decide) rfl vl_X11_204 (c_X11_seconds X.2.2.2.2.2.2.1 (k_uc_s _ _ _) hr9) rfl rfl rfl hl.1 ⟨Nat.le_of_ble_eq_true rfl, Nat.le_of_ble_eq_true rfl⟩ (Nat.le_of_ble_eq_true rfl) dX11_landIn_9 ⟨Nat.zero_le _, Nat.zero_le _⟩) (fun H locs hU hS => ?_)
  rw [k_uc_uc] at hU
  refine lv_istore_n (lv' := [(1, .int r9.2), (0, .ref (ad 5 0))]) X.1 X.2.1 dX11_landIn_12 rfl hl (by decide) rfl (fun ls hl => ?_)
  refine lv_aload_n X.1 X.2.1 dX11_landIn_13 rfl (lv_at hl 1 rfl) ?_
  refine lv_aload_n X.1 X.2.1 dX11_landIn_14 rfl (lv_at hl 1 rfl) ?_
  refine k_getw (v := .ref (ad 5 1)) X hU sh_5_0 fl_X11_7 rfl dX11_landIn_15 ?_
  refine lv_iconst (v := 0) X.1 X.2.1 dX11_landIn_18 (by decide) ?_
  refine k_ildw (j0 := 0) X hU sh_5_1 (k_vin (N := 268) (by decide) (by decide)) (by decide) dX11_landIn_19 ?_
  refine lv_if_ne (tgt := 27) X.1 X.2.1 dX11_landIn_20 (by decide) (fun c20 => ?_) (fun c20 => ?_)
  · replace hf := k_ifN hf c20
    refine lv_iconst (v := (-1)) X.1 X.2.1 dX11_landIn_27 (by decide) ?_
    exact J28 _ _ _ r9.1 (-1) hU hS (lv_sub hl [] rfl) hf
  · replace hf := k_ifP hf c20
    refine lv_iload_n X.1 X.2.1 dX11_landIn_23 rfl (lv_at hl 0 rfl) ?_
    refine lv_goto (tgt := 28) X.1 X.2.1 dX11_landIn_24 (by decide) ?_
    exact J28 _ _ _ r9.1 r9.2 hU hS (lv_sub hl [] rfl) hf
def rm_X11_landAt : Room := { frames := 8, cells := 0, slots := 0, locals := 187 }
set_option maxRecDepth 100000 in
set_option maxHeartbeats 4000000 in
theorem c_X11_landAt {l : Launch} {D : va_G} {G : Nat → ClassId} {ad : Nat → Nat → Nat} {u : k_U} (hI : k_ok ad) {w : k_M} (hw : u 5 = w) {sz : Nat} {r : (k_M × Int32)} (hf : f_X11_landAt w = some r) : Met l yX11_landAt (.code yX11_landAt cX11_landAt 3 (some .int) :: lw_g) rm_X11_landAt (k_Pre D G ad u sz [.ref (ad 5 0)]) (k_Qi D G ad (k_uc u 5 r.1) r.2 sz) 0 0 (k_A ad sz) := by
  refine k_ofW (by decide +kernel) hI (Nat.le_of_ble_eq_true rfl) ?_
  intro p e s m args below meth c X hr hlk hU hS ls hl
  have hl : lv_has ls 3 [(0, .ref (ad 5 0))] := hl
  have hU : k_Uv D G ad (k_uc u 5 w) s.heap := by rw [← hw, k_uc_id]; exact hU
  have J41 : ∀ (H : Heap) (locs : List Loc) (ls : Array Slot) (w : k_M) (as0 : Int32), k_Uv D G ad (k_uc u 5 w) H → va_S (k_A ad sz) s.heap H locs → lv_has ls 3 [] → f_X11_landAt_41 w as0 = some r → W p l e rm_X11_landAt s m args below meth c H locs 0 0 (MQ below (k_Qi D G ad (k_uc u 5 r.1) r.2 sz) args s 0 0 (k_A ad sz)) (F0 m 41 ls [.int as0, .ref (ad 5 0)]) := by
    intro H locs ls w as0 hU hS hl hf
    unfold f_X11_landAt_41 at hf
    obtain ⟨r41, hr41, hf⟩ := k_bdE hf
    refine k_backi X hS (k_runV (As := [.int as0]) (rest := []) X hS hU sh_5_0 (by decide) rfl vl_X11_210 (c_X11_back X.2.2.2.2.2.2.1 (k_uc_s _ _ _) hr41) rfl rfl rfl hl.1 ⟨Nat.le_of_ble_eq_true rfl, Nat.le_of_ble_eq_true rfl⟩ (Nat.le_of_ble_eq_true rfl) dX11_landAt_41 ⟨Nat.zero_le _, Nat.zero_le _⟩) (fun H locs hU hS => ?_)
    rw [k_uc_uc] at hU
    have hz := Option.some.inj hf
    subst hz
    exact k_iret (v := r41.2) X hU hS hr hlk rfl rfl dX11_landAt_44
  have J26 : ∀ (H : Heap) (locs : List Loc) (ls : Array Slot) (w : k_M) (a1 : Int32) (a2 : Int32) (as0 : Int32), k_Uv D G ad (k_uc u 5 w) H → va_S (k_A ad sz) s.heap H locs → lv_has ls 3 [(0, .ref (ad 5 0)), (1, .int a1), (2, .int a2)] → f_X11_landAt_26 w a1 a2 as0 = some r → W p l e rm_X11_landAt s m args below meth c H locs 0 0 (MQ below (k_Qi D G ad (k_uc u 5 r.1) r.2 sz) args s 0 0 (k_A ad sz)) (F0 m 26 ls [.int as0, .ref (ad 5 0)]) := by
    intro H locs ls w a1 a2 as0 hU hS hl hf
    unfold f_X11_landAt_26 at hf
    refine lv_iconst (v := 1) X.1 X.2.1 dX11_landAt_26 (by decide) ?_
    obtain ⟨r27, hr27, hf⟩ := k_bdE hf
    refine k_backi X hS (k_runV (As := [.int as0, .int 1]) (rest := []) X hS hU sh_5_0 (by decide) rfl vl_X11_61 (c_X11_throwsIf X.2.2.2.2.2.2.1 (k_uc_s _ _ _) hr27) rfl rfl rfl hl.1 ⟨Nat.le_of_ble_eq_true rfl, Nat.le_of_ble_eq_true rfl⟩ (Nat.le_of_ble_eq_true rfl) dX11_landAt_27 ⟨Nat.zero_le _, Nat.zero_le _⟩) (fun H locs hU hS => ?_)
    rw [k_uc_uc] at hU
    refine lv_pop X.1 X.2.1 dX11_landAt_30 rfl ?_
    refine lv_aload_n X.1 X.2.1 dX11_landAt_31 rfl (lv_at hl 0 rfl) ?_
    refine lv_iload_n X.1 X.2.1 dX11_landAt_32 rfl (lv_at hl 1 rfl) ?_
    refine lv_if_eq (tgt := 40) X.1 X.2.1 dX11_landAt_33 (by decide) (fun c33 => ?_) (fun c33 => ?_)
    · replace hf := k_ifP hf c33
      refine lv_iconst (v := 0) X.1 X.2.1 dX11_landAt_40 (by decide) ?_
      exact J41 _ _ _ r27.1 0 hU hS (lv_sub hl [] rfl) hf
    · replace hf := k_ifN hf c33
      refine lv_iload_n X.1 X.2.1 dX11_landAt_36 rfl (lv_at hl 2 rfl) ?_
      refine lv_goto (tgt := 41) X.1 X.2.1 dX11_landAt_37 (by decide) ?_
      exact J41 _ _ _ r27.1 a2 hU hS (lv_sub hl [] rfl) hf
  unfold f_X11_landAt at hf
  refine lv_aload_n X.1 X.2.1 dX11_landAt_0 rfl (lv_at hl 0 rfl) ?_
  obtain ⟨r1, hr1, hf⟩ := k_bdE hf
  refine k_backv X hS (k_runV (As := []) (rest := []) X hS hU sh_5_0 (by decide) rfl vl_X11_207 (c_X11_looks X.2.2.2.2.2.2.1 (k_uc_s _ _ _) hr1) rfl rfl rfl hl.1 ⟨Nat.le_of_ble_eq_true rfl, Nat.le_of_ble_eq_true rfl⟩ (Nat.le_of_ble_eq_true rfl) dX11_landAt_1 ⟨Nat.zero_le _, Nat.zero_le _⟩) (fun H locs hU hS => ?_)
  rw [k_uc_uc] at hU
  refine lv_aload_n X.1 X.2.1 dX11_landAt_4 rfl (lv_at hl 0 rfl) ?_
  obtain ⟨r5, hr5, hf⟩ := k_bdE hf
  refine k_backi X hS (k_runV (As := []) (rest := []) X hS hU sh_5_0 (by decide) rfl vl_X11_213 (c_X11_lands X.2.2.2.2.2.2.1 (k_uc_s _ _ _) hr5) rfl rfl rfl hl.1 ⟨Nat.le_of_ble_eq_true rfl, Nat.le_of_ble_eq_true rfl⟩ (Nat.le_of_ble_eq_true rfl) dX11_landAt_5 ⟨Nat.zero_le _, Nat.zero_le _⟩) (fun H locs hU hS => ?_)
  rw [k_uc_uc] at hU
  refine lv_istore_n (lv' := [(1, .int r5.2), (0, .ref (ad 5 0))]) X.1 X.2.1 dX11_landAt_8 rfl hl (by decide) rfl (fun ls hl => ?_)
  refine lv_aload_n X.1 X.2.1 dX11_landAt_9 rfl (lv_at hl 1 rfl) ?_
  refine k_getw (v := .ref (ad 5 1)) X hU sh_5_0 fl_X11_7 rfl dX11_landAt_10 ?_
  refine lv_iconst (v := 2) X.1 X.2.1 dX11_landAt_13 (by decide) ?_
  refine k_ildw (j0 := 2) X hU sh_5_1 (k_vin (N := 268) (by decide) (by decide)) (by decide) dX11_landAt_14 ?_
  obtain ⟨x15, e15, hf⟩ := k_ltE hf
  refine k_nmi e15 ?_
  refine lv_istore_n (lv' := [(2, .int x15), (1, .int r5.2), (0, .ref (ad 5 0))]) X.1 X.2.1 dX11_landAt_15 rfl hl (by decide) rfl (fun ls hl => ?_)
  refine lv_aload_n X.1 X.2.1 dX11_landAt_16 rfl (lv_at hl 2 rfl) ?_
  refine lv_iload_n X.1 X.2.1 dX11_landAt_17 rfl (lv_at hl 1 rfl) ?_
  refine lv_if_ne (tgt := 25) X.1 X.2.1 dX11_landAt_18 (by decide) (fun c18 => ?_) (fun c18 => ?_)
  · replace hf := k_ifN hf c18
    refine lv_iconst (v := 0) X.1 X.2.1 dX11_landAt_25 (by decide) ?_
    exact J26 _ _ _ r5.1 r5.2 x15 0 hU hS (lv_sub hl [2, 1, 0] rfl) hf
  · replace hf := k_ifP hf c18
    refine lv_iconst (v := 1) X.1 X.2.1 dX11_landAt_21 (by decide) ?_
    refine lv_goto (tgt := 26) X.1 X.2.1 dX11_landAt_22 (by decide) ?_
    exact J26 _ _ _ r5.1 r5.2 x15 1 hU hS (lv_sub hl [2, 1, 0] rfl) hf
def rm_X11_landSpeed : Room := { frames := 8, cells := 0, slots := 0, locals := 187 }
set_option maxRecDepth 100000 in
set_option maxHeartbeats 4000000 in
theorem c_X11_landSpeed {l : Launch} {D : va_G} {G : Nat → ClassId} {ad : Nat → Nat → Nat} {u : k_U} (hI : k_ok ad) {w : k_M} (hw : u 5 = w) {sz : Nat} {r : (k_M × Int32)} (hf : f_X11_landSpeed w = some r) : Met l yX11_landSpeed (.code yX11_landSpeed cX11_landSpeed 1 (some .int) :: lw_g) rm_X11_landSpeed (k_Pre D G ad u sz [.ref (ad 5 0)]) (k_Qi D G ad (k_uc u 5 r.1) r.2 sz) 0 0 (k_A ad sz) := by
  refine k_ofW (by decide +kernel) hI (Nat.le_of_ble_eq_true rfl) ?_
  intro p e s m args below meth c X hr hlk hU hS ls hl
  have hl : lv_has ls 1 [(0, .ref (ad 5 0))] := hl
  have hU : k_Uv D G ad (k_uc u 5 w) s.heap := by rw [← hw, k_uc_id]; exact hU
  have J22 : ∀ (H : Heap) (locs : List Loc) (ls : Array Slot) (w : k_M) (as0 : Int32), k_Uv D G ad (k_uc u 5 w) H → va_S (k_A ad sz) s.heap H locs → lv_has ls 1 [] → f_X11_landSpeed_22 w as0 = some r → W p l e rm_X11_landSpeed s m args below meth c H locs 0 0 (MQ below (k_Qi D G ad (k_uc u 5 r.1) r.2 sz) args s 0 0 (k_A ad sz)) (F0 m 22 ls [.int as0, .ref (ad 5 0)]) := by
    intro H locs ls w as0 hU hS hl hf
    unfold f_X11_landSpeed_22 at hf
    obtain ⟨r22, hr22, hf⟩ := k_bdE hf
    refine k_backi X hS (k_runV (As := [.int as0]) (rest := []) X hS hU sh_5_0 (by decide) rfl vl_X11_210 (c_X11_back X.2.2.2.2.2.2.1 (k_uc_s _ _ _) hr22) rfl rfl rfl hl.1 ⟨Nat.le_of_ble_eq_true rfl, Nat.le_of_ble_eq_true rfl⟩ (Nat.le_of_ble_eq_true rfl) dX11_landSpeed_22 ⟨Nat.zero_le _, Nat.zero_le _⟩) (fun H locs hU hS => ?_)
    rw [k_uc_uc] at hU
    have hz := Option.some.inj hf
    subst hz
    exact k_iret (v := r22.2) X hU hS hr hlk rfl rfl dX11_landSpeed_25
  unfold f_X11_landSpeed at hf
  refine lv_aload_n X.1 X.2.1 dX11_landSpeed_0 rfl (lv_at hl 0 rfl) ?_
  obtain ⟨r1, hr1, hf⟩ := k_bdE hf
  refine k_backv X hS (k_runV (As := []) (rest := []) X hS hU sh_5_0 (by decide) rfl vl_X11_207 (c_X11_looks X.2.2.2.2.2.2.1 (k_uc_s _ _ _) hr1) rfl rfl rfl hl.1 ⟨Nat.le_of_ble_eq_true rfl, Nat.le_of_ble_eq_true rfl⟩ (Nat.le_of_ble_eq_true rfl) dX11_landSpeed_1 ⟨Nat.zero_le _, Nat.zero_le _⟩) (fun H locs hU hS => ?_)
  rw [k_uc_uc] at hU
  refine lv_aload_n X.1 X.2.1 dX11_landSpeed_4 rfl (lv_at hl 0 rfl) ?_
  refine lv_aload_n X.1 X.2.1 dX11_landSpeed_5 rfl (lv_at hl 0 rfl) ?_
  obtain ⟨r6, hr6, hf⟩ := k_bdE hf
  refine k_backi X hS (k_runV (As := []) (rest := [.ref (ad 5 0)]) X hS hU sh_5_0 (by decide) rfl vl_X11_213 (c_X11_lands X.2.2.2.2.2.2.1 (k_uc_s _ _ _) hr6) rfl rfl rfl hl.1 ⟨Nat.le_of_ble_eq_true rfl, Nat.le_of_ble_eq_true rfl⟩ (Nat.le_of_ble_eq_true rfl) dX11_landSpeed_6 ⟨Nat.zero_le _, Nat.zero_le _⟩) (fun H locs hU hS => ?_)
  rw [k_uc_uc] at hU
  refine lv_if_eq (tgt := 21) X.1 X.2.1 dX11_landSpeed_9 (by decide) (fun c9 => ?_) (fun c9 => ?_)
  · replace hf := k_ifP hf c9
    refine lv_iconst (v := (-1)) X.1 X.2.1 dX11_landSpeed_21 (by decide) ?_
    exact J22 _ _ _ r6.1 (-1) hU hS (lv_sub hl [] rfl) hf
  · replace hf := k_ifN hf c9
    refine lv_aload_n X.1 X.2.1 dX11_landSpeed_12 rfl (lv_at hl 0 rfl) ?_
    refine k_getw (v := .ref (ad 5 1)) X hU sh_5_0 fl_X11_7 rfl dX11_landSpeed_13 ?_
    refine lv_iconst (v := 1) X.1 X.2.1 dX11_landSpeed_16 (by decide) ?_
    refine k_ildw (j0 := 1) X hU sh_5_1 (k_vin (N := 268) (by decide) (by decide)) (by decide) dX11_landSpeed_17 ?_
    refine lv_goto (tgt := 22) X.1 X.2.1 dX11_landSpeed_18 (by decide) ?_
    exact J22 _ _ _ r6.1 (r6.1 1 1) hU hS (lv_sub hl [] rfl) hf
def rm_X11_landResult : Room := { frames := 8, cells := 0, slots := 0, locals := 187 }
set_option maxRecDepth 100000 in
set_option maxHeartbeats 4000000 in
theorem c_X11_landResult {l : Launch} {D : va_G} {G : Nat → ClassId} {ad : Nat → Nat → Nat} {u : k_U} (hI : k_ok ad) {w : k_M} (hw : u 5 = w) {sz : Nat} {r : (k_M × Int32)} (hf : f_X11_landResult w = some r) : Met l yX11_landResult (.code yX11_landResult cX11_landResult 1 (some .int) :: lw_g) rm_X11_landResult (k_Pre D G ad u sz [.ref (ad 5 0)]) (k_Qi D G ad (k_uc u 5 r.1) r.2 sz) 0 0 (k_A ad sz) := by
  refine k_ofW (by decide +kernel) hI (Nat.le_of_ble_eq_true rfl) ?_
  intro p e s m args below meth c X hr hlk hU hS ls hl
  have hl : lv_has ls 1 [(0, .ref (ad 5 0))] := hl
  have hU : k_Uv D G ad (k_uc u 5 w) s.heap := by rw [← hw, k_uc_id]; exact hU
  have J20 : ∀ (H : Heap) (locs : List Loc) (ls : Array Slot) (w : k_M) (as0 : Int32), k_Uv D G ad (k_uc u 5 w) H → va_S (k_A ad sz) s.heap H locs → lv_has ls 1 [] → f_X11_landResult_20 w as0 = some r → W p l e rm_X11_landResult s m args below meth c H locs 0 0 (MQ below (k_Qi D G ad (k_uc u 5 r.1) r.2 sz) args s 0 0 (k_A ad sz)) (F0 m 20 ls [.int as0, .ref (ad 5 0)]) := by
    intro H locs ls w as0 hU hS hl hf
    unfold f_X11_landResult_20 at hf
    obtain ⟨r20, hr20, hf⟩ := k_bdE hf
    refine k_backi X hS (k_runV (As := [.int as0]) (rest := []) X hS hU sh_5_0 (by decide) rfl vl_X11_210 (c_X11_back X.2.2.2.2.2.2.1 (k_uc_s _ _ _) hr20) rfl rfl rfl hl.1 ⟨Nat.le_of_ble_eq_true rfl, Nat.le_of_ble_eq_true rfl⟩ (Nat.le_of_ble_eq_true rfl) dX11_landResult_20 ⟨Nat.zero_le _, Nat.zero_le _⟩) (fun H locs hU hS => ?_)
    rw [k_uc_uc] at hU
    have hz := Option.some.inj hf
    subst hz
    exact k_iret (v := r20.2) X hU hS hr hlk rfl rfl dX11_landResult_23
  unfold f_X11_landResult at hf
  refine lv_aload_n X.1 X.2.1 dX11_landResult_0 rfl (lv_at hl 0 rfl) ?_
  obtain ⟨r1, hr1, hf⟩ := k_bdE hf
  refine k_backv X hS (k_runV (As := []) (rest := []) X hS hU sh_5_0 (by decide) rfl vl_X11_207 (c_X11_looks X.2.2.2.2.2.2.1 (k_uc_s _ _ _) hr1) rfl rfl rfl hl.1 ⟨Nat.le_of_ble_eq_true rfl, Nat.le_of_ble_eq_true rfl⟩ (Nat.le_of_ble_eq_true rfl) dX11_landResult_1 ⟨Nat.zero_le _, Nat.zero_le _⟩) (fun H locs hU hS => ?_)
  rw [k_uc_uc] at hU
  refine lv_aload_n X.1 X.2.1 dX11_landResult_4 rfl (lv_at hl 0 rfl) ?_
  refine lv_aload_n X.1 X.2.1 dX11_landResult_5 rfl (lv_at hl 0 rfl) ?_
  obtain ⟨r6, hr6, hf⟩ := k_bdE hf
  refine k_backi X hS (k_runV (As := []) (rest := [.ref (ad 5 0)]) X hS hU sh_5_0 (by decide) rfl vl_X11_213 (c_X11_lands X.2.2.2.2.2.2.1 (k_uc_s _ _ _) hr6) rfl rfl rfl hl.1 ⟨Nat.le_of_ble_eq_true rfl, Nat.le_of_ble_eq_true rfl⟩ (Nat.le_of_ble_eq_true rfl) dX11_landResult_6 ⟨Nat.zero_le _, Nat.zero_le _⟩) (fun H locs hU hS => ?_)
  rw [k_uc_uc] at hU
  refine lv_if_eq (tgt := 19) X.1 X.2.1 dX11_landResult_9 (by decide) (fun c9 => ?_) (fun c9 => ?_)
  · replace hf := k_ifP hf c9
    refine lv_iconst (v := (-1)) X.1 X.2.1 dX11_landResult_19 (by decide) ?_
    exact J20 _ _ _ r6.1 (-1) hU hS (lv_sub hl [] rfl) hf
  · replace hf := k_ifN hf c9
    refine lv_aload_n X.1 X.2.1 dX11_landResult_12 rfl (lv_at hl 0 rfl) ?_
    obtain ⟨r13, hr13, hf⟩ := k_bdE hf
    refine k_backi X hS (k_runV (As := []) (rest := [.ref (ad 5 0)]) X hS hU sh_5_0 (by decide) rfl vl_X11_164 (c_X11_result X.2.2.2.2.2.2.1 (k_uc_s _ _ _) hr13) rfl rfl rfl hl.1 ⟨Nat.le_of_ble_eq_true rfl, Nat.le_of_ble_eq_true rfl⟩ (Nat.le_of_ble_eq_true rfl) dX11_landResult_13 ⟨Nat.zero_le _, Nat.zero_le _⟩) (fun H locs hU hS => ?_)
    refine lv_goto (tgt := 20) X.1 X.2.1 dX11_landResult_16 (by decide) ?_
    exact J20 _ _ _ r6.1 r13 hU hS (lv_sub hl [] rfl) hf
def rm_X11_failsIn : Room := { frames := 6, cells := 0, slots := 0, locals := 143 }
set_option maxRecDepth 100000 in
set_option maxHeartbeats 4000000 in
theorem c_X11_failsIn {l : Launch} {D : va_G} {G : Nat → ClassId} {ad : Nat → Nat → Nat} {u : k_U} (hI : k_ok ad) {w : k_M} (hw : u 5 = w) {a1 : Int32} {sz : Nat} {r : (k_M × Int32)} (hf : f_X11_failsIn w a1 = some r) : Met l yX11_failsIn (.code yX11_failsIn cX11_failsIn 4 (some .int) :: lw_g) rm_X11_failsIn (k_Pre D G ad u sz [.ref (ad 5 0), .int a1]) (k_Qi D G ad (k_uc u 5 r.1) r.2 sz) 0 0 (k_A ad sz) := by
  refine k_ofW (by decide +kernel) hI (Nat.le_of_ble_eq_true rfl) ?_
  intro p e s m args below meth c X hr hlk hU hS ls hl
  have hl : lv_has ls 4 [(0, .ref (ad 5 0)), (1, .int a1)] := hl
  have hU : k_Uv D G ad (k_uc u 5 w) s.heap := by rw [← hw, k_uc_id]; exact hU
  have J106 : ∀ (H : Heap) (locs : List Loc) (ls : Array Slot) (w : k_M) (as0 : Int32), k_Uv D G ad (k_uc u 5 w) H → va_S (k_A ad sz) s.heap H locs → lv_has ls 4 [] → f_X11_failsIn_106 w a1 as0 = some r → W p l e rm_X11_failsIn s m args below meth c H locs 0 0 (MQ below (k_Qi D G ad (k_uc u 5 r.1) r.2 sz) args s 0 0 (k_A ad sz)) (F0 m 106 ls [.int as0, .ref (ad 5 0)]) := by
    intro H locs ls w as0 hU hS hl hf
    unfold f_X11_failsIn_106 at hf
    obtain ⟨r106, hr106, hf⟩ := k_bdE hf
    refine k_backi X hS (k_runV (As := [.int as0]) (rest := []) X hS hU sh_5_0 (by decide) rfl vl_X11_210 (c_X11_back X.2.2.2.2.2.2.1 (k_uc_s _ _ _) hr106) rfl rfl rfl hl.1 ⟨Nat.le_of_ble_eq_true rfl, Nat.le_of_ble_eq_true rfl⟩ (Nat.le_of_ble_eq_true rfl) dX11_failsIn_106 ⟨Nat.zero_le _, Nat.zero_le _⟩) (fun H locs hU hS => ?_)
    rw [k_uc_uc] at hU
    have hz := Option.some.inj hf
    subst hz
    exact k_iret (v := r106.2) X hU hS hr hlk rfl rfl dX11_failsIn_109
  have J101 : ∀ (H : Heap) (locs : List Loc) (ls : Array Slot) (w : k_M) (a3 : Int32), k_Uv D G ad (k_uc u 5 w) H → va_S (k_A ad sz) s.heap H locs → lv_has ls 4 [(3, .int a3)] → f_X11_failsIn_101 w a1 a3 = some r → W p l e rm_X11_failsIn s m args below meth c H locs 0 0 (MQ below (k_Qi D G ad (k_uc u 5 r.1) r.2 sz) args s 0 0 (k_A ad sz)) (F0 m 101 ls [.ref (ad 5 0)]) := by
    intro H locs ls w a3 hU hS hl hf
    unfold f_X11_failsIn_101 at hf
    refine lv_iload_n X.1 X.2.1 dX11_failsIn_101 rfl (lv_at hl 0 rfl) ?_
    refine lv_goto (tgt := 106) X.1 X.2.1 dX11_failsIn_102 (by decide) ?_
    exact J106 _ _ _ w a3 hU hS (lv_sub hl [] rfl) hf
  have J74 : ∀ (H : Heap) (locs : List Loc) (ls : Array Slot) (w : k_M) (a2 : Int32) (a3 : Int32), k_Uv D G ad (k_uc u 5 w) H → va_S (k_A ad sz) s.heap H locs → lv_has ls 4 [(0, .ref (ad 5 0)), (2, .int a2), (3, .int a3)] → f_X11_failsIn_74 w a1 a2 a3 = some r → W p l e rm_X11_failsIn s m args below meth c H locs 0 0 (MQ below (k_Qi D G ad (k_uc u 5 r.1) r.2 sz) args s 0 0 (k_A ad sz)) (F0 m 74 ls []) := by
    intro H locs ls w a2 a3 hU hS hl hf
    unfold f_X11_failsIn_74 at hf
    refine lv_aload_n X.1 X.2.1 dX11_failsIn_74 rfl (lv_at hl 0 rfl) ?_
    refine lv_aload_n X.1 X.2.1 dX11_failsIn_75 rfl (lv_at hl 0 rfl) ?_
    refine k_getw (v := .ref (ad 5 1)) X hU sh_5_0 fl_X11_7 rfl dX11_failsIn_76 ?_
    refine lv_bipush (v := 65) X.1 X.2.1 dX11_failsIn_79 (by decide) ?_
    refine lv_iload_n X.1 X.2.1 dX11_failsIn_81 rfl (lv_at hl 1 rfl) ?_
    refine lv_iadd X.1 X.2.1 dX11_failsIn_82 ?_
    obtain ⟨hi83, hf⟩ := k_ckE hf
    refine k_ildw (j0 := (65 + a2).toNatClampNeg) X hU sh_5_1 (k_vin (n := 268) hi83 (by decide)) rfl dX11_failsIn_83 ?_
    refine lv_iconst (v := 2) X.1 X.2.1 dX11_failsIn_84 (by decide) ?_
    refine lv_icmp_eq (tgt := 101) X.1 X.2.1 dX11_failsIn_85 (by decide) (fun c85 => ?_) (fun c85 => ?_)
    · replace hf := k_ifP hf c85
      exact J101 _ _ _ w a3 hU hS (lv_sub hl [2] rfl) hf
    · replace hf := k_ifN hf c85
      refine lv_aload_n X.1 X.2.1 dX11_failsIn_88 rfl (lv_at hl 0 rfl) ?_
      refine k_getw (v := .ref (ad 5 1)) X hU sh_5_0 fl_X11_7 rfl dX11_failsIn_89 ?_
      refine lv_bipush (v := 65) X.1 X.2.1 dX11_failsIn_92 (by decide) ?_
      refine lv_iload_n X.1 X.2.1 dX11_failsIn_94 rfl (lv_at hl 1 rfl) ?_
      refine lv_iadd X.1 X.2.1 dX11_failsIn_95 ?_
      obtain ⟨hi96, hf⟩ := k_ckE hf
      refine k_ildw (j0 := (65 + a2).toNatClampNeg) X hU sh_5_1 (k_vin (n := 268) hi96 (by decide)) rfl dX11_failsIn_96 ?_
      refine lv_iconst (v := 3) X.1 X.2.1 dX11_failsIn_97 (by decide) ?_
      refine lv_icmp_ne (tgt := 105) X.1 X.2.1 dX11_failsIn_98 (by decide) (fun c98 => ?_) (fun c98 => ?_)
      · replace hf := k_ifN hf c98
        refine lv_iconst (v := (-1)) X.1 X.2.1 dX11_failsIn_105 (by decide) ?_
        exact J106 _ _ _ w (-1) hU hS (lv_sub hl [] rfl) hf
      · replace hf := k_ifP hf c98
        exact J101 _ _ _ w a3 hU hS (lv_sub hl [2] rfl) hf
  have L22 : ∀ (n22 : Nat) (H : Heap) (locs : List Loc) (ls : Array Slot) (w : k_M) (a2 : Int32) (a3 : Int32), k_Uv D G ad (k_uc u 5 w) H → va_S (k_A ad sz) s.heap H locs → lv_has ls 4 [(0, .ref (ad 5 0)), (2, .int a2), (3, .int a3)] → f_X11_failsIn_22 n22 w a1 a2 a3 = some r → W p l e rm_X11_failsIn s m args below meth c H locs 0 0 (MQ below (k_Qi D G ad (k_uc u 5 r.1) r.2 sz) args s 0 0 (k_A ad sz)) (F0 m 22 ls []) := by
    intro n22
    induction n22 with
    | zero =>
      intro H locs ls w a2 a3 hU hS hl hf
      cases (show none = some r from hf)
    | succ n22 ih22 =>
      intro H locs ls w a2 a3 hU hS hl hf
      replace hf : f_X11_failsIn_22_b (f_X11_failsIn_22 n22) w a1 a2 a3 = some r := hf
      unfold f_X11_failsIn_22_b at hf
      refine lv_iload_n X.1 X.2.1 dX11_failsIn_22 rfl (lv_at hl 2 rfl) ?_
      refine lv_sipush (v := 3000) X.1 X.2.1 dX11_failsIn_23 (by decide) ?_
      refine lv_icmp_ge (tgt := 74) X.1 X.2.1 dX11_failsIn_26 (by decide) (fun c26 => ?_) (fun c26 => ?_)
      · replace hf := k_ifP hf c26
        exact J74 _ _ _ w a2 a3 hU hS (lv_sub hl [0, 1, 2] rfl) hf
      · replace hf := k_ifN hf c26
        refine lv_aload_n X.1 X.2.1 dX11_failsIn_29 rfl (lv_at hl 0 rfl) ?_
        refine k_getw (v := .ref (ad 5 1)) X hU sh_5_0 fl_X11_7 rfl dX11_failsIn_30 ?_
        refine lv_iconst (v := 0) X.1 X.2.1 dX11_failsIn_33 (by decide) ?_
        refine k_ildw (j0 := 0) X hU sh_5_1 (k_vin (N := 268) (by decide) (by decide)) (by decide) dX11_failsIn_34 ?_
        refine lv_if_le (tgt := 74) X.1 X.2.1 dX11_failsIn_35 (by decide) (fun c35 => ?_) (fun c35 => ?_)
        · replace hf := k_ifP hf c35
          exact J74 _ _ _ w a2 a3 hU hS (lv_sub hl [0, 1, 2] rfl) hf
        · replace hf := k_ifN hf c35
          refine lv_aload_n X.1 X.2.1 dX11_failsIn_38 rfl (lv_at hl 0 rfl) ?_
          refine k_getw (v := .ref (ad 5 1)) X hU sh_5_0 fl_X11_7 rfl dX11_failsIn_39 ?_
          refine lv_bipush (v := 65) X.1 X.2.1 dX11_failsIn_42 (by decide) ?_
          refine lv_iload_n X.1 X.2.1 dX11_failsIn_44 rfl (lv_at hl 1 rfl) ?_
          refine lv_iadd X.1 X.2.1 dX11_failsIn_45 ?_
          obtain ⟨hi46, hf⟩ := k_ckE hf
          refine k_ildw (j0 := (65 + a2).toNatClampNeg) X hU sh_5_1 (k_vin (n := 268) hi46 (by decide)) rfl dX11_failsIn_46 ?_
          refine lv_iconst (v := 2) X.1 X.2.1 dX11_failsIn_47 (by decide) ?_
          refine lv_icmp_eq (tgt := 74) X.1 X.2.1 dX11_failsIn_48 (by decide) (fun c48 => ?_) (fun c48 => ?_)
          · replace hf := k_ifP hf c48
            exact J74 _ _ _ w a2 a3 hU hS (lv_sub hl [0, 1, 2] rfl) hf
          · replace hf := k_ifN hf c48
            refine lv_aload_n X.1 X.2.1 dX11_failsIn_51 rfl (lv_at hl 0 rfl) ?_
            refine k_getw (v := .ref (ad 5 1)) X hU sh_5_0 fl_X11_7 rfl dX11_failsIn_52 ?_
            refine lv_bipush (v := 65) X.1 X.2.1 dX11_failsIn_55 (by decide) ?_
            refine lv_iload_n X.1 X.2.1 dX11_failsIn_57 rfl (lv_at hl 1 rfl) ?_
            refine lv_iadd X.1 X.2.1 dX11_failsIn_58 ?_
            obtain ⟨hi59, hf⟩ := k_ckE hf
            refine k_ildw (j0 := (65 + a2).toNatClampNeg) X hU sh_5_1 (k_vin (n := 268) hi59 (by decide)) rfl dX11_failsIn_59 ?_
            refine lv_iconst (v := 3) X.1 X.2.1 dX11_failsIn_60 (by decide) ?_
            refine lv_icmp_eq (tgt := 74) X.1 X.2.1 dX11_failsIn_61 (by decide) (fun c61 => ?_) (fun c61 => ?_)
            · replace hf := k_ifP hf c61
              exact J74 _ _ _ w a2 a3 hU hS (lv_sub hl [0, 1, 2] rfl) hf
            · replace hf := k_ifN hf c61
              refine lv_aload_n X.1 X.2.1 dX11_failsIn_64 rfl (lv_at hl 0 rfl) ?_
              obtain ⟨r65, hr65, hf⟩ := k_bdE hf
              refine k_backv X hS (k_runV (As := []) (rest := []) X hS hU sh_5_0 (by decide) rfl vl_X11_167 (c_X11_second X.2.2.2.2.2.2.1 (k_uc_s _ _ _) hr65) rfl rfl rfl hl.1 ⟨Nat.le_of_ble_eq_true rfl, Nat.le_of_ble_eq_true rfl⟩ (Nat.le_of_ble_eq_true rfl) dX11_failsIn_65 ⟨Nat.zero_le _, Nat.zero_le _⟩) (fun H locs hU hS => ?_)
              rw [k_uc_uc] at hU
              obtain ⟨x68, e68, hf⟩ := k_ltE hf
              refine lv_iinc (v := x68) (lv' := [(3, .int x68), (0, .ref (ad 5 0)), (2, .int a2)]) X.1 X.2.1 dX11_failsIn_68 hl (k := 2) rfl (by rw [e68]; rfl) (by decide) rfl (fun ls hl => ?_)
              refine lv_goto (tgt := 22) X.1 X.2.1 dX11_failsIn_71 (by decide) ?_
              exact ih22 _ _ _ r65 a2 x68 hU hS (lv_sub hl [1, 2, 0] rfl) hf
  unfold f_X11_failsIn at hf
  refine lv_aload_n X.1 X.2.1 dX11_failsIn_0 rfl (lv_at hl 0 rfl) ?_
  obtain ⟨r1, hr1, hf⟩ := k_bdE hf
  refine k_backv X hS (k_runV (As := []) (rest := []) X hS hU sh_5_0 (by decide) rfl vl_X11_207 (c_X11_looks X.2.2.2.2.2.2.1 (k_uc_s _ _ _) hr1) rfl rfl rfl hl.1 ⟨Nat.le_of_ble_eq_true rfl, Nat.le_of_ble_eq_true rfl⟩ (Nat.le_of_ble_eq_true rfl) dX11_failsIn_1 ⟨Nat.zero_le _, Nat.zero_le _⟩) (fun H locs hU hS => ?_)
  rw [k_uc_uc] at hU
  refine lv_aload_n X.1 X.2.1 dX11_failsIn_4 rfl (lv_at hl 0 rfl) ?_
  refine lv_iload_n X.1 X.2.1 dX11_failsIn_5 rfl (lv_at hl 1 rfl) ?_
  obtain ⟨r6, hr6, hf⟩ := k_bdE hf
  refine k_backi X hS (k_runV (As := [.int a1]) (rest := []) X hS hU sh_5_0 (by decide) rfl vl_X11_185 (c_X11_noChute X.2.2.2.2.2.2.1 (k_uc_s _ _ _) hr6) rfl rfl rfl hl.1 ⟨Nat.le_of_ble_eq_true rfl, Nat.le_of_ble_eq_true rfl⟩ (Nat.le_of_ble_eq_true rfl) dX11_failsIn_6 ⟨Nat.zero_le _, Nat.zero_le _⟩) (fun H locs hU hS => ?_)
  rw [k_uc_uc] at hU
  refine lv_if_eq (tgt := 14) X.1 X.2.1 dX11_failsIn_9 (by decide) (fun c9 => ?_) (fun c9 => ?_)
  · replace hf := k_ifP hf c9
    refine lv_aload_n X.1 X.2.1 dX11_failsIn_14 rfl (lv_at hl 0 rfl) ?_
    refine lv_iload_n X.1 X.2.1 dX11_failsIn_15 rfl (lv_at hl 1 rfl) ?_
    obtain ⟨r16, hr16, hf⟩ := k_bdE hf
    refine k_backi X hS (k_runV (As := [.int a1]) (rest := []) X hS hU sh_5_0 (by decide) rfl vl_X11_188 (c_X11_placeOf X.2.2.2.2.2.2.1 (k_uc_s _ _ _) hr16) rfl rfl rfl hl.1 ⟨Nat.le_of_ble_eq_true rfl, Nat.le_of_ble_eq_true rfl⟩ (Nat.le_of_ble_eq_true rfl) dX11_failsIn_16 ⟨Nat.zero_le _, Nat.zero_le _⟩) (fun H locs hU hS => ?_)
    refine lv_istore_n (lv' := [(2, .int r16), (0, .ref (ad 5 0)), (1, .int a1)]) X.1 X.2.1 dX11_failsIn_19 rfl hl (by decide) rfl (fun ls hl => ?_)
    refine lv_iconst (v := 0) X.1 X.2.1 dX11_failsIn_20 (by decide) ?_
    refine lv_istore_n (lv' := [(3, .int 0), (2, .int r16), (0, .ref (ad 5 0)), (1, .int a1)]) X.1 X.2.1 dX11_failsIn_21 rfl hl (by decide) rfl (fun ls hl => ?_)
    exact L22 k_N _ _ _ r6.1 r16 0 hU hS (lv_sub hl [2, 1, 0] rfl) hf
  · replace hf := k_ifN hf c9
    refine lv_iconst (v := 0) X.1 X.2.1 dX11_failsIn_12 (by decide) ?_
    have hz := Option.some.inj hf
    subst hz
    exact k_iret (v := 0) X hU hS hr hlk rfl rfl dX11_failsIn_13
def rm_X11_reserveIn : Room := { frames := 6, cells := 0, slots := 0, locals := 143 }
set_option maxRecDepth 100000 in
set_option maxHeartbeats 4000000 in
theorem c_X11_reserveIn {l : Launch} {D : va_G} {G : Nat → ClassId} {ad : Nat → Nat → Nat} {u : k_U} (hI : k_ok ad) {w : k_M} (hw : u 5 = w) {sz : Nat} {r : (k_M × Int32)} (hf : f_X11_reserveIn w = some r) : Met l yX11_reserveIn (.code yX11_reserveIn cX11_reserveIn 2 (some .int) :: lw_g) rm_X11_reserveIn (k_Pre D G ad u sz [.ref (ad 5 0)]) (k_Qi D G ad (k_uc u 5 r.1) r.2 sz) 0 0 (k_A ad sz) := by
  refine k_ofW (by decide +kernel) hI (Nat.le_of_ble_eq_true rfl) ?_
  intro p e s m args below meth c X hr hlk hU hS ls hl
  have hl : lv_has ls 2 [(0, .ref (ad 5 0))] := hl
  have hU : k_Uv D G ad (k_uc u 5 w) s.heap := by rw [← hw, k_uc_id]; exact hU
  have J82 : ∀ (H : Heap) (locs : List Loc) (ls : Array Slot) (w : k_M) (as0 : Int32), k_Uv D G ad (k_uc u 5 w) H → va_S (k_A ad sz) s.heap H locs → lv_has ls 2 [] → f_X11_reserveIn_82 w as0 = some r → W p l e rm_X11_reserveIn s m args below meth c H locs 0 0 (MQ below (k_Qi D G ad (k_uc u 5 r.1) r.2 sz) args s 0 0 (k_A ad sz)) (F0 m 82 ls [.int as0, .ref (ad 5 0)]) := by
    intro H locs ls w as0 hU hS hl hf
    unfold f_X11_reserveIn_82 at hf
    obtain ⟨r82, hr82, hf⟩ := k_bdE hf
    refine k_backi X hS (k_runV (As := [.int as0]) (rest := []) X hS hU sh_5_0 (by decide) rfl vl_X11_210 (c_X11_back X.2.2.2.2.2.2.1 (k_uc_s _ _ _) hr82) rfl rfl rfl hl.1 ⟨Nat.le_of_ble_eq_true rfl, Nat.le_of_ble_eq_true rfl⟩ (Nat.le_of_ble_eq_true rfl) dX11_reserveIn_82 ⟨Nat.zero_le _, Nat.zero_le _⟩) (fun H locs hU hS => ?_)
    rw [k_uc_uc] at hU
    have hz := Option.some.inj hf
    subst hz
    exact k_iret (v := r82.2) X hU hS hr hlk rfl rfl dX11_reserveIn_85
  have J81 : ∀ (H : Heap) (locs : List Loc) (ls : Array Slot) (w : k_M), k_Uv D G ad (k_uc u 5 w) H → va_S (k_A ad sz) s.heap H locs → lv_has ls 2 [] → f_X11_reserveIn_81 w = some r → W p l e rm_X11_reserveIn s m args below meth c H locs 0 0 (MQ below (k_Qi D G ad (k_uc u 5 r.1) r.2 sz) args s 0 0 (k_A ad sz)) (F0 m 81 ls [.ref (ad 5 0)]) := by
    intro H locs ls w hU hS hl hf
    unfold f_X11_reserveIn_81 at hf
    refine lv_iconst (v := (-1)) X.1 X.2.1 dX11_reserveIn_81 (by decide) ?_
    exact J82 _ _ _ w (-1) hU hS (lv_sub hl [] rfl) hf
  have J54 : ∀ (H : Heap) (locs : List Loc) (ls : Array Slot) (w : k_M) (a1 : Int32), k_Uv D G ad (k_uc u 5 w) H → va_S (k_A ad sz) s.heap H locs → lv_has ls 2 [(0, .ref (ad 5 0)), (1, .int a1)] → f_X11_reserveIn_54 w a1 = some r → W p l e rm_X11_reserveIn s m args below meth c H locs 0 0 (MQ below (k_Qi D G ad (k_uc u 5 r.1) r.2 sz) args s 0 0 (k_A ad sz)) (F0 m 54 ls []) := by
    intro H locs ls w a1 hU hS hl hf
    unfold f_X11_reserveIn_54 at hf
    refine lv_aload_n X.1 X.2.1 dX11_reserveIn_54 rfl (lv_at hl 0 rfl) ?_
    refine lv_aload_n X.1 X.2.1 dX11_reserveIn_55 rfl (lv_at hl 0 rfl) ?_
    refine k_getw (v := .ref (ad 5 1)) X hU sh_5_0 fl_X11_7 rfl dX11_reserveIn_56 ?_
    refine lv_bipush (v := 9) X.1 X.2.1 dX11_reserveIn_59 (by decide) ?_
    refine k_ildw (j0 := 9) X hU sh_5_1 (k_vin (N := 268) (by decide) (by decide)) (by decide) dX11_reserveIn_61 ?_
    refine lv_iconst (v := 1) X.1 X.2.1 dX11_reserveIn_62 (by decide) ?_
    refine lv_icmp_ne (tgt := 81) X.1 X.2.1 dX11_reserveIn_63 (by decide) (fun c63 => ?_) (fun c63 => ?_)
    · replace hf := k_ifN hf c63
      exact J81 _ _ _ w hU hS (lv_sub hl [] rfl) hf
    · replace hf := k_ifP hf c63
      refine lv_aload_n X.1 X.2.1 dX11_reserveIn_66 rfl (lv_at hl 0 rfl) ?_
      refine k_getw (v := .ref (ad 5 1)) X hU sh_5_0 fl_X11_7 rfl dX11_reserveIn_67 ?_
      refine lv_bipush (v := 73) X.1 X.2.1 dX11_reserveIn_70 (by decide) ?_
      refine k_ildw (j0 := 73) X hU sh_5_1 (k_vin (N := 268) (by decide) (by decide)) (by decide) dX11_reserveIn_72 ?_
      refine lv_iconst (v := 1) X.1 X.2.1 dX11_reserveIn_73 (by decide) ?_
      refine lv_icmp_ne (tgt := 81) X.1 X.2.1 dX11_reserveIn_74 (by decide) (fun c74 => ?_) (fun c74 => ?_)
      · replace hf := k_ifN hf c74
        exact J81 _ _ _ w hU hS (lv_sub hl [] rfl) hf
      · replace hf := k_ifP hf c74
        refine lv_iload_n X.1 X.2.1 dX11_reserveIn_77 rfl (lv_at hl 1 rfl) ?_
        refine lv_goto (tgt := 82) X.1 X.2.1 dX11_reserveIn_78 (by decide) ?_
        exact J82 _ _ _ w a1 hU hS (lv_sub hl [] rfl) hf
  have L6 : ∀ (n6 : Nat) (H : Heap) (locs : List Loc) (ls : Array Slot) (w : k_M) (a1 : Int32), k_Uv D G ad (k_uc u 5 w) H → va_S (k_A ad sz) s.heap H locs → lv_has ls 2 [(0, .ref (ad 5 0)), (1, .int a1)] → f_X11_reserveIn_6 n6 w a1 = some r → W p l e rm_X11_reserveIn s m args below meth c H locs 0 0 (MQ below (k_Qi D G ad (k_uc u 5 r.1) r.2 sz) args s 0 0 (k_A ad sz)) (F0 m 6 ls []) := by
    intro n6
    induction n6 with
    | zero =>
      intro H locs ls w a1 hU hS hl hf
      cases (show none = some r from hf)
    | succ n6 ih6 =>
      intro H locs ls w a1 hU hS hl hf
      replace hf : f_X11_reserveIn_6_b (f_X11_reserveIn_6 n6) w a1 = some r := hf
      unfold f_X11_reserveIn_6_b at hf
      refine lv_iload_n X.1 X.2.1 dX11_reserveIn_6 rfl (lv_at hl 1 rfl) ?_
      refine lv_sipush (v := 3000) X.1 X.2.1 dX11_reserveIn_7 (by decide) ?_
      refine lv_icmp_ge (tgt := 54) X.1 X.2.1 dX11_reserveIn_10 (by decide) (fun c10 => ?_) (fun c10 => ?_)
      · replace hf := k_ifP hf c10
        exact J54 _ _ _ w a1 hU hS (lv_sub hl [0, 1] rfl) hf
      · replace hf := k_ifN hf c10
        refine lv_aload_n X.1 X.2.1 dX11_reserveIn_13 rfl (lv_at hl 0 rfl) ?_
        refine k_getw (v := .ref (ad 5 1)) X hU sh_5_0 fl_X11_7 rfl dX11_reserveIn_14 ?_
        refine lv_iconst (v := 0) X.1 X.2.1 dX11_reserveIn_17 (by decide) ?_
        refine k_ildw (j0 := 0) X hU sh_5_1 (k_vin (N := 268) (by decide) (by decide)) (by decide) dX11_reserveIn_18 ?_
        refine lv_if_le (tgt := 54) X.1 X.2.1 dX11_reserveIn_19 (by decide) (fun c19 => ?_) (fun c19 => ?_)
        · replace hf := k_ifP hf c19
          exact J54 _ _ _ w a1 hU hS (lv_sub hl [0, 1] rfl) hf
        · replace hf := k_ifN hf c19
          refine lv_aload_n X.1 X.2.1 dX11_reserveIn_22 rfl (lv_at hl 0 rfl) ?_
          refine k_getw (v := .ref (ad 5 1)) X hU sh_5_0 fl_X11_7 rfl dX11_reserveIn_23 ?_
          refine lv_bipush (v := 9) X.1 X.2.1 dX11_reserveIn_26 (by decide) ?_
          refine k_ildw (j0 := 9) X hU sh_5_1 (k_vin (N := 268) (by decide) (by decide)) (by decide) dX11_reserveIn_28 ?_
          refine lv_iconst (v := 1) X.1 X.2.1 dX11_reserveIn_29 (by decide) ?_
          refine lv_icmp_ne (tgt := 54) X.1 X.2.1 dX11_reserveIn_30 (by decide) (fun c30 => ?_) (fun c30 => ?_)
          · replace hf := k_ifN hf c30
            exact J54 _ _ _ w a1 hU hS (lv_sub hl [0, 1] rfl) hf
          · replace hf := k_ifP hf c30
            refine lv_aload_n X.1 X.2.1 dX11_reserveIn_33 rfl (lv_at hl 0 rfl) ?_
            refine k_getw (v := .ref (ad 5 1)) X hU sh_5_0 fl_X11_7 rfl dX11_reserveIn_34 ?_
            refine lv_bipush (v := 73) X.1 X.2.1 dX11_reserveIn_37 (by decide) ?_
            refine k_ildw (j0 := 73) X hU sh_5_1 (k_vin (N := 268) (by decide) (by decide)) (by decide) dX11_reserveIn_39 ?_
            refine lv_iconst (v := 1) X.1 X.2.1 dX11_reserveIn_40 (by decide) ?_
            refine lv_icmp_eq (tgt := 54) X.1 X.2.1 dX11_reserveIn_41 (by decide) (fun c41 => ?_) (fun c41 => ?_)
            · replace hf := k_ifP hf c41
              exact J54 _ _ _ w a1 hU hS (lv_sub hl [0, 1] rfl) hf
            · replace hf := k_ifN hf c41
              refine lv_aload_n X.1 X.2.1 dX11_reserveIn_44 rfl (lv_at hl 0 rfl) ?_
              obtain ⟨r45, hr45, hf⟩ := k_bdE hf
              refine k_backv X hS (k_runV (As := []) (rest := []) X hS hU sh_5_0 (by decide) rfl vl_X11_167 (c_X11_second X.2.2.2.2.2.2.1 (k_uc_s _ _ _) hr45) rfl rfl rfl hl.1 ⟨Nat.le_of_ble_eq_true rfl, Nat.le_of_ble_eq_true rfl⟩ (Nat.le_of_ble_eq_true rfl) dX11_reserveIn_45 ⟨Nat.zero_le _, Nat.zero_le _⟩) (fun H locs hU hS => ?_)
              rw [k_uc_uc] at hU
              obtain ⟨x48, e48, hf⟩ := k_ltE hf
              refine lv_iinc (v := x48) (lv' := [(1, .int x48), (0, .ref (ad 5 0))]) X.1 X.2.1 dX11_reserveIn_48 hl (k := 1) rfl (by rw [e48]; rfl) (by decide) rfl (fun ls hl => ?_)
              refine lv_goto (tgt := 6) X.1 X.2.1 dX11_reserveIn_51 (by decide) ?_
              exact ih6 _ _ _ r45 x48 hU hS (lv_sub hl [1, 0] rfl) hf
  unfold f_X11_reserveIn at hf
  refine lv_aload_n X.1 X.2.1 dX11_reserveIn_0 rfl (lv_at hl 0 rfl) ?_
  obtain ⟨r1, hr1, hf⟩ := k_bdE hf
  refine k_backv X hS (k_runV (As := []) (rest := []) X hS hU sh_5_0 (by decide) rfl vl_X11_207 (c_X11_looks X.2.2.2.2.2.2.1 (k_uc_s _ _ _) hr1) rfl rfl rfl hl.1 ⟨Nat.le_of_ble_eq_true rfl, Nat.le_of_ble_eq_true rfl⟩ (Nat.le_of_ble_eq_true rfl) dX11_reserveIn_1 ⟨Nat.zero_le _, Nat.zero_le _⟩) (fun H locs hU hS => ?_)
  rw [k_uc_uc] at hU
  refine lv_iconst (v := 0) X.1 X.2.1 dX11_reserveIn_4 (by decide) ?_
  refine lv_istore_n (lv' := [(1, .int 0), (0, .ref (ad 5 0))]) X.1 X.2.1 dX11_reserveIn_5 rfl hl (by decide) rfl (fun ls hl => ?_)
  exact L6 k_N _ _ _ r1 0 hU hS (lv_sub hl [1, 0] rfl) hf
def rm_X11_hottest : Room := { frames := 6, cells := 0, slots := 0, locals := 143 }
set_option maxRecDepth 100000 in
set_option maxHeartbeats 4000000 in
theorem c_X11_hottest {l : Launch} {D : va_G} {G : Nat → ClassId} {ad : Nat → Nat → Nat} {u : k_U} (hI : k_ok ad) {w : k_M} (hw : u 5 = w) {sz : Nat} {r : (k_M × Int32)} (hf : f_X11_hottest w = some r) : Met l yX11_hottest (.code yX11_hottest cX11_hottest 3 (some .int) :: lw_g) rm_X11_hottest (k_Pre D G ad u sz [.ref (ad 5 0)]) (k_Qi D G ad (k_uc u 5 r.1) r.2 sz) 0 0 (k_A ad sz) := by
  refine k_ofW (by decide +kernel) hI (Nat.le_of_ble_eq_true rfl) ?_
  intro p e s m args below meth c X hr hlk hU hS ls hl
  have hl : lv_has ls 3 [(0, .ref (ad 5 0))] := hl
  have hU : k_Uv D G ad (k_uc u 5 w) s.heap := by rw [← hw, k_uc_id]; exact hU
  have J50 : ∀ (H : Heap) (locs : List Loc) (ls : Array Slot) (w : k_M) (a1 : Int32), k_Uv D G ad (k_uc u 5 w) H → va_S (k_A ad sz) s.heap H locs → lv_has ls 3 [(0, .ref (ad 5 0)), (1, .int a1)] → f_X11_hottest_50 w a1 = some r → W p l e rm_X11_hottest s m args below meth c H locs 0 0 (MQ below (k_Qi D G ad (k_uc u 5 r.1) r.2 sz) args s 0 0 (k_A ad sz)) (F0 m 50 ls []) := by
    intro H locs ls w a1 hU hS hl hf
    unfold f_X11_hottest_50 at hf
    refine lv_aload_n X.1 X.2.1 dX11_hottest_50 rfl (lv_at hl 0 rfl) ?_
    refine lv_iload_n X.1 X.2.1 dX11_hottest_51 rfl (lv_at hl 1 rfl) ?_
    obtain ⟨r52, hr52, hf⟩ := k_bdE hf
    refine k_backi X hS (k_runV (As := [.int a1]) (rest := []) X hS hU sh_5_0 (by decide) rfl vl_X11_210 (c_X11_back X.2.2.2.2.2.2.1 (k_uc_s _ _ _) hr52) rfl rfl rfl hl.1 ⟨Nat.le_of_ble_eq_true rfl, Nat.le_of_ble_eq_true rfl⟩ (Nat.le_of_ble_eq_true rfl) dX11_hottest_52 ⟨Nat.zero_le _, Nat.zero_le _⟩) (fun H locs hU hS => ?_)
    rw [k_uc_uc] at hU
    have hz := Option.some.inj hf
    subst hz
    exact k_iret (v := r52.2) X hU hS hr hlk rfl rfl dX11_hottest_55
  have L13 : ∀ (n13 : Nat) (H : Heap) (locs : List Loc) (ls : Array Slot) (w : k_M) (a1 : Int32) (a2 : Int32), k_Uv D G ad (k_uc u 5 w) H → va_S (k_A ad sz) s.heap H locs → lv_has ls 3 [(0, .ref (ad 5 0)), (1, .int a1), (2, .int a2)] → f_X11_hottest_13 n13 w a1 a2 = some r → W p l e rm_X11_hottest s m args below meth c H locs 0 0 (MQ below (k_Qi D G ad (k_uc u 5 r.1) r.2 sz) args s 0 0 (k_A ad sz)) (F0 m 13 ls []) := by
    intro n13
    induction n13 with
    | zero =>
      intro H locs ls w a1 a2 hU hS hl hf
      cases (show none = some r from hf)
    | succ n13 ih13 =>
      intro H locs ls w a1 a2 hU hS hl hf
      replace hf : f_X11_hottest_13_b (f_X11_hottest_13 n13) w a1 a2 = some r := hf
      unfold f_X11_hottest_13_b at hf
      refine lv_iload_n X.1 X.2.1 dX11_hottest_13 rfl (lv_at hl 2 rfl) ?_
      refine lv_sipush (v := 3000) X.1 X.2.1 dX11_hottest_14 (by decide) ?_
      refine lv_icmp_ge (tgt := 50) X.1 X.2.1 dX11_hottest_17 (by decide) (fun c17 => ?_) (fun c17 => ?_)
      · replace hf := k_ifP hf c17
        exact J50 _ _ _ w a1 hU hS (lv_sub hl [0, 1] rfl) hf
      · replace hf := k_ifN hf c17
        refine lv_aload_n X.1 X.2.1 dX11_hottest_20 rfl (lv_at hl 0 rfl) ?_
        refine k_getw (v := .ref (ad 5 1)) X hU sh_5_0 fl_X11_7 rfl dX11_hottest_21 ?_
        refine lv_iconst (v := 0) X.1 X.2.1 dX11_hottest_24 (by decide) ?_
        refine k_ildw (j0 := 0) X hU sh_5_1 (k_vin (N := 268) (by decide) (by decide)) (by decide) dX11_hottest_25 ?_
        refine lv_if_le (tgt := 50) X.1 X.2.1 dX11_hottest_26 (by decide) (fun c26 => ?_) (fun c26 => ?_)
        · replace hf := k_ifP hf c26
          exact J50 _ _ _ w a1 hU hS (lv_sub hl [0, 1] rfl) hf
        · replace hf := k_ifN hf c26
          refine lv_aload_n X.1 X.2.1 dX11_hottest_29 rfl (lv_at hl 0 rfl) ?_
          obtain ⟨r30, hr30, hf⟩ := k_bdE hf
          refine k_backv X hS (k_runV (As := []) (rest := []) X hS hU sh_5_0 (by decide) rfl vl_X11_167 (c_X11_second X.2.2.2.2.2.2.1 (k_uc_s _ _ _) hr30) rfl rfl rfl hl.1 ⟨Nat.le_of_ble_eq_true rfl, Nat.le_of_ble_eq_true rfl⟩ (Nat.le_of_ble_eq_true rfl) dX11_hottest_30 ⟨Nat.zero_le _, Nat.zero_le _⟩) (fun H locs hU hS => ?_)
          rw [k_uc_uc] at hU
          refine lv_iload_n X.1 X.2.1 dX11_hottest_33 rfl (lv_at hl 1 rfl) ?_
          refine lv_aload_n X.1 X.2.1 dX11_hottest_34 rfl (lv_at hl 0 rfl) ?_
          refine k_getw (v := .ref (ad 5 1)) X hU sh_5_0 fl_X11_7 rfl dX11_hottest_35 ?_
          refine lv_iconst (v := 4) X.1 X.2.1 dX11_hottest_38 (by decide) ?_
          refine k_ildw (j0 := 4) X hU sh_5_1 (k_vin (N := 268) (by decide) (by decide)) (by decide) dX11_hottest_39 ?_
          refine k_maxi_r X (mX11_155) hl.1 (Nat.le_of_ble_eq_true rfl) (Nat.le_of_ble_eq_true rfl) ⟨Nat.zero_le _, Nat.zero_le _⟩ dX11_hottest_40 ?_
          obtain ⟨x43, e43, hf⟩ := k_ltE hf
          refine k_nmi e43 ?_
          refine lv_istore_n (lv' := [(1, .int x43), (0, .ref (ad 5 0)), (2, .int a2)]) X.1 X.2.1 dX11_hottest_43 rfl hl (by decide) rfl (fun ls hl => ?_)
          obtain ⟨x44, e44, hf⟩ := k_ltE hf
          refine lv_iinc (v := x44) (lv' := [(2, .int x44), (1, .int x43), (0, .ref (ad 5 0))]) X.1 X.2.1 dX11_hottest_44 hl (k := 2) rfl (by rw [e44]; rfl) (by decide) rfl (fun ls hl => ?_)
          refine lv_goto (tgt := 13) X.1 X.2.1 dX11_hottest_47 (by decide) ?_
          exact ih13 _ _ _ r30 x43 x44 hU hS (lv_sub hl [2, 1, 0] rfl) hf
  unfold f_X11_hottest at hf
  refine lv_aload_n X.1 X.2.1 dX11_hottest_0 rfl (lv_at hl 0 rfl) ?_
  obtain ⟨r1, hr1, hf⟩ := k_bdE hf
  refine k_backv X hS (k_runV (As := []) (rest := []) X hS hU sh_5_0 (by decide) rfl vl_X11_207 (c_X11_looks X.2.2.2.2.2.2.1 (k_uc_s _ _ _) hr1) rfl rfl rfl hl.1 ⟨Nat.le_of_ble_eq_true rfl, Nat.le_of_ble_eq_true rfl⟩ (Nat.le_of_ble_eq_true rfl) dX11_hottest_1 ⟨Nat.zero_le _, Nat.zero_le _⟩) (fun H locs hU hS => ?_)
  rw [k_uc_uc] at hU
  refine lv_aload_n X.1 X.2.1 dX11_hottest_4 rfl (lv_at hl 0 rfl) ?_
  refine k_getw (v := .ref (ad 5 1)) X hU sh_5_0 fl_X11_7 rfl dX11_hottest_5 ?_
  refine lv_iconst (v := 4) X.1 X.2.1 dX11_hottest_8 (by decide) ?_
  refine k_ildw (j0 := 4) X hU sh_5_1 (k_vin (N := 268) (by decide) (by decide)) (by decide) dX11_hottest_9 ?_
  obtain ⟨x10, e10, hf⟩ := k_ltE hf
  refine k_nmi e10 ?_
  refine lv_istore_n (lv' := [(1, .int x10), (0, .ref (ad 5 0))]) X.1 X.2.1 dX11_hottest_10 rfl hl (by decide) rfl (fun ls hl => ?_)
  refine lv_iconst (v := 0) X.1 X.2.1 dX11_hottest_11 (by decide) ?_
  refine lv_istore_n (lv' := [(2, .int 0), (1, .int x10), (0, .ref (ad 5 0))]) X.1 X.2.1 dX11_hottest_12 rfl hl (by decide) rfl (fun ls hl => ?_)
  exact L13 k_N _ _ _ r1 x10 0 hU hS (lv_sub hl [2, 1, 0] rfl) hf
def rm_X11_far : Room := { frames := 0, cells := 0, slots := 0, locals := 0 }
set_option maxRecDepth 100000 in
set_option maxHeartbeats 4000000 in
theorem c_X11_far {l : Launch} {D : va_G} {G : Nat → ClassId} {ad : Nat → Nat → Nat} {u : k_U} (hI : k_ok ad) {w : k_M} (hw : u 5 = w) {a1 : Int32} {sz : Nat} {r : Int32} (hf : f_X11_far w a1 = some r) : Met l yX11_far (.code yX11_far cX11_far 4 (some .int) :: lw_g) rm_X11_far (k_Pre D G ad u sz [.ref (ad 5 0), .int a1]) (k_Qi D G ad u r sz) 0 0 (k_A ad sz) := by
  refine k_ofW (by decide +kernel) hI (Nat.le_of_ble_eq_true rfl) ?_
  intro p e s m args below meth c X hr hlk hU hS ls hl
  have hl : lv_has ls 4 [(0, .ref (ad 5 0)), (1, .int a1)] := hl
  have hU : k_Uv D G ad (k_uc u 5 w) s.heap := by rw [← hw, k_uc_id]; exact hU
  unfold f_X11_far at hf
  refine lv_aload_n X.1 X.2.1 dX11_far_0 rfl (lv_at hl 0 rfl) ?_
  refine k_getw (v := .ref (ad 5 1)) X hU sh_5_0 fl_X11_7 rfl dX11_far_1 ?_
  refine lv_bipush (v := 124) X.1 X.2.1 dX11_far_4 (by decide) ?_
  refine lv_iconst (v := 3) X.1 X.2.1 dX11_far_6 (by decide) ?_
  refine lv_iload_n X.1 X.2.1 dX11_far_7 rfl (lv_at hl 1 rfl) ?_
  refine lv_imul X.1 X.2.1 dX11_far_8 ?_
  refine lv_iadd X.1 X.2.1 dX11_far_9 ?_
  obtain ⟨hi10, hf⟩ := k_ckE hf
  refine k_ildw (j0 := (124 + (3 * a1)).toNatClampNeg) X hU sh_5_1 (k_vin (n := 268) hi10 (by decide)) rfl dX11_far_10 ?_
  obtain ⟨x11, e11, hf⟩ := k_ltE hf
  refine k_nmi e11 ?_
  refine lv_istore_n (lv' := [(2, .int x11), (0, .ref (ad 5 0)), (1, .int a1)]) X.1 X.2.1 dX11_far_11 rfl hl (by decide) rfl (fun ls hl => ?_)
  refine lv_aload_n X.1 X.2.1 dX11_far_12 rfl (lv_at hl 1 rfl) ?_
  refine k_getw (v := .ref (ad 5 1)) X hU sh_5_0 fl_X11_7 rfl dX11_far_13 ?_
  refine lv_bipush (v := 124) X.1 X.2.1 dX11_far_16 (by decide) ?_
  refine lv_iconst (v := 3) X.1 X.2.1 dX11_far_18 (by decide) ?_
  refine lv_iload_n X.1 X.2.1 dX11_far_19 rfl (lv_at hl 2 rfl) ?_
  refine lv_imul X.1 X.2.1 dX11_far_20 ?_
  refine lv_iadd X.1 X.2.1 dX11_far_21 ?_
  refine lv_iconst (v := 1) X.1 X.2.1 dX11_far_22 (by decide) ?_
  refine lv_iadd X.1 X.2.1 dX11_far_23 ?_
  obtain ⟨hi24, hf⟩ := k_ckE hf
  refine k_ildw (j0 := ((124 + (3 * a1)) + 1).toNatClampNeg) X hU sh_5_1 (k_vin (n := 268) hi24 (by decide)) rfl dX11_far_24 ?_
  obtain ⟨x25, e25, hf⟩ := k_ltE hf
  refine k_nmi e25 ?_
  refine lv_istore_n (lv' := [(3, .int x25), (2, .int x11), (0, .ref (ad 5 0)), (1, .int a1)]) X.1 X.2.1 dX11_far_25 rfl hl (by decide) rfl (fun ls hl => ?_)
  refine lv_aload_n X.1 X.2.1 dX11_far_26 rfl (lv_at hl 2 rfl) ?_
  refine k_getw (v := .ref (ad 5 1)) X hU sh_5_0 fl_X11_7 rfl dX11_far_27 ?_
  refine lv_iconst (v := 2) X.1 X.2.1 dX11_far_30 (by decide) ?_
  refine k_ildw (j0 := 2) X hU sh_5_1 (k_vin (N := 268) (by decide) (by decide)) (by decide) dX11_far_31 ?_
  refine lv_iload_n X.1 X.2.1 dX11_far_32 rfl (lv_at hl 1 rfl) ?_
  refine lv_icmp_ge (tgt := 47) X.1 X.2.1 dX11_far_33 (by decide) (fun c33 => ?_) (fun c33 => ?_)
  · replace hf := k_ifP hf c33
    refine lv_aload_n X.1 X.2.1 dX11_far_47 rfl (lv_at hl 2 rfl) ?_
    refine k_getw (v := .ref (ad 5 1)) X hU sh_5_0 fl_X11_7 rfl dX11_far_48 ?_
    refine lv_iconst (v := 2) X.1 X.2.1 dX11_far_51 (by decide) ?_
    refine k_ildw (j0 := 2) X hU sh_5_1 (k_vin (N := 268) (by decide) (by decide)) (by decide) dX11_far_52 ?_
    refine lv_iload_n X.1 X.2.1 dX11_far_53 rfl (lv_at hl 0 rfl) ?_
    refine lv_icmp_le (tgt := 68) X.1 X.2.1 dX11_far_54 (by decide) (fun c54 => ?_) (fun c54 => ?_)
    · replace hf := k_ifP hf c54
      refine lv_iconst (v := 0) X.1 X.2.1 dX11_far_68 (by decide) ?_
      rw [← hw, k_uc_id] at hU
      have hz := Option.some.inj hf
      subst hz
      exact k_iret (v := 0) X hU hS hr hlk rfl rfl dX11_far_69
    · replace hf := k_ifN hf c54
      refine lv_aload_n X.1 X.2.1 dX11_far_57 rfl (lv_at hl 2 rfl) ?_
      refine k_getw (v := .ref (ad 5 1)) X hU sh_5_0 fl_X11_7 rfl dX11_far_58 ?_
      refine lv_iconst (v := 2) X.1 X.2.1 dX11_far_61 (by decide) ?_
      refine k_ildw (j0 := 2) X hU sh_5_1 (k_vin (N := 268) (by decide) (by decide)) (by decide) dX11_far_62 ?_
      refine lv_iload_n X.1 X.2.1 dX11_far_63 rfl (lv_at hl 0 rfl) ?_
      refine lv_isub X.1 X.2.1 dX11_far_64 ?_
      refine lv_goto (tgt := 69) X.1 X.2.1 dX11_far_65 (by decide) ?_
      rw [← hw, k_uc_id] at hU
      have hz := Option.some.inj hf
      subst hz
      exact k_iret (v := ((w 1 2) - x25)) X hU hS hr hlk rfl rfl dX11_far_69
  · replace hf := k_ifN hf c33
    refine lv_iload_n X.1 X.2.1 dX11_far_36 rfl (lv_at hl 1 rfl) ?_
    refine lv_aload_n X.1 X.2.1 dX11_far_37 rfl (lv_at hl 2 rfl) ?_
    refine k_getw (v := .ref (ad 5 1)) X hU sh_5_0 fl_X11_7 rfl dX11_far_38 ?_
    refine lv_iconst (v := 2) X.1 X.2.1 dX11_far_41 (by decide) ?_
    refine k_ildw (j0 := 2) X hU sh_5_1 (k_vin (N := 268) (by decide) (by decide)) (by decide) dX11_far_42 ?_
    refine lv_isub X.1 X.2.1 dX11_far_43 ?_
    refine lv_goto (tgt := 69) X.1 X.2.1 dX11_far_44 (by decide) ?_
    rw [← hw, k_uc_id] at hU
    have hz := Option.some.inj hf
    subst hz
    exact k_iret (v := (x11 - (w 1 2))) X hU hS hr hlk rfl rfl dX11_far_69
def rm_X11_bestSlip : Room := { frames := 8, cells := 0, slots := 0, locals := 187 }
set_option maxRecDepth 100000 in
set_option maxHeartbeats 4000000 in
theorem c_X11_bestSlip {l : Launch} {D : va_G} {G : Nat → ClassId} {ad : Nat → Nat → Nat} {u : k_U} (hI : k_ok ad) {w : k_M} (hw : u 5 = w) {a1 : Int32} {sz : Nat} {r : (k_M × Int32)} (hf : f_X11_bestSlip w a1 = some r) : Met l yX11_bestSlip (.code yX11_bestSlip cX11_bestSlip 6 (some .int) :: lw_g) rm_X11_bestSlip (k_Pre D G ad u sz [.ref (ad 5 0), .int a1]) (k_Qi D G ad (k_uc u 5 r.1) r.2 sz) 0 0 (k_A ad sz) := by
  refine k_ofW (by decide +kernel) hI (Nat.le_of_ble_eq_true rfl) ?_
  intro p e s m args below meth c X hr hlk hU hS ls hl
  have hl : lv_has ls 6 [(0, .ref (ad 5 0)), (1, .int a1)] := hl
  have hU : k_Uv D G ad (k_uc u 5 w) s.heap := by rw [← hw, k_uc_id]; exact hU
  have L21 : ∀ (n21 : Nat) (H : Heap) (locs : List Loc) (ls : Array Slot) (w : k_M) (a1 : Int32) (a2 : Int32) (a3 : Int32) (a4 : Int32), k_Uv D G ad (k_uc u 5 w) H → va_S (k_A ad sz) s.heap H locs → lv_has ls 6 [(0, .ref (ad 5 0)), (1, .int a1), (2, .int a2), (3, .int a3), (4, .int a4)] → f_X11_bestSlip_21 n21 w a1 a2 a3 a4 = some r → W p l e rm_X11_bestSlip s m args below meth c H locs 0 0 (MQ below (k_Qi D G ad (k_uc u 5 r.1) r.2 sz) args s 0 0 (k_A ad sz)) (F0 m 21 ls []) := by
    intro n21
    induction n21 with
    | zero =>
      intro H locs ls w a1 a2 a3 a4 hU hS hl hf
      cases (show none = some r from hf)
    | succ n21 ih21 =>
      have J106 : ∀ (H : Heap) (locs : List Loc) (ls : Array Slot) (w : k_M) (a1 : Int32) (a2 : Int32) (a3 : Int32) (a4 : Int32), k_Uv D G ad (k_uc u 5 w) H → va_S (k_A ad sz) s.heap H locs → lv_has ls 6 [(0, .ref (ad 5 0)), (1, .int a1), (2, .int a2), (3, .int a3), (4, .int a4)] → f_X11_bestSlip_106 (f_X11_bestSlip_21 n21) w a1 a2 a3 a4 = some r → W p l e rm_X11_bestSlip s m args below meth c H locs 0 0 (MQ below (k_Qi D G ad (k_uc u 5 r.1) r.2 sz) args s 0 0 (k_A ad sz)) (F0 m 106 ls []) := by
        intro H locs ls w a1 a2 a3 a4 hU hS hl hf
        unfold f_X11_bestSlip_106 at hf
        obtain ⟨x106, e106, hf⟩ := k_ltE hf
        refine lv_iinc (v := x106) (lv' := [(4, .int x106), (0, .ref (ad 5 0)), (1, .int a1), (2, .int a2), (3, .int a3)]) X.1 X.2.1 dX11_bestSlip_106 hl (k := 4) rfl (by rw [e106]; rfl) (by decide) rfl (fun ls hl => ?_)
        refine lv_goto (tgt := 21) X.1 X.2.1 dX11_bestSlip_109 (by decide) ?_
        exact ih21 _ _ _ w a1 a2 a3 x106 hU hS (lv_sub hl [1, 2, 3, 4, 0] rfl) hf
      have J94 : ∀ (H : Heap) (locs : List Loc) (ls : Array Slot) (w : k_M) (a1 : Int32) (a4 : Int32) (a5 : Int32), k_Uv D G ad (k_uc u 5 w) H → va_S (k_A ad sz) s.heap H locs → lv_has ls 6 [(0, .ref (ad 5 0)), (1, .int a1), (4, .int a4), (5, .int a5)] → f_X11_bestSlip_94 (f_X11_bestSlip_21 n21) w a1 a4 a5 = some r → W p l e rm_X11_bestSlip s m args below meth c H locs 0 0 (MQ below (k_Qi D G ad (k_uc u 5 r.1) r.2 sz) args s 0 0 (k_A ad sz)) (F0 m 94 ls []) := by
        intro H locs ls w a1 a4 a5 hU hS hl hf
        unfold f_X11_bestSlip_94 at hf
        refine lv_iload X.1 X.2.1 dX11_bestSlip_94 (lv_at hl 3 rfl) ?_
        refine lv_bipush (v := 9) X.1 X.2.1 dX11_bestSlip_96 (by decide) ?_
        refine lv_iadd X.1 X.2.1 dX11_bestSlip_98 ?_
        obtain ⟨x99, e99, hf⟩ := k_ltE hf
        refine k_nmi e99 ?_
        refine lv_istore_n (lv' := [(2, .int x99), (0, .ref (ad 5 0)), (1, .int a1), (4, .int a4), (5, .int a5)]) X.1 X.2.1 dX11_bestSlip_99 rfl hl (by decide) rfl (fun ls hl => ?_)
        refine lv_aload_n X.1 X.2.1 dX11_bestSlip_100 rfl (lv_at hl 1 rfl) ?_
        refine lv_iload_n X.1 X.2.1 dX11_bestSlip_101 rfl (lv_at hl 2 rfl) ?_
        obtain ⟨r102, hr102, hf⟩ := k_bdE hf
        refine k_backi X hS (k_runV (As := [.int a1]) (rest := []) X hS hU sh_5_0 (by decide) rfl vl_X11_216 (c_X11_far X.2.2.2.2.2.2.1 (k_uc_s _ _ _) hr102) rfl rfl rfl hl.1 ⟨Nat.le_of_ble_eq_true rfl, Nat.le_of_ble_eq_true rfl⟩ (Nat.le_of_ble_eq_true rfl) dX11_bestSlip_102 ⟨Nat.zero_le _, Nat.zero_le _⟩) (fun H locs hU hS => ?_)
        refine lv_istore_n (lv' := [(3, .int r102), (2, .int x99), (0, .ref (ad 5 0)), (1, .int a1), (4, .int a4), (5, .int a5)]) X.1 X.2.1 dX11_bestSlip_105 rfl hl (by decide) rfl (fun ls hl => ?_)
        exact J106 _ _ _ w a1 x99 r102 a4 hU hS (lv_sub hl [2, 3, 1, 0, 4] rfl) hf
      have J50 : ∀ (H : Heap) (locs : List Loc) (ls : Array Slot) (w : k_M) (a1 : Int32) (a2 : Int32) (a3 : Int32) (a4 : Int32) (as0 : Int32), k_Uv D G ad (k_uc u 5 w) H → va_S (k_A ad sz) s.heap H locs → lv_has ls 6 [(0, .ref (ad 5 0)), (1, .int a1), (2, .int a2), (3, .int a3), (4, .int a4)] → f_X11_bestSlip_50 (f_X11_bestSlip_21 n21) w a1 a2 a3 a4 as0 = some r → W p l e rm_X11_bestSlip s m args below meth c H locs 0 0 (MQ below (k_Qi D G ad (k_uc u 5 r.1) r.2 sz) args s 0 0 (k_A ad sz)) (F0 m 50 ls [.int as0]) := by
        intro H locs ls w a1 a2 a3 a4 as0 hU hS hl hf
        unfold f_X11_bestSlip_50 at hf
        refine lv_istore (lv' := [(5, .int as0), (0, .ref (ad 5 0)), (1, .int a1), (2, .int a2), (3, .int a3), (4, .int a4)]) X.1 X.2.1 dX11_bestSlip_50 hl (by decide) rfl (fun ls hl => ?_)
        refine lv_aload_n X.1 X.2.1 dX11_bestSlip_52 rfl (lv_at hl 1 rfl) ?_
        refine k_getw (v := .ref (ad 5 3)) X hU sh_5_0 fl_X11_16 rfl dX11_bestSlip_53 ?_
        refine lv_iconst (v := 0) X.1 X.2.1 dX11_bestSlip_56 (by decide) ?_
        refine lv_aload_n X.1 X.2.1 dX11_bestSlip_57 rfl (lv_at hl 1 rfl) ?_
        refine k_getw (v := .ref (ad 5 1)) X hU sh_5_0 fl_X11_7 rfl dX11_bestSlip_58 ?_
        refine lv_iconst (v := 0) X.1 X.2.1 dX11_bestSlip_61 (by decide) ?_
        obtain ⟨r62, hr62, hf⟩ := k_bdE hf
        refine k_backv X hS (k_runS (As := [.ref (ad 5 3), .int 0, .ref (ad 5 1), .int 0]) (rest := []) X hS hU sl_X11_200 (c_X11_copies X.2.2.2.2.2.2.1 (k_uc_s _ _ _) sh_5_3 (by decide) sh_5_1 (by decide) hr62) rfl rfl rfl hl.1 ⟨Nat.le_of_ble_eq_true rfl, Nat.le_of_ble_eq_true rfl⟩ (Nat.le_of_ble_eq_true rfl) dX11_bestSlip_62 ⟨Nat.zero_le _, Nat.zero_le _⟩) (fun H locs hU hS => ?_)
        rw [k_uc_uc] at hU
        refine lv_aload_n X.1 X.2.1 dX11_bestSlip_65 rfl (lv_at hl 1 rfl) ?_
        refine k_getw (v := .ref (ad 5 1)) X hU sh_5_0 fl_X11_7 rfl dX11_bestSlip_66 ?_
        refine lv_iconst (v := 5) X.1 X.2.1 dX11_bestSlip_69 (by decide) ?_
        refine lv_iload X.1 X.2.1 dX11_bestSlip_70 (lv_at hl 0 rfl) ?_
        obtain ⟨w72, e72, hf⟩ := k_ltE hf
        refine k_istw X hU hS sh_5_1 e72 (k_vin (N := 268) (by decide) (by decide)) (by decide) dX11_bestSlip_72 (fun H locs hU hS => ?_)
        refine lv_aload_n X.1 X.2.1 dX11_bestSlip_73 rfl (lv_at hl 1 rfl) ?_
        obtain ⟨r74, hr74, hf⟩ := k_bdE hf
        refine k_backi X hS (k_runV (As := []) (rest := []) X hS hU sh_5_0 (by decide) rfl vl_X11_213 (c_X11_lands X.2.2.2.2.2.2.1 (k_uc_s _ _ _) hr74) rfl rfl rfl hl.1 ⟨Nat.le_of_ble_eq_true rfl, Nat.le_of_ble_eq_true rfl⟩ (Nat.le_of_ble_eq_true rfl) dX11_bestSlip_74 ⟨Nat.zero_le _, Nat.zero_le _⟩) (fun H locs hU hS => ?_)
        rw [k_uc_uc] at hU
        refine lv_if_eq (tgt := 106) X.1 X.2.1 dX11_bestSlip_77 (by decide) (fun c77 => ?_) (fun c77 => ?_)
        · replace hf := k_ifP hf c77
          exact J106 _ _ _ r74.1 a1 a2 a3 a4 hU hS (lv_sub hl [1, 2, 3, 4, 5] rfl) hf
        · replace hf := k_ifN hf c77
          refine lv_iload_n X.1 X.2.1 dX11_bestSlip_80 rfl (lv_at hl 3 rfl) ?_
          refine lv_iconst (v := (-1)) X.1 X.2.1 dX11_bestSlip_81 (by decide) ?_
          refine lv_icmp_eq (tgt := 94) X.1 X.2.1 dX11_bestSlip_82 (by decide) (fun c82 => ?_) (fun c82 => ?_)
          · replace hf := k_ifP hf c82
            exact J94 _ _ _ r74.1 a1 a4 as0 hU hS (lv_sub hl [1, 2, 5, 0] rfl) hf
          · replace hf := k_ifN hf c82
            refine lv_aload_n X.1 X.2.1 dX11_bestSlip_85 rfl (lv_at hl 1 rfl) ?_
            refine lv_iload_n X.1 X.2.1 dX11_bestSlip_86 rfl (lv_at hl 2 rfl) ?_
            obtain ⟨r87, hr87, hf⟩ := k_bdE hf
            refine k_backi X hS (k_runV (As := [.int a1]) (rest := []) X hS hU sh_5_0 (by decide) rfl vl_X11_216 (c_X11_far X.2.2.2.2.2.2.1 (k_uc_s _ _ _) hr87) rfl rfl rfl hl.1 ⟨Nat.le_of_ble_eq_true rfl, Nat.le_of_ble_eq_true rfl⟩ (Nat.le_of_ble_eq_true rfl) dX11_bestSlip_87 ⟨Nat.zero_le _, Nat.zero_le _⟩) (fun H locs hU hS => ?_)
            refine lv_iload_n X.1 X.2.1 dX11_bestSlip_90 rfl (lv_at hl 4 rfl) ?_
            refine lv_icmp_ge (tgt := 106) X.1 X.2.1 dX11_bestSlip_91 (by decide) (fun c91 => ?_) (fun c91 => ?_)
            · replace hf := k_ifP hf c91
              exact J106 _ _ _ r74.1 a1 a2 a3 a4 hU hS (lv_sub hl [1, 2, 3, 4, 5] rfl) hf
            · replace hf := k_ifN hf c91
              exact J94 _ _ _ r74.1 a1 a4 as0 hU hS (lv_sub hl [1, 2, 5, 0] rfl) hf
      intro H locs ls w a1 a2 a3 a4 hU hS hl hf
      replace hf : f_X11_bestSlip_21_b (f_X11_bestSlip_21 n21) w a1 a2 a3 a4 = some r := hf
      unfold f_X11_bestSlip_21_b at hf
      refine lv_iload X.1 X.2.1 dX11_bestSlip_21 (lv_at hl 4 rfl) ?_
      refine lv_bipush (v := 19) X.1 X.2.1 dX11_bestSlip_23 (by decide) ?_
      refine lv_icmp_ge (tgt := 112) X.1 X.2.1 dX11_bestSlip_25 (by decide) (fun c25 => ?_) (fun c25 => ?_)
      · replace hf := k_ifP hf c25
        refine lv_aload_n X.1 X.2.1 dX11_bestSlip_112 rfl (lv_at hl 0 rfl) ?_
        refine lv_iload_n X.1 X.2.1 dX11_bestSlip_113 rfl (lv_at hl 2 rfl) ?_
        obtain ⟨r114, hr114, hf⟩ := k_bdE hf
        refine k_backi X hS (k_runV (As := [.int a2]) (rest := []) X hS hU sh_5_0 (by decide) rfl vl_X11_210 (c_X11_back X.2.2.2.2.2.2.1 (k_uc_s _ _ _) hr114) rfl rfl rfl hl.1 ⟨Nat.le_of_ble_eq_true rfl, Nat.le_of_ble_eq_true rfl⟩ (Nat.le_of_ble_eq_true rfl) dX11_bestSlip_114 ⟨Nat.zero_le _, Nat.zero_le _⟩) (fun H locs hU hS => ?_)
        rw [k_uc_uc] at hU
        have hz := Option.some.inj hf
        subst hz
        exact k_iret (v := r114.2) X hU hS hr hlk rfl rfl dX11_bestSlip_117
      · replace hf := k_ifN hf c25
        refine lv_iload X.1 X.2.1 dX11_bestSlip_28 (lv_at hl 4 rfl) ?_
        refine lv_iconst (v := 2) X.1 X.2.1 dX11_bestSlip_30 (by decide) ?_
        refine lv_irem X.1 X.2.1 dX11_bestSlip_31 (by decide) ?_
        refine lv_iconst (v := 1) X.1 X.2.1 dX11_bestSlip_32 (by decide) ?_
        refine lv_icmp_ne (tgt := 46) X.1 X.2.1 dX11_bestSlip_33 (by decide) (fun c33 => ?_) (fun c33 => ?_)
        · replace hf := k_ifN hf c33
          refine lv_iload X.1 X.2.1 dX11_bestSlip_46 (lv_at hl 4 rfl) ?_
          refine lv_iconst (v := 2) X.1 X.2.1 dX11_bestSlip_48 (by decide) ?_
          refine lv_idiv X.1 X.2.1 dX11_bestSlip_49 (by decide) ?_
          exact J50 _ _ _ w a1 a2 a3 a4 (a4 / 2) hU hS (lv_sub hl [0, 1, 2, 3, 4] rfl) hf
        · replace hf := k_ifP hf c33
          refine lv_iload X.1 X.2.1 dX11_bestSlip_36 (lv_at hl 4 rfl) ?_
          refine lv_iconst (v := 1) X.1 X.2.1 dX11_bestSlip_38 (by decide) ?_
          refine lv_iadd X.1 X.2.1 dX11_bestSlip_39 ?_
          refine lv_ineg X.1 X.2.1 dX11_bestSlip_40 ?_
          refine lv_iconst (v := 2) X.1 X.2.1 dX11_bestSlip_41 (by decide) ?_
          refine lv_idiv X.1 X.2.1 dX11_bestSlip_42 (by decide) ?_
          refine lv_goto (tgt := 50) X.1 X.2.1 dX11_bestSlip_43 (by decide) ?_
          exact J50 _ _ _ w a1 a2 a3 a4 ((-(a4 + 1)) / 2) hU hS (lv_sub hl [0, 1, 2, 3, 4] rfl) hf
  unfold f_X11_bestSlip at hf
  refine lv_aload_n X.1 X.2.1 dX11_bestSlip_0 rfl (lv_at hl 0 rfl) ?_
  obtain ⟨r1, hr1, hf⟩ := k_bdE hf
  refine k_backv X hS (k_runV (As := []) (rest := []) X hS hU sh_5_0 (by decide) rfl vl_X11_207 (c_X11_looks X.2.2.2.2.2.2.1 (k_uc_s _ _ _) hr1) rfl rfl rfl hl.1 ⟨Nat.le_of_ble_eq_true rfl, Nat.le_of_ble_eq_true rfl⟩ (Nat.le_of_ble_eq_true rfl) dX11_bestSlip_1 ⟨Nat.zero_le _, Nat.zero_le _⟩) (fun H locs hU hS => ?_)
  rw [k_uc_uc] at hU
  refine lv_aload_n X.1 X.2.1 dX11_bestSlip_4 rfl (lv_at hl 0 rfl) ?_
  refine lv_iload_n X.1 X.2.1 dX11_bestSlip_5 rfl (lv_at hl 1 rfl) ?_
  obtain ⟨r6, hr6, hf⟩ := k_bdE hf
  refine k_backi X hS (k_runV (As := [.int a1]) (rest := []) X hS hU sh_5_0 (by decide) rfl vl_X11_191 (c_X11_noSpot X.2.2.2.2.2.2.1 (k_uc_s _ _ _) hr6) rfl rfl rfl hl.1 ⟨Nat.le_of_ble_eq_true rfl, Nat.le_of_ble_eq_true rfl⟩ (Nat.le_of_ble_eq_true rfl) dX11_bestSlip_6 ⟨Nat.zero_le _, Nat.zero_le _⟩) (fun H locs hU hS => ?_)
  rw [k_uc_uc] at hU
  refine lv_if_eq (tgt := 14) X.1 X.2.1 dX11_bestSlip_9 (by decide) (fun c9 => ?_) (fun c9 => ?_)
  · replace hf := k_ifP hf c9
    refine lv_iconst (v := (-1)) X.1 X.2.1 dX11_bestSlip_14 (by decide) ?_
    refine lv_istore_n (lv' := [(2, .int (-1)), (0, .ref (ad 5 0)), (1, .int a1)]) X.1 X.2.1 dX11_bestSlip_15 rfl hl (by decide) rfl (fun ls hl => ?_)
    refine lv_iconst (v := 0) X.1 X.2.1 dX11_bestSlip_16 (by decide) ?_
    refine lv_istore_n (lv' := [(3, .int 0), (2, .int (-1)), (0, .ref (ad 5 0)), (1, .int a1)]) X.1 X.2.1 dX11_bestSlip_17 rfl hl (by decide) rfl (fun ls hl => ?_)
    refine lv_iconst (v := 0) X.1 X.2.1 dX11_bestSlip_18 (by decide) ?_
    refine lv_istore (lv' := [(4, .int 0), (3, .int 0), (2, .int (-1)), (0, .ref (ad 5 0)), (1, .int a1)]) X.1 X.2.1 dX11_bestSlip_19 hl (by decide) rfl (fun ls hl => ?_)
    exact L21 k_N _ _ _ r6.1 a1 (-1) 0 0 hU hS (lv_sub hl [3, 4, 2, 1, 0] rfl) hf
  · replace hf := k_ifN hf c9
    refine lv_iconst (v := 0) X.1 X.2.1 dX11_bestSlip_12 (by decide) ?_
    have hz := Option.some.inj hf
    subst hz
    exact k_iret (v := 0) X hU hS hr hlk rfl rfl dX11_bestSlip_13
def rm_X11_reachable : Room := { frames := 8, cells := 0, slots := 0, locals := 187 }
set_option maxRecDepth 100000 in
set_option maxHeartbeats 4000000 in
theorem c_X11_reachable {l : Launch} {D : va_G} {G : Nat → ClassId} {ad : Nat → Nat → Nat} {u : k_U} (hI : k_ok ad) {w : k_M} (hw : u 5 = w) {sz : Nat} {r : (k_M × Int32)} (hf : f_X11_reachable w = some r) : Met l yX11_reachable (.code yX11_reachable cX11_reachable 5 (some .int) :: lw_g) rm_X11_reachable (k_Pre D G ad u sz [.ref (ad 5 0)]) (k_Qi D G ad (k_uc u 5 r.1) r.2 sz) 0 0 (k_A ad sz) := by
  refine k_ofW (by decide +kernel) hI (Nat.le_of_ble_eq_true rfl) ?_
  intro p e s m args below meth c X hr hlk hU hS ls hl
  have hl : lv_has ls 5 [(0, .ref (ad 5 0))] := hl
  have hU : k_Uv D G ad (k_uc u 5 w) s.heap := by rw [← hw, k_uc_id]; exact hU
  have L9 : ∀ (n9 : Nat) (H : Heap) (locs : List Loc) (ls : Array Slot) (w : k_M) (a1 : Int32) (a2 : Int32), k_Uv D G ad (k_uc u 5 w) H → va_S (k_A ad sz) s.heap H locs → lv_has ls 5 [(0, .ref (ad 5 0)), (1, .int a1), (2, .int a2)] → f_X11_reachable_9 n9 w a1 a2 = some r → W p l e rm_X11_reachable s m args below meth c H locs 0 0 (MQ below (k_Qi D G ad (k_uc u 5 r.1) r.2 sz) args s 0 0 (k_A ad sz)) (F0 m 9 ls []) := by
    intro n9
    induction n9 with
    | zero =>
      intro H locs ls w a1 a2 hU hS hl hf
      cases (show none = some r from hf)
    | succ n9 ih9 =>
      have L43 : ∀ (n43 : Nat) (H : Heap) (locs : List Loc) (ls : Array Slot) (w : k_M) (a1 : Int32) (a2 : Int32) (a3 : Int32) (a4 : Int32), k_Uv D G ad (k_uc u 5 w) H → va_S (k_A ad sz) s.heap H locs → lv_has ls 5 [(0, .ref (ad 5 0)), (1, .int a1), (2, .int a2), (3, .int a3), (4, .int a4)] → f_X11_reachable_43 (f_X11_reachable_9 n9) n43 w a1 a2 a3 a4 = some r → W p l e rm_X11_reachable s m args below meth c H locs 0 0 (MQ below (k_Qi D G ad (k_uc u 5 r.1) r.2 sz) args s 0 0 (k_A ad sz)) (F0 m 43 ls []) := by
        intro n43
        induction n43 with
        | zero =>
          intro H locs ls w a1 a2 a3 a4 hU hS hl hf
          cases (show none = some r from hf)
        | succ n43 ih43 =>
          have J77 : ∀ (H : Heap) (locs : List Loc) (ls : Array Slot) (w : k_M) (a2 : Int32) (a3 : Int32) (a4 : Int32) (as0 : Int32) (as1 : Int32), k_Uv D G ad (k_uc u 5 w) H → va_S (k_A ad sz) s.heap H locs → lv_has ls 5 [(0, .ref (ad 5 0)), (2, .int a2), (3, .int a3), (4, .int a4)] → f_X11_reachable_77 (f_X11_reachable_9 n9) (f_X11_reachable_43 (f_X11_reachable_9 n9) n43) w a2 a3 a4 as0 as1 = some r → W p l e rm_X11_reachable s m args below meth c H locs 0 0 (MQ below (k_Qi D G ad (k_uc u 5 r.1) r.2 sz) args s 0 0 (k_A ad sz)) (F0 m 77 ls [.int as0, .int as1]) := by
            intro H locs ls w a2 a3 a4 as0 as1 hU hS hl hf
            unfold f_X11_reachable_77 at hf
            refine lv_ior X.1 X.2.1 dX11_reachable_77 ?_
            obtain ⟨x78, e78, hf⟩ := k_ltE hf
            refine k_nmi e78 ?_
            refine lv_istore_n (lv' := [(1, .int x78), (0, .ref (ad 5 0)), (2, .int a2), (3, .int a3), (4, .int a4)]) X.1 X.2.1 dX11_reachable_78 rfl hl (by decide) rfl (fun ls hl => ?_)
            obtain ⟨x79, e79, hf⟩ := k_ltE hf
            refine lv_iinc (v := x79) (lv' := [(4, .int x79), (1, .int x78), (0, .ref (ad 5 0)), (2, .int a2), (3, .int a3)]) X.1 X.2.1 dX11_reachable_79 hl (k := 4) rfl (by rw [e79]; rfl) (by decide) rfl (fun ls hl => ?_)
            refine lv_goto (tgt := 43) X.1 X.2.1 dX11_reachable_82 (by decide) ?_
            exact ih43 _ _ _ w x78 a2 a3 x79 hU hS (lv_sub hl [2, 1, 3, 4, 0] rfl) hf
          have J76 : ∀ (H : Heap) (locs : List Loc) (ls : Array Slot) (w : k_M) (a2 : Int32) (a3 : Int32) (a4 : Int32) (as0 : Int32), k_Uv D G ad (k_uc u 5 w) H → va_S (k_A ad sz) s.heap H locs → lv_has ls 5 [(0, .ref (ad 5 0)), (2, .int a2), (3, .int a3), (4, .int a4)] → f_X11_reachable_76 (f_X11_reachable_9 n9) (f_X11_reachable_43 (f_X11_reachable_9 n9) n43) w a2 a3 a4 as0 = some r → W p l e rm_X11_reachable s m args below meth c H locs 0 0 (MQ below (k_Qi D G ad (k_uc u 5 r.1) r.2 sz) args s 0 0 (k_A ad sz)) (F0 m 76 ls [.int as0]) := by
            intro H locs ls w a2 a3 a4 as0 hU hS hl hf
            unfold f_X11_reachable_76 at hf
            refine lv_iconst (v := 0) X.1 X.2.1 dX11_reachable_76 (by decide) ?_
            exact J77 _ _ _ w a2 a3 a4 0 as0 hU hS (lv_sub hl [0, 1, 2, 3] rfl) hf
          intro H locs ls w a1 a2 a3 a4 hU hS hl hf
          replace hf : f_X11_reachable_43_b (f_X11_reachable_9 n9) (f_X11_reachable_43 (f_X11_reachable_9 n9) n43) w a1 a2 a3 a4 = some r := hf
          unfold f_X11_reachable_43_b at hf
          refine lv_iload X.1 X.2.1 dX11_reachable_43 (lv_at hl 4 rfl) ?_
          refine lv_aload_n X.1 X.2.1 dX11_reachable_45 rfl (lv_at hl 0 rfl) ?_
          refine k_getw (v := .ref (ad 5 1)) X hU sh_5_0 fl_X11_7 rfl dX11_reachable_46 ?_
          refine lv_bipush (v := 12) X.1 X.2.1 dX11_reachable_49 (by decide) ?_
          refine k_ildw (j0 := 12) X hU sh_5_1 (k_vin (N := 268) (by decide) (by decide)) (by decide) dX11_reachable_51 ?_
          refine lv_icmp_ge (tgt := 85) X.1 X.2.1 dX11_reachable_52 (by decide) (fun c52 => ?_) (fun c52 => ?_)
          · replace hf := k_ifP hf c52
            obtain ⟨x85, e85, hf⟩ := k_ltE hf
            refine lv_iinc (v := x85) (lv' := [(2, .int x85), (0, .ref (ad 5 0)), (1, .int a1), (3, .int a3), (4, .int a4)]) X.1 X.2.1 dX11_reachable_85 hl (k := 2) rfl (by rw [e85]; rfl) (by decide) rfl (fun ls hl => ?_)
            refine lv_goto (tgt := 9) X.1 X.2.1 dX11_reachable_88 (by decide) ?_
            exact ih9 _ _ _ w a1 x85 hU hS (lv_sub hl [1, 2, 0] rfl) hf
          · replace hf := k_ifN hf c52
            refine lv_iload_n X.1 X.2.1 dX11_reachable_55 rfl (lv_at hl 1 rfl) ?_
            refine lv_iload_n X.1 X.2.1 dX11_reachable_56 rfl (lv_at hl 3 rfl) ?_
            refine lv_if_eq (tgt := 76) X.1 X.2.1 dX11_reachable_57 (by decide) (fun c57 => ?_) (fun c57 => ?_)
            · replace hf := k_ifP hf c57
              exact J76 _ _ _ w a2 a3 a4 a1 hU hS (lv_sub hl [0, 2, 3, 4] rfl) hf
            · replace hf := k_ifN hf c57
              refine lv_aload_n X.1 X.2.1 dX11_reachable_60 rfl (lv_at hl 0 rfl) ?_
              refine lv_iload X.1 X.2.1 dX11_reachable_61 (lv_at hl 4 rfl) ?_
              obtain ⟨r63, hr63, hf⟩ := k_bdE hf
              refine k_backi X hS (k_runV (As := [.int a4]) (rest := [.int a1]) X hS hU sh_5_0 (by decide) rfl vl_X11_216 (c_X11_far X.2.2.2.2.2.2.1 (k_uc_s _ _ _) hr63) rfl rfl rfl hl.1 ⟨Nat.le_of_ble_eq_true rfl, Nat.le_of_ble_eq_true rfl⟩ (Nat.le_of_ble_eq_true rfl) dX11_reachable_63 ⟨Nat.zero_le _, Nat.zero_le _⟩) (fun H locs hU hS => ?_)
              refine lv_if_ne (tgt := 76) X.1 X.2.1 dX11_reachable_66 (by decide) (fun c66 => ?_) (fun c66 => ?_)
              · replace hf := k_ifN hf c66
                exact J76 _ _ _ w a2 a3 a4 a1 hU hS (lv_sub hl [0, 2, 3, 4] rfl) hf
              · replace hf := k_ifP hf c66
                refine lv_iconst (v := 1) X.1 X.2.1 dX11_reachable_69 (by decide) ?_
                refine lv_iload X.1 X.2.1 dX11_reachable_70 (lv_at hl 4 rfl) ?_
                refine lv_ishl X.1 X.2.1 dX11_reachable_72 ?_
                refine lv_goto (tgt := 77) X.1 X.2.1 dX11_reachable_73 (by decide) ?_
                exact J77 _ _ _ w a2 a3 a4 (1 <<< (a4 &&& 31)) a1 hU hS (lv_sub hl [0, 2, 3, 4] rfl) hf
      intro H locs ls w a1 a2 hU hS hl hf
      replace hf : f_X11_reachable_9_b (f_X11_reachable_9 n9) w a1 a2 = some r := hf
      unfold f_X11_reachable_9_b at hf
      refine lv_iload_n X.1 X.2.1 dX11_reachable_9 rfl (lv_at hl 2 rfl) ?_
      refine lv_bipush (v := 10) X.1 X.2.1 dX11_reachable_10 (by decide) ?_
      refine lv_icmp_ge (tgt := 91) X.1 X.2.1 dX11_reachable_12 (by decide) (fun c12 => ?_) (fun c12 => ?_)
      · replace hf := k_ifP hf c12
        refine lv_aload_n X.1 X.2.1 dX11_reachable_91 rfl (lv_at hl 0 rfl) ?_
        refine lv_iload_n X.1 X.2.1 dX11_reachable_92 rfl (lv_at hl 1 rfl) ?_
        obtain ⟨r93, hr93, hf⟩ := k_bdE hf
        refine k_backi X hS (k_runV (As := [.int a1]) (rest := []) X hS hU sh_5_0 (by decide) rfl vl_X11_210 (c_X11_back X.2.2.2.2.2.2.1 (k_uc_s _ _ _) hr93) rfl rfl rfl hl.1 ⟨Nat.le_of_ble_eq_true rfl, Nat.le_of_ble_eq_true rfl⟩ (Nat.le_of_ble_eq_true rfl) dX11_reachable_93 ⟨Nat.zero_le _, Nat.zero_le _⟩) (fun H locs hU hS => ?_)
        rw [k_uc_uc] at hU
        have hz := Option.some.inj hf
        subst hz
        exact k_iret (v := r93.2) X hU hS hr hlk rfl rfl dX11_reachable_96
      · replace hf := k_ifN hf c12
        refine lv_aload_n X.1 X.2.1 dX11_reachable_15 rfl (lv_at hl 0 rfl) ?_
        refine k_getw (v := .ref (ad 5 3)) X hU sh_5_0 fl_X11_16 rfl dX11_reachable_16 ?_
        refine lv_iconst (v := 0) X.1 X.2.1 dX11_reachable_19 (by decide) ?_
        refine lv_aload_n X.1 X.2.1 dX11_reachable_20 rfl (lv_at hl 0 rfl) ?_
        refine k_getw (v := .ref (ad 5 1)) X hU sh_5_0 fl_X11_7 rfl dX11_reachable_21 ?_
        refine lv_iconst (v := 0) X.1 X.2.1 dX11_reachable_24 (by decide) ?_
        obtain ⟨r25, hr25, hf⟩ := k_bdE hf
        refine k_backv X hS (k_runS (As := [.ref (ad 5 3), .int 0, .ref (ad 5 1), .int 0]) (rest := []) X hS hU sl_X11_200 (c_X11_copies X.2.2.2.2.2.2.1 (k_uc_s _ _ _) sh_5_3 (by decide) sh_5_1 (by decide) hr25) rfl rfl rfl hl.1 ⟨Nat.le_of_ble_eq_true rfl, Nat.le_of_ble_eq_true rfl⟩ (Nat.le_of_ble_eq_true rfl) dX11_reachable_25 ⟨Nat.zero_le _, Nat.zero_le _⟩) (fun H locs hU hS => ?_)
        rw [k_uc_uc] at hU
        refine lv_aload_n X.1 X.2.1 dX11_reachable_28 rfl (lv_at hl 0 rfl) ?_
        refine k_getw (v := .ref (ad 5 1)) X hU sh_5_0 fl_X11_7 rfl dX11_reachable_29 ?_
        refine lv_iconst (v := 5) X.1 X.2.1 dX11_reachable_32 (by decide) ?_
        refine lv_iload_n X.1 X.2.1 dX11_reachable_33 rfl (lv_at hl 2 rfl) ?_
        obtain ⟨w34, e34, hf⟩ := k_ltE hf
        refine k_istw X hU hS sh_5_1 e34 (k_vin (N := 268) (by decide) (by decide)) (by decide) dX11_reachable_34 (fun H locs hU hS => ?_)
        refine lv_aload_n X.1 X.2.1 dX11_reachable_35 rfl (lv_at hl 0 rfl) ?_
        obtain ⟨r36, hr36, hf⟩ := k_bdE hf
        refine k_backi X hS (k_runV (As := []) (rest := []) X hS hU sh_5_0 (by decide) rfl vl_X11_213 (c_X11_lands X.2.2.2.2.2.2.1 (k_uc_s _ _ _) hr36) rfl rfl rfl hl.1 ⟨Nat.le_of_ble_eq_true rfl, Nat.le_of_ble_eq_true rfl⟩ (Nat.le_of_ble_eq_true rfl) dX11_reachable_36 ⟨Nat.zero_le _, Nat.zero_le _⟩) (fun H locs hU hS => ?_)
        rw [k_uc_uc] at hU
        refine lv_istore_n (lv' := [(3, .int r36.2), (0, .ref (ad 5 0)), (1, .int a1), (2, .int a2)]) X.1 X.2.1 dX11_reachable_39 rfl hl (by decide) rfl (fun ls hl => ?_)
        refine lv_iconst (v := 0) X.1 X.2.1 dX11_reachable_40 (by decide) ?_
        refine lv_istore (lv' := [(4, .int 0), (3, .int r36.2), (0, .ref (ad 5 0)), (1, .int a1), (2, .int a2)]) X.1 X.2.1 dX11_reachable_41 hl (by decide) rfl (fun ls hl => ?_)
        exact L43 k_N _ _ _ r36.1 a1 a2 r36.2 0 hU hS (lv_sub hl [2, 3, 4, 1, 0] rfl) hf
  unfold f_X11_reachable at hf
  refine lv_aload_n X.1 X.2.1 dX11_reachable_0 rfl (lv_at hl 0 rfl) ?_
  obtain ⟨r1, hr1, hf⟩ := k_bdE hf
  refine k_backv X hS (k_runV (As := []) (rest := []) X hS hU sh_5_0 (by decide) rfl vl_X11_207 (c_X11_looks X.2.2.2.2.2.2.1 (k_uc_s _ _ _) hr1) rfl rfl rfl hl.1 ⟨Nat.le_of_ble_eq_true rfl, Nat.le_of_ble_eq_true rfl⟩ (Nat.le_of_ble_eq_true rfl) dX11_reachable_1 ⟨Nat.zero_le _, Nat.zero_le _⟩) (fun H locs hU hS => ?_)
  rw [k_uc_uc] at hU
  refine lv_iconst (v := 0) X.1 X.2.1 dX11_reachable_4 (by decide) ?_
  refine lv_istore_n (lv' := [(1, .int 0), (0, .ref (ad 5 0))]) X.1 X.2.1 dX11_reachable_5 rfl hl (by decide) rfl (fun ls hl => ?_)
  refine lv_bipush (v := (-9)) X.1 X.2.1 dX11_reachable_6 (by decide) ?_
  refine lv_istore_n (lv' := [(2, .int (-9)), (1, .int 0), (0, .ref (ad 5 0))]) X.1 X.2.1 dX11_reachable_8 rfl hl (by decide) rfl (fun ls hl => ?_)
  exact L9 k_N _ _ _ r1 0 (-9) hU hS (lv_sub hl [2, 1, 0] rfl) hf
def rm_X11_keeps : Room := { frames := 1, cells := 0, slots := 0, locals := 24 }
set_option maxRecDepth 100000 in
set_option maxHeartbeats 4000000 in
theorem c_X11_keeps {l : Launch} {D : va_G} {G : Nat → ClassId} {ad : Nat → Nat → Nat} {u : k_U} (hI : k_ok ad) {w : k_M} (hw : u 5 = w) {sz : Nat} {r : k_M} (hf : f_X11_keeps w = some r) : Met l yX11_keeps (.code yX11_keeps cX11_keeps 2 none :: lw_g) rm_X11_keeps (k_Pre D G ad u sz [.ref (ad 5 0)]) (k_Qv D G ad (k_uc u 5 r) sz) 0 0 (k_A ad sz) := by
  refine k_ofW (by decide +kernel) hI (Nat.le_of_ble_eq_true rfl) ?_
  intro p e s m args below meth c X hr hlk hU hS ls hl
  have hl : lv_has ls 2 [(0, .ref (ad 5 0))] := hl
  have hU : k_Uv D G ad (k_uc u 5 w) s.heap := by rw [← hw, k_uc_id]; exact hU
  have J58 : ∀ (H : Heap) (locs : List Loc) (ls : Array Slot) (w : k_M), k_Uv D G ad (k_uc u 5 w) H → va_S (k_A ad sz) s.heap H locs → lv_has ls 2 [(0, .ref (ad 5 0))] → f_X11_keeps_58 w = some r → W p l e rm_X11_keeps s m args below meth c H locs 0 0 (MQ below (k_Qv D G ad (k_uc u 5 r) sz) args s 0 0 (k_A ad sz)) (F0 m 58 ls []) := by
    intro H locs ls w hU hS hl hf
    unfold f_X11_keeps_58 at hf
    refine lv_aload_n X.1 X.2.1 dX11_keeps_58 rfl (lv_at hl 0 rfl) ?_
    refine k_getw (v := .ref (ad 5 1)) X hU sh_5_0 fl_X11_7 rfl dX11_keeps_59 ?_
    refine lv_iconst (v := 0) X.1 X.2.1 dX11_keeps_62 (by decide) ?_
    refine lv_aload_n X.1 X.2.1 dX11_keeps_63 rfl (lv_at hl 0 rfl) ?_
    refine k_getw (v := .ref (ad 5 4)) X hU sh_5_0 fl_X11_19 rfl dX11_keeps_64 ?_
    refine lv_sipush (v := 268) X.1 X.2.1 dX11_keeps_67 (by decide) ?_
    refine lv_aload_n X.1 X.2.1 dX11_keeps_70 rfl (lv_at hl 0 rfl) ?_
    refine k_getw (v := .int (w 0 8)) X hU sh_5_0 fl_X11_176 rfl dX11_keeps_71 ?_
    refine lv_imul X.1 X.2.1 dX11_keeps_74 ?_
    obtain ⟨r75, hr75, hf⟩ := k_bdE hf
    refine k_backv X hS (k_runS (As := [.ref (ad 5 1), .int 0, .ref (ad 5 4), .int (268 * (w 0 8))]) (rest := []) X hS hU sl_X11_200 (c_X11_copies X.2.2.2.2.2.2.1 (k_uc_s _ _ _) sh_5_1 (by decide) sh_5_4 (by decide) hr75) rfl rfl rfl hl.1 ⟨Nat.le_of_ble_eq_true rfl, Nat.le_of_ble_eq_true rfl⟩ (Nat.le_of_ble_eq_true rfl) dX11_keeps_75 ⟨Nat.zero_le _, Nat.zero_le _⟩) (fun H locs hU hS => ?_)
    rw [k_uc_uc] at hU
    refine lv_aload_n X.1 X.2.1 dX11_keeps_78 rfl (lv_at hl 0 rfl) ?_
    refine lv_dup X.1 X.2.1 dX11_keeps_79 rfl ?_
    refine k_getw (v := .int (r75 0 8)) X hU sh_5_0 fl_X11_176 rfl dX11_keeps_80 ?_
    refine lv_iconst (v := 1) X.1 X.2.1 dX11_keeps_83 (by decide) ?_
    refine lv_iadd X.1 X.2.1 dX11_keeps_84 ?_
    obtain ⟨w85, e85, hf⟩ := k_ltE hf
    refine k_putw X hU hS sh_5_0 fp_X11_176 rfl e85 rfl rfl dX11_keeps_85 (fun H locs hU hS => ?_)
    refine lv_aload_n X.1 X.2.1 dX11_keeps_88 rfl (lv_at hl 0 rfl) ?_
    refine k_getw (v := .ref (ad 5 7)) X hU sh_5_0 fl_X11_29 rfl dX11_keeps_89 ?_
    refine lv_iconst (v := 0) X.1 X.2.1 dX11_keeps_92 (by decide) ?_
    refine lv_dup2_11 X.1 X.2.1 dX11_keeps_93 rfl rfl ?_
    refine k_ildw (j0 := 0) X hU sh_5_7 (k_vin (N := 10) (by decide) (by decide)) (by decide) dX11_keeps_94 ?_
    refine lv_iconst (v := 1) X.1 X.2.1 dX11_keeps_95 (by decide) ?_
    refine lv_iadd X.1 X.2.1 dX11_keeps_96 ?_
    obtain ⟨w97, e97, hf⟩ := k_ltE hf
    refine k_istw X hU hS sh_5_7 e97 (k_vin (N := 10) (by decide) (by decide)) (by decide) dX11_keeps_97 (fun H locs hU hS => ?_)
    have hz := Option.some.inj hf
    subst hz
    exact k_vret X hU hS hr hlk dX11_keeps_98
  have L21 : ∀ (n21 : Nat) (H : Heap) (locs : List Loc) (ls : Array Slot) (w : k_M) (a1 : Int32), k_Uv D G ad (k_uc u 5 w) H → va_S (k_A ad sz) s.heap H locs → lv_has ls 2 [(0, .ref (ad 5 0)), (1, .int a1)] → f_X11_keeps_21 n21 w a1 = some r → W p l e rm_X11_keeps s m args below meth c H locs 0 0 (MQ below (k_Qv D G ad (k_uc u 5 r) sz) args s 0 0 (k_A ad sz)) (F0 m 21 ls []) := by
    intro n21
    induction n21 with
    | zero =>
      intro H locs ls w a1 hU hS hl hf
      cases (show none = some r from hf)
    | succ n21 ih21 =>
      intro H locs ls w a1 hU hS hl hf
      replace hf : f_X11_keeps_21_b (f_X11_keeps_21 n21) w a1 = some r := hf
      unfold f_X11_keeps_21_b at hf
      refine lv_iload_n X.1 X.2.1 dX11_keeps_21 rfl (lv_at hl 1 rfl) ?_
      refine lv_aload_n X.1 X.2.1 dX11_keeps_22 rfl (lv_at hl 0 rfl) ?_
      refine k_getw (v := .int (w 0 8)) X hU sh_5_0 fl_X11_176 rfl dX11_keeps_23 ?_
      refine lv_icmp_ge (tgt := 58) X.1 X.2.1 dX11_keeps_26 (by decide) (fun c26 => ?_) (fun c26 => ?_)
      · replace hf := k_ifP hf c26
        exact J58 _ _ _ w hU hS (lv_sub hl [0] rfl) hf
      · replace hf := k_ifN hf c26
        refine lv_aload_n X.1 X.2.1 dX11_keeps_29 rfl (lv_at hl 0 rfl) ?_
        refine k_getw (v := .ref (ad 5 4)) X hU sh_5_0 fl_X11_19 rfl dX11_keeps_30 ?_
        refine lv_sipush (v := 268) X.1 X.2.1 dX11_keeps_33 (by decide) ?_
        refine lv_iload_n X.1 X.2.1 dX11_keeps_36 rfl (lv_at hl 1 rfl) ?_
        refine lv_iconst (v := 1) X.1 X.2.1 dX11_keeps_37 (by decide) ?_
        refine lv_iadd X.1 X.2.1 dX11_keeps_38 ?_
        refine lv_imul X.1 X.2.1 dX11_keeps_39 ?_
        refine lv_aload_n X.1 X.2.1 dX11_keeps_40 rfl (lv_at hl 0 rfl) ?_
        refine k_getw (v := .ref (ad 5 4)) X hU sh_5_0 fl_X11_19 rfl dX11_keeps_41 ?_
        refine lv_sipush (v := 268) X.1 X.2.1 dX11_keeps_44 (by decide) ?_
        refine lv_iload_n X.1 X.2.1 dX11_keeps_47 rfl (lv_at hl 1 rfl) ?_
        refine lv_imul X.1 X.2.1 dX11_keeps_48 ?_
        obtain ⟨r49, hr49, hf⟩ := k_bdE hf
        refine k_backv X hS (k_runS (As := [.ref (ad 5 4), .int (268 * (a1 + 1)), .ref (ad 5 4), .int (268 * a1)]) (rest := []) X hS hU sl_X11_200 (c_X11_copies X.2.2.2.2.2.2.1 (k_uc_s _ _ _) sh_5_4 (by decide) sh_5_4 (by decide) hr49) rfl rfl rfl hl.1 ⟨Nat.le_of_ble_eq_true rfl, Nat.le_of_ble_eq_true rfl⟩ (Nat.le_of_ble_eq_true rfl) dX11_keeps_49 ⟨Nat.zero_le _, Nat.zero_le _⟩) (fun H locs hU hS => ?_)
        rw [k_uc_uc] at hU
        obtain ⟨x52, e52, hf⟩ := k_ltE hf
        refine lv_iinc (v := x52) (lv' := [(1, .int x52), (0, .ref (ad 5 0))]) X.1 X.2.1 dX11_keeps_52 hl (k := 1) rfl (by rw [e52]; rfl) (by decide) rfl (fun ls hl => ?_)
        refine lv_goto (tgt := 21) X.1 X.2.1 dX11_keeps_55 (by decide) ?_
        exact ih21 _ _ _ r49 x52 hU hS (lv_sub hl [1, 0] rfl) hf
  unfold f_X11_keeps at hf
  refine lv_aload_n X.1 X.2.1 dX11_keeps_0 rfl (lv_at hl 0 rfl) ?_
  refine k_getw (v := .int (w 0 8)) X hU sh_5_0 fl_X11_176 rfl dX11_keeps_1 ?_
  refine lv_bipush (v := 8) X.1 X.2.1 dX11_keeps_4 (by decide) ?_
  refine lv_icmp_ne (tgt := 58) X.1 X.2.1 dX11_keeps_6 (by decide) (fun c6 => ?_) (fun c6 => ?_)
  · replace hf := k_ifN hf c6
    exact J58 _ _ _ w hU hS (lv_sub hl [0] rfl) hf
  · replace hf := k_ifP hf c6
    refine lv_aload_n X.1 X.2.1 dX11_keeps_9 rfl (lv_at hl 0 rfl) ?_
    refine lv_dup X.1 X.2.1 dX11_keeps_10 rfl ?_
    refine k_getw (v := .int (w 0 8)) X hU sh_5_0 fl_X11_176 rfl dX11_keeps_11 ?_
    refine lv_iconst (v := 1) X.1 X.2.1 dX11_keeps_14 (by decide) ?_
    refine lv_isub X.1 X.2.1 dX11_keeps_15 ?_
    obtain ⟨w16, e16, hf⟩ := k_ltE hf
    refine k_putw X hU hS sh_5_0 fp_X11_176 rfl e16 rfl rfl dX11_keeps_16 (fun H locs hU hS => ?_)
    refine lv_iconst (v := 0) X.1 X.2.1 dX11_keeps_19 (by decide) ?_
    refine lv_istore_n (lv' := [(1, .int 0), (0, .ref (ad 5 0))]) X.1 X.2.1 dX11_keeps_20 rfl hl (by decide) rfl (fun ls hl => ?_)
    exact L21 k_N _ _ _ w16 0 hU hS (lv_sub hl [1, 0] rfl) hf
def rm_X11_refused : Room := { frames := 0, cells := 0, slots := 0, locals := 0 }
set_option maxRecDepth 100000 in
set_option maxHeartbeats 4000000 in
theorem c_X11_refused {l : Launch} {D : va_G} {G : Nat → ClassId} {ad : Nat → Nat → Nat} {u : k_U} (hI : k_ok ad) {w : k_M} (hw : u 5 = w) {a1 : Int32} {sz : Nat} {r : (k_M × Int32)} (hf : f_X11_refused w a1 = some r) : Met l yX11_refused (.code yX11_refused cX11_refused 2 (some .int) :: lw_g) rm_X11_refused (k_Pre D G ad u sz [.ref (ad 5 0), .int a1]) (k_Qi D G ad (k_uc u 5 r.1) r.2 sz) 0 0 (k_A ad sz) := by
  refine k_ofW (by decide +kernel) hI (Nat.le_of_ble_eq_true rfl) ?_
  intro p e s m args below meth c X hr hlk hU hS ls hl
  have hl : lv_has ls 2 [(0, .ref (ad 5 0)), (1, .int a1)] := hl
  have hU : k_Uv D G ad (k_uc u 5 w) s.heap := by rw [← hw, k_uc_id]; exact hU
  unfold f_X11_refused at hf
  refine lv_aload_n X.1 X.2.1 dX11_refused_0 rfl (lv_at hl 0 rfl) ?_
  refine k_getw (v := .ref (ad 5 7)) X hU sh_5_0 fl_X11_29 rfl dX11_refused_1 ?_
  refine lv_iload_n X.1 X.2.1 dX11_refused_4 rfl (lv_at hl 1 rfl) ?_
  refine lv_dup2_11 X.1 X.2.1 dX11_refused_5 rfl rfl ?_
  obtain ⟨hi6, hf⟩ := k_ckE hf
  refine k_ildw (j0 := a1.toNatClampNeg) X hU sh_5_7 (k_vin (n := 10) hi6 (by decide)) rfl dX11_refused_6 ?_
  refine lv_iconst (v := 1) X.1 X.2.1 dX11_refused_7 (by decide) ?_
  refine lv_iadd X.1 X.2.1 dX11_refused_8 ?_
  obtain ⟨hi9, hf⟩ := k_ckE hf
  obtain ⟨w9, e9, hf⟩ := k_ltE hf
  refine k_istw X hU hS sh_5_7 e9 (k_vin (n := 10) hi9 (by decide)) rfl dX11_refused_9 (fun H locs hU hS => ?_)
  refine lv_iload_n X.1 X.2.1 dX11_refused_10 rfl (lv_at hl 1 rfl) ?_
  refine lv_ineg X.1 X.2.1 dX11_refused_11 ?_
  have hz := Option.some.inj hf
  subst hz
  exact k_iret (v := (-a1)) X hU hS hr hlk rfl rfl dX11_refused_12
def rm_X11_ticks : Room := { frames := 7, cells := 0, slots := 0, locals := 166 }
set_option maxRecDepth 100000 in
set_option maxHeartbeats 4000000 in
theorem c_X11_ticks {l : Launch} {D : va_G} {G : Nat → ClassId} {ad : Nat → Nat → Nat} {u : k_U} (hI : k_ok ad) {w : k_M} (hw : u 5 = w) {a1 : Int32} {sz : Nat} {r : (k_M × Int32)} (hf : f_X11_ticks w a1 = some r) : Met l yX11_ticks (.code yX11_ticks cX11_ticks 2 (some .int) :: lw_g) rm_X11_ticks (k_Pre D G ad u sz [.ref (ad 5 0), .int a1]) (k_Qi D G ad (k_uc u 5 r.1) r.2 sz) 0 0 (k_A ad sz) := by
  refine k_ofW (by decide +kernel) hI (Nat.le_of_ble_eq_true rfl) ?_
  intro p e s m args below meth c X hr hlk hU hS ls hl
  have hl : lv_has ls 2 [(0, .ref (ad 5 0)), (1, .int a1)] := hl
  have hU : k_Uv D G ad (k_uc u 5 w) s.heap := by rw [← hw, k_uc_id]; exact hU
  unfold f_X11_ticks at hf
  refine lv_aload_n X.1 X.2.1 dX11_ticks_0 rfl (lv_at hl 0 rfl) ?_
  refine k_getw (v := .ref (ad 5 1)) X hU sh_5_0 fl_X11_7 rfl dX11_ticks_1 ?_
  refine lv_iconst (v := 0) X.1 X.2.1 dX11_ticks_4 (by decide) ?_
  refine k_ildw (j0 := 0) X hU sh_5_1 (k_vin (N := 268) (by decide) (by decide)) (by decide) dX11_ticks_5 ?_
  refine lv_if_ne (tgt := 15) X.1 X.2.1 dX11_ticks_6 (by decide) (fun c6 => ?_) (fun c6 => ?_)
  · replace hf := k_ifN hf c6
    refine lv_aload_n X.1 X.2.1 dX11_ticks_15 rfl (lv_at hl 0 rfl) ?_
    obtain ⟨r16, hr16, hf⟩ := k_bdE hf
    refine k_backv X hS (k_runV (As := []) (rest := []) X hS hU sh_5_0 (by decide) rfl vl_X11_222 (c_X11_keeps X.2.2.2.2.2.2.1 (k_uc_s _ _ _) hr16) rfl rfl rfl hl.1 ⟨Nat.le_of_ble_eq_true rfl, Nat.le_of_ble_eq_true rfl⟩ (Nat.le_of_ble_eq_true rfl) dX11_ticks_16 ⟨Nat.zero_le _, Nat.zero_le _⟩) (fun H locs hU hS => ?_)
    rw [k_uc_uc] at hU
    refine lv_aload_n X.1 X.2.1 dX11_ticks_19 rfl (lv_at hl 0 rfl) ?_
    refine lv_iload_n X.1 X.2.1 dX11_ticks_20 rfl (lv_at hl 1 rfl) ?_
    refine lv_iconst (v := 0) X.1 X.2.1 dX11_ticks_21 (by decide) ?_
    obtain ⟨r22, hr22, hf⟩ := k_bdE hf
    refine k_backi X hS (k_runV (As := [.int a1, .int 0]) (rest := []) X hS hU sh_5_0 (by decide) rfl vl_X11_204 (c_X11_seconds X.2.2.2.2.2.2.1 (k_uc_s _ _ _) hr22) rfl rfl rfl hl.1 ⟨Nat.le_of_ble_eq_true rfl, Nat.le_of_ble_eq_true rfl⟩ (Nat.le_of_ble_eq_true rfl) dX11_ticks_22 ⟨Nat.zero_le _, Nat.zero_le _⟩) (fun H locs hU hS => ?_)
    rw [k_uc_uc] at hU
    have hz := Option.some.inj hf
    subst hz
    exact k_iret (v := r22.2) X hU hS hr hlk rfl rfl dX11_ticks_25
  · replace hf := k_ifP hf c6
    refine lv_aload_n X.1 X.2.1 dX11_ticks_9 rfl (lv_at hl 0 rfl) ?_
    refine lv_iconst (v := 1) X.1 X.2.1 dX11_ticks_10 (by decide) ?_
    obtain ⟨r11, hr11, hf⟩ := k_bdE hf
    refine k_backi X hS (k_runV (As := [.int 1]) (rest := []) X hS hU sh_5_0 (by decide) rfl vl_X11_219 (c_X11_refused X.2.2.2.2.2.2.1 (k_uc_s _ _ _) hr11) rfl rfl rfl hl.1 ⟨Nat.le_of_ble_eq_true rfl, Nat.le_of_ble_eq_true rfl⟩ (Nat.le_of_ble_eq_true rfl) dX11_ticks_11 ⟨Nat.zero_le _, Nat.zero_le _⟩) (fun H locs hU hS => ?_)
    rw [k_uc_uc] at hU
    have hz := Option.some.inj hf
    subst hz
    exact k_iret (v := r11.2) X hU hS hr hlk rfl rfl dX11_ticks_14
def rm_X11_tick : Room := { frames := 8, cells := 0, slots := 0, locals := 187 }
set_option maxRecDepth 100000 in
set_option maxHeartbeats 4000000 in
theorem c_X11_tick {l : Launch} {D : va_G} {G : Nat → ClassId} {ad : Nat → Nat → Nat} {u : k_U} (hI : k_ok ad) {w : k_M} (hw : u 5 = w) {a1 : Int32} {sz : Nat} {r : (k_M × Int32)} (hf : f_X11_tick w a1 = some r) : Met l yX11_tick (.code yX11_tick cX11_tick 2 (some .int) :: lw_g) rm_X11_tick (k_Pre D G ad u sz [.ref (ad 5 0), .int a1]) (k_Qi D G ad (k_uc u 5 r.1) r.2 sz) 0 0 (k_A ad sz) := by
  refine k_ofW (by decide +kernel) hI (Nat.le_of_ble_eq_true rfl) ?_
  intro p e s m args below meth c X hr hlk hU hS ls hl
  have hl : lv_has ls 2 [(0, .ref (ad 5 0)), (1, .int a1)] := hl
  have hU : k_Uv D G ad (k_uc u 5 w) s.heap := by rw [← hw, k_uc_id]; exact hU
  have J22 : ∀ (H : Heap) (locs : List Loc) (ls : Array Slot) (w : k_M) (a1 : Int32) (as0 : Int32), k_Uv D G ad (k_uc u 5 w) H → va_S (k_A ad sz) s.heap H locs → lv_has ls 2 [(0, .ref (ad 5 0)), (1, .int a1)] → f_X11_tick_22 w a1 as0 = some r → W p l e rm_X11_tick s m args below meth c H locs 0 0 (MQ below (k_Qi D G ad (k_uc u 5 r.1) r.2 sz) args s 0 0 (k_A ad sz)) (F0 m 22 ls [.int as0, .ref (ad 5 0)]) := by
    intro H locs ls w a1 as0 hU hS hl hf
    unfold f_X11_tick_22 at hf
    refine lv_iconst (v := 1) X.1 X.2.1 dX11_tick_22 (by decide) ?_
    obtain ⟨r23, hr23, hf⟩ := k_bdE hf
    refine k_backi X hS (k_runV (As := [.int as0, .int 1]) (rest := []) X hS hU sh_5_0 (by decide) rfl vl_X11_61 (c_X11_throwsIf X.2.2.2.2.2.2.1 (k_uc_s _ _ _) hr23) rfl rfl rfl hl.1 ⟨Nat.le_of_ble_eq_true rfl, Nat.le_of_ble_eq_true rfl⟩ (Nat.le_of_ble_eq_true rfl) dX11_tick_23 ⟨Nat.zero_le _, Nat.zero_le _⟩) (fun H locs hU hS => ?_)
    rw [k_uc_uc] at hU
    refine lv_if_eq (tgt := 33) X.1 X.2.1 dX11_tick_26 (by decide) (fun c26 => ?_) (fun c26 => ?_)
    · replace hf := k_ifP hf c26
      refine lv_aload_n X.1 X.2.1 dX11_tick_33 rfl (lv_at hl 0 rfl) ?_
      refine lv_iload_n X.1 X.2.1 dX11_tick_34 rfl (lv_at hl 1 rfl) ?_
      obtain ⟨r35, hr35, hf⟩ := k_bdE hf
      refine k_backi X hS (k_runV (As := [.int a1]) (rest := []) X hS hU sh_5_0 (by decide) rfl vl_X11_225 (c_X11_ticks X.2.2.2.2.2.2.1 (k_uc_s _ _ _) hr35) rfl rfl rfl hl.1 ⟨Nat.le_of_ble_eq_true rfl, Nat.le_of_ble_eq_true rfl⟩ (Nat.le_of_ble_eq_true rfl) dX11_tick_35 ⟨Nat.zero_le _, Nat.zero_le _⟩) (fun H locs hU hS => ?_)
      rw [k_uc_uc] at hU
      have hz := Option.some.inj hf
      subst hz
      exact k_iret (v := r35.2) X hU hS hr hlk rfl rfl dX11_tick_38
    · replace hf := k_ifN hf c26
      refine lv_iconst (v := 0) X.1 X.2.1 dX11_tick_29 (by decide) ?_
      refine lv_goto (tgt := 38) X.1 X.2.1 dX11_tick_30 (by decide) ?_
      have hz := Option.some.inj hf
      subst hz
      exact k_iret (v := 0) X hU hS hr hlk rfl rfl dX11_tick_38
  unfold f_X11_tick at hf
  refine lv_aload_n X.1 X.2.1 dX11_tick_0 rfl (lv_at hl 0 rfl) ?_
  refine lv_iconst (v := 0) X.1 X.2.1 dX11_tick_1 (by decide) ?_
  obtain ⟨w2, e2, hf⟩ := k_ltE hf
  refine k_putw X hU hS sh_5_0 fp_X11_50 rfl e2 rfl rfl dX11_tick_2 (fun H locs hU hS => ?_)
  refine lv_aload_n X.1 X.2.1 dX11_tick_5 rfl (lv_at hl 0 rfl) ?_
  refine lv_iload_n X.1 X.2.1 dX11_tick_6 rfl (lv_at hl 1 rfl) ?_
  refine lv_iconst (v := 1) X.1 X.2.1 dX11_tick_7 (by decide) ?_
  refine lv_sipush (v := 200) X.1 X.2.1 dX11_tick_8 (by decide) ?_
  obtain ⟨r11, hr11, hf⟩ := k_bdE hf
  refine k_backi X hS (k_runS (As := [.int a1, .int 1, .int 200]) (rest := [.ref (ad 5 0)]) X hS hU sl_X11_57 (c_X11_within X.2.2.2.2.2.2.1 hr11) rfl rfl rfl hl.1 ⟨Nat.le_of_ble_eq_true rfl, Nat.le_of_ble_eq_true rfl⟩ (Nat.le_of_ble_eq_true rfl) dX11_tick_11 ⟨Nat.zero_le _, Nat.zero_le _⟩) (fun H locs hU hS => ?_)
  refine lv_if_ne (tgt := 21) X.1 X.2.1 dX11_tick_14 (by decide) (fun c14 => ?_) (fun c14 => ?_)
  · replace hf := k_ifN hf c14
    refine lv_iconst (v := 0) X.1 X.2.1 dX11_tick_21 (by decide) ?_
    exact J22 _ _ _ w2 a1 0 hU hS (lv_sub hl [0, 1] rfl) hf
  · replace hf := k_ifP hf c14
    refine lv_iconst (v := 1) X.1 X.2.1 dX11_tick_17 (by decide) ?_
    refine lv_goto (tgt := 22) X.1 X.2.1 dX11_tick_18 (by decide) ?_
    exact J22 _ _ _ w2 a1 1 hU hS (lv_sub hl [0, 1] rfl) hf
def rm_X11_falls : Room := { frames := 7, cells := 0, slots := 0, locals := 166 }
set_option maxRecDepth 100000 in
set_option maxHeartbeats 4000000 in
theorem c_X11_falls {l : Launch} {D : va_G} {G : Nat → ClassId} {ad : Nat → Nat → Nat} {u : k_U} (hI : k_ok ad) {w : k_M} (hw : u 5 = w) {a1 : Int32} {sz : Nat} {r : (k_M × Int32)} (hf : f_X11_falls w a1 = some r) : Met l yX11_falls (.code yX11_falls cX11_falls 2 (some .int) :: lw_g) rm_X11_falls (k_Pre D G ad u sz [.ref (ad 5 0), .int a1]) (k_Qi D G ad (k_uc u 5 r.1) r.2 sz) 0 0 (k_A ad sz) := by
  refine k_ofW (by decide +kernel) hI (Nat.le_of_ble_eq_true rfl) ?_
  intro p e s m args below meth c X hr hlk hU hS ls hl
  have hl : lv_has ls 2 [(0, .ref (ad 5 0)), (1, .int a1)] := hl
  have hU : k_Uv D G ad (k_uc u 5 w) s.heap := by rw [← hw, k_uc_id]; exact hU
  unfold f_X11_falls at hf
  refine lv_aload_n X.1 X.2.1 dX11_falls_0 rfl (lv_at hl 0 rfl) ?_
  refine k_getw (v := .ref (ad 5 1)) X hU sh_5_0 fl_X11_7 rfl dX11_falls_1 ?_
  refine lv_iconst (v := 0) X.1 X.2.1 dX11_falls_4 (by decide) ?_
  refine k_ildw (j0 := 0) X hU sh_5_1 (k_vin (N := 268) (by decide) (by decide)) (by decide) dX11_falls_5 ?_
  refine lv_if_ne (tgt := 15) X.1 X.2.1 dX11_falls_6 (by decide) (fun c6 => ?_) (fun c6 => ?_)
  · replace hf := k_ifN hf c6
    refine lv_aload_n X.1 X.2.1 dX11_falls_15 rfl (lv_at hl 0 rfl) ?_
    refine k_getw (v := .ref (ad 5 1)) X hU sh_5_0 fl_X11_7 rfl dX11_falls_16 ?_
    refine lv_iconst (v := 0) X.1 X.2.1 dX11_falls_19 (by decide) ?_
    refine k_ildw (j0 := 0) X hU sh_5_1 (k_vin (N := 268) (by decide) (by decide)) (by decide) dX11_falls_20 ?_
    refine lv_iload_n X.1 X.2.1 dX11_falls_21 rfl (lv_at hl 1 rfl) ?_
    refine lv_icmp_gt (tgt := 31) X.1 X.2.1 dX11_falls_22 (by decide) (fun c22 => ?_) (fun c22 => ?_)
    · replace hf := k_ifP hf c22
      refine lv_aload_n X.1 X.2.1 dX11_falls_31 rfl (lv_at hl 0 rfl) ?_
      obtain ⟨r32, hr32, hf⟩ := k_bdE hf
      refine k_backv X hS (k_runV (As := []) (rest := []) X hS hU sh_5_0 (by decide) rfl vl_X11_222 (c_X11_keeps X.2.2.2.2.2.2.1 (k_uc_s _ _ _) hr32) rfl rfl rfl hl.1 ⟨Nat.le_of_ble_eq_true rfl, Nat.le_of_ble_eq_true rfl⟩ (Nat.le_of_ble_eq_true rfl) dX11_falls_32 ⟨Nat.zero_le _, Nat.zero_le _⟩) (fun H locs hU hS => ?_)
      rw [k_uc_uc] at hU
      refine lv_aload_n X.1 X.2.1 dX11_falls_35 rfl (lv_at hl 0 rfl) ?_
      refine lv_sipush (v := 3000) X.1 X.2.1 dX11_falls_36 (by decide) ?_
      refine lv_iload_n X.1 X.2.1 dX11_falls_39 rfl (lv_at hl 1 rfl) ?_
      obtain ⟨r40, hr40, hf⟩ := k_bdE hf
      refine k_backi X hS (k_runV (As := [.int 3000, .int a1]) (rest := []) X hS hU sh_5_0 (by decide) rfl vl_X11_204 (c_X11_seconds X.2.2.2.2.2.2.1 (k_uc_s _ _ _) hr40) rfl rfl rfl hl.1 ⟨Nat.le_of_ble_eq_true rfl, Nat.le_of_ble_eq_true rfl⟩ (Nat.le_of_ble_eq_true rfl) dX11_falls_40 ⟨Nat.zero_le _, Nat.zero_le _⟩) (fun H locs hU hS => ?_)
      rw [k_uc_uc] at hU
      have hz := Option.some.inj hf
      subst hz
      exact k_iret (v := r40.2) X hU hS hr hlk rfl rfl dX11_falls_43
    · replace hf := k_ifN hf c22
      refine lv_aload_n X.1 X.2.1 dX11_falls_25 rfl (lv_at hl 0 rfl) ?_
      refine lv_iconst (v := 2) X.1 X.2.1 dX11_falls_26 (by decide) ?_
      obtain ⟨r27, hr27, hf⟩ := k_bdE hf
      refine k_backi X hS (k_runV (As := [.int 2]) (rest := []) X hS hU sh_5_0 (by decide) rfl vl_X11_219 (c_X11_refused X.2.2.2.2.2.2.1 (k_uc_s _ _ _) hr27) rfl rfl rfl hl.1 ⟨Nat.le_of_ble_eq_true rfl, Nat.le_of_ble_eq_true rfl⟩ (Nat.le_of_ble_eq_true rfl) dX11_falls_27 ⟨Nat.zero_le _, Nat.zero_le _⟩) (fun H locs hU hS => ?_)
      rw [k_uc_uc] at hU
      have hz := Option.some.inj hf
      subst hz
      exact k_iret (v := r27.2) X hU hS hr hlk rfl rfl dX11_falls_30
  · replace hf := k_ifP hf c6
    refine lv_aload_n X.1 X.2.1 dX11_falls_9 rfl (lv_at hl 0 rfl) ?_
    refine lv_iconst (v := 1) X.1 X.2.1 dX11_falls_10 (by decide) ?_
    obtain ⟨r11, hr11, hf⟩ := k_bdE hf
    refine k_backi X hS (k_runV (As := [.int 1]) (rest := []) X hS hU sh_5_0 (by decide) rfl vl_X11_219 (c_X11_refused X.2.2.2.2.2.2.1 (k_uc_s _ _ _) hr11) rfl rfl rfl hl.1 ⟨Nat.le_of_ble_eq_true rfl, Nat.le_of_ble_eq_true rfl⟩ (Nat.le_of_ble_eq_true rfl) dX11_falls_11 ⟨Nat.zero_le _, Nat.zero_le _⟩) (fun H locs hU hS => ?_)
    rw [k_uc_uc] at hU
    have hz := Option.some.inj hf
    subst hz
    exact k_iret (v := r11.2) X hU hS hr hlk rfl rfl dX11_falls_14
def rm_X11_fallTo : Room := { frames := 8, cells := 0, slots := 0, locals := 187 }
set_option maxRecDepth 100000 in
set_option maxHeartbeats 4000000 in
theorem c_X11_fallTo {l : Launch} {D : va_G} {G : Nat → ClassId} {ad : Nat → Nat → Nat} {u : k_U} (hI : k_ok ad) {w : k_M} (hw : u 5 = w) {a1 : Int32} {sz : Nat} {r : (k_M × Int32)} (hf : f_X11_fallTo w a1 = some r) : Met l yX11_fallTo (.code yX11_fallTo cX11_fallTo 2 (some .int) :: lw_g) rm_X11_fallTo (k_Pre D G ad u sz [.ref (ad 5 0), .int a1]) (k_Qi D G ad (k_uc u 5 r.1) r.2 sz) 0 0 (k_A ad sz) := by
  refine k_ofW (by decide +kernel) hI (Nat.le_of_ble_eq_true rfl) ?_
  intro p e s m args below meth c X hr hlk hU hS ls hl
  have hl : lv_has ls 2 [(0, .ref (ad 5 0)), (1, .int a1)] := hl
  have hU : k_Uv D G ad (k_uc u 5 w) s.heap := by rw [← hw, k_uc_id]; exact hU
  unfold f_X11_fallTo at hf
  refine lv_aload_n X.1 X.2.1 dX11_fallTo_0 rfl (lv_at hl 0 rfl) ?_
  refine lv_iload_n X.1 X.2.1 dX11_fallTo_1 rfl (lv_at hl 1 rfl) ?_
  refine lv_sipush (v := 30000) X.1 X.2.1 dX11_fallTo_2 (by decide) ?_
  obtain ⟨r5, hr5, hf⟩ := k_bdE hf
  refine k_backi X hS (k_runV (As := [.int a1, .int 30000]) (rest := []) X hS hU sh_5_0 (by decide) rfl vl_X11_170 (c_X11_noPart X.2.2.2.2.2.2.1 (k_uc_s _ _ _) hr5) rfl rfl rfl hl.1 ⟨Nat.le_of_ble_eq_true rfl, Nat.le_of_ble_eq_true rfl⟩ (Nat.le_of_ble_eq_true rfl) dX11_fallTo_5 ⟨Nat.zero_le _, Nat.zero_le _⟩) (fun H locs hU hS => ?_)
  rw [k_uc_uc] at hU
  refine lv_if_eq (tgt := 15) X.1 X.2.1 dX11_fallTo_8 (by decide) (fun c8 => ?_) (fun c8 => ?_)
  · replace hf := k_ifP hf c8
    refine lv_aload_n X.1 X.2.1 dX11_fallTo_15 rfl (lv_at hl 0 rfl) ?_
    refine lv_iload_n X.1 X.2.1 dX11_fallTo_16 rfl (lv_at hl 1 rfl) ?_
    obtain ⟨r17, hr17, hf⟩ := k_bdE hf
    refine k_backi X hS (k_runV (As := [.int a1]) (rest := []) X hS hU sh_5_0 (by decide) rfl vl_X11_228 (c_X11_falls X.2.2.2.2.2.2.1 (k_uc_s _ _ _) hr17) rfl rfl rfl hl.1 ⟨Nat.le_of_ble_eq_true rfl, Nat.le_of_ble_eq_true rfl⟩ (Nat.le_of_ble_eq_true rfl) dX11_fallTo_17 ⟨Nat.zero_le _, Nat.zero_le _⟩) (fun H locs hU hS => ?_)
    rw [k_uc_uc] at hU
    have hz := Option.some.inj hf
    subst hz
    exact k_iret (v := r17.2) X hU hS hr hlk rfl rfl dX11_fallTo_20
  · replace hf := k_ifN hf c8
    refine lv_iconst (v := 0) X.1 X.2.1 dX11_fallTo_11 (by decide) ?_
    refine lv_goto (tgt := 20) X.1 X.2.1 dX11_fallTo_12 (by decide) ?_
    have hz := Option.some.inj hf
    subst hz
    exact k_iret (v := 0) X hU hS hr hlk rfl rfl dX11_fallTo_20
def rm_X11_opensIt : Room := { frames := 2, cells := 0, slots := 0, locals := 45 }
set_option maxRecDepth 100000 in
set_option maxHeartbeats 4000000 in
theorem c_X11_opensIt {l : Launch} {D : va_G} {G : Nat → ClassId} {ad : Nat → Nat → Nat} {u : k_U} (hI : k_ok ad) {w : k_M} (hw : u 5 = w) {a1 : Int32} {sz : Nat} {r : (k_M × Int32)} (hf : f_X11_opensIt w a1 = some r) : Met l yX11_opensIt (.code yX11_opensIt cX11_opensIt 3 (some .int) :: lw_g) rm_X11_opensIt (k_Pre D G ad u sz [.ref (ad 5 0), .int a1]) (k_Qi D G ad (k_uc u 5 r.1) r.2 sz) 0 0 (k_A ad sz) := by
  refine k_ofW (by decide +kernel) hI (Nat.le_of_ble_eq_true rfl) ?_
  intro p e s m args below meth c X hr hlk hU hS ls hl
  have hl : lv_has ls 3 [(0, .ref (ad 5 0)), (1, .int a1)] := hl
  have hU : k_Uv D G ad (k_uc u 5 w) s.heap := by rw [← hw, k_uc_id]; exact hU
  have J74 : ∀ (H : Heap) (locs : List Loc) (ls : Array Slot) (w : k_M) (a1 : Int32) (as0 : Int32), k_Uv D G ad (k_uc u 5 w) H → va_S (k_A ad sz) s.heap H locs → lv_has ls 3 [(0, .ref (ad 5 0)), (1, .int a1)] → f_X11_opensIt_74 w a1 as0 = some r → W p l e rm_X11_opensIt s m args below meth c H locs 0 0 (MQ below (k_Qi D G ad (k_uc u 5 r.1) r.2 sz) args s 0 0 (k_A ad sz)) (F0 m 74 ls [.int as0]) := by
    intro H locs ls w a1 as0 hU hS hl hf
    unfold f_X11_opensIt_74 at hf
    refine lv_istore_n (lv' := [(2, .int as0), (0, .ref (ad 5 0)), (1, .int a1)]) X.1 X.2.1 dX11_opensIt_74 rfl hl (by decide) rfl (fun ls hl => ?_)
    refine lv_iload_n X.1 X.2.1 dX11_opensIt_75 rfl (lv_at hl 0 rfl) ?_
    refine lv_if_le (tgt := 85) X.1 X.2.1 dX11_opensIt_76 (by decide) (fun c76 => ?_) (fun c76 => ?_)
    · replace hf := k_ifP hf c76
      refine lv_aload_n X.1 X.2.1 dX11_opensIt_85 rfl (lv_at hl 1 rfl) ?_
      obtain ⟨r86, hr86, hf⟩ := k_bdE hf
      refine k_backv X hS (k_runV (As := []) (rest := []) X hS hU sh_5_0 (by decide) rfl vl_X11_222 (c_X11_keeps X.2.2.2.2.2.2.1 (k_uc_s _ _ _) hr86) rfl rfl rfl hl.1 ⟨Nat.le_of_ble_eq_true rfl, Nat.le_of_ble_eq_true rfl⟩ (Nat.le_of_ble_eq_true rfl) dX11_opensIt_86 ⟨Nat.zero_le _, Nat.zero_le _⟩) (fun H locs hU hS => ?_)
      rw [k_uc_uc] at hU
      refine lv_aload_n X.1 X.2.1 dX11_opensIt_89 rfl (lv_at hl 1 rfl) ?_
      refine lv_iload_n X.1 X.2.1 dX11_opensIt_90 rfl (lv_at hl 2 rfl) ?_
      obtain ⟨r91, hr91, hf⟩ := k_bdE hf
      refine k_backv X hS (k_runV (As := [.int a1]) (rest := []) X hS hU sh_5_0 (by decide) rfl vl_X11_125 (c_X11_opens X.2.2.2.2.2.2.1 (k_uc_s _ _ _) hr91) rfl rfl rfl hl.1 ⟨Nat.le_of_ble_eq_true rfl, Nat.le_of_ble_eq_true rfl⟩ (Nat.le_of_ble_eq_true rfl) dX11_opensIt_91 ⟨Nat.zero_le _, Nat.zero_le _⟩) (fun H locs hU hS => ?_)
      rw [k_uc_uc] at hU
      refine lv_aload_n X.1 X.2.1 dX11_opensIt_94 rfl (lv_at hl 1 rfl) ?_
      refine k_getw (v := .ref (ad 5 1)) X hU sh_5_0 fl_X11_7 rfl dX11_opensIt_95 ?_
      refine lv_bipush (v := 65) X.1 X.2.1 dX11_opensIt_98 (by decide) ?_
      refine lv_iload_n X.1 X.2.1 dX11_opensIt_100 rfl (lv_at hl 2 rfl) ?_
      refine lv_iadd X.1 X.2.1 dX11_opensIt_101 ?_
      obtain ⟨hi102, hf⟩ := k_ckE hf
      refine k_ildw (j0 := (65 + a1).toNatClampNeg) X hU sh_5_1 (k_vin (n := 268) hi102 (by decide)) rfl dX11_opensIt_102 ?_
      have hz := Option.some.inj hf
      subst hz
      exact k_iret (v := r91 1 ((65 + a1).toNatClampNeg)) X hU hS hr hlk rfl rfl dX11_opensIt_103
    · replace hf := k_ifN hf c76
      refine lv_aload_n X.1 X.2.1 dX11_opensIt_79 rfl (lv_at hl 1 rfl) ?_
      refine lv_iload_n X.1 X.2.1 dX11_opensIt_80 rfl (lv_at hl 0 rfl) ?_
      obtain ⟨r81, hr81, hf⟩ := k_bdE hf
      refine k_backi X hS (k_runV (As := [.int as0]) (rest := []) X hS hU sh_5_0 (by decide) rfl vl_X11_219 (c_X11_refused X.2.2.2.2.2.2.1 (k_uc_s _ _ _) hr81) rfl rfl rfl hl.1 ⟨Nat.le_of_ble_eq_true rfl, Nat.le_of_ble_eq_true rfl⟩ (Nat.le_of_ble_eq_true rfl) dX11_opensIt_81 ⟨Nat.zero_le _, Nat.zero_le _⟩) (fun H locs hU hS => ?_)
      rw [k_uc_uc] at hU
      have hz := Option.some.inj hf
      subst hz
      exact k_iret (v := r81.2) X hU hS hr hlk rfl rfl dX11_opensIt_84
  unfold f_X11_opensIt at hf
  refine lv_aload_n X.1 X.2.1 dX11_opensIt_0 rfl (lv_at hl 0 rfl) ?_
  refine k_getw (v := .ref (ad 5 1)) X hU sh_5_0 fl_X11_7 rfl dX11_opensIt_1 ?_
  refine lv_iconst (v := 0) X.1 X.2.1 dX11_opensIt_4 (by decide) ?_
  refine k_ildw (j0 := 0) X hU sh_5_1 (k_vin (N := 268) (by decide) (by decide)) (by decide) dX11_opensIt_5 ?_
  refine lv_if_ne (tgt := 13) X.1 X.2.1 dX11_opensIt_6 (by decide) (fun c6 => ?_) (fun c6 => ?_)
  · replace hf := k_ifN hf c6
    refine lv_aload_n X.1 X.2.1 dX11_opensIt_13 rfl (lv_at hl 0 rfl) ?_
    refine k_getw (v := .ref (ad 5 1)) X hU sh_5_0 fl_X11_7 rfl dX11_opensIt_14 ?_
    refine lv_bipush (v := 65) X.1 X.2.1 dX11_opensIt_17 (by decide) ?_
    refine lv_iload_n X.1 X.2.1 dX11_opensIt_19 rfl (lv_at hl 1 rfl) ?_
    refine lv_iadd X.1 X.2.1 dX11_opensIt_20 ?_
    obtain ⟨hi21, hf⟩ := k_ckE hf
    refine k_ildw (j0 := (65 + a1).toNatClampNeg) X hU sh_5_1 (k_vin (n := 268) hi21 (by decide)) rfl dX11_opensIt_21 ?_
    refine lv_if_eq (tgt := 29) X.1 X.2.1 dX11_opensIt_22 (by decide) (fun c22 => ?_) (fun c22 => ?_)
    · replace hf := k_ifP hf c22
      refine lv_aload_n X.1 X.2.1 dX11_opensIt_29 rfl (lv_at hl 0 rfl) ?_
      refine k_getw (v := .ref (ad 5 1)) X hU sh_5_0 fl_X11_7 rfl dX11_opensIt_30 ?_
      refine lv_iconst (v := 0) X.1 X.2.1 dX11_opensIt_33 (by decide) ?_
      refine k_ildw (j0 := 0) X hU sh_5_1 (k_vin (N := 268) (by decide) (by decide)) (by decide) dX11_opensIt_34 ?_
      refine lv_aload_n X.1 X.2.1 dX11_opensIt_35 rfl (lv_at hl 0 rfl) ?_
      refine k_getw (v := .ref (ad 5 1)) X hU sh_5_0 fl_X11_7 rfl dX11_opensIt_36 ?_
      refine lv_bipush (v := 47) X.1 X.2.1 dX11_opensIt_39 (by decide) ?_
      refine lv_iload_n X.1 X.2.1 dX11_opensIt_41 rfl (lv_at hl 1 rfl) ?_
      refine lv_iadd X.1 X.2.1 dX11_opensIt_42 ?_
      obtain ⟨hi43, hf⟩ := k_ckE hf
      refine k_ildw (j0 := (47 + a1).toNatClampNeg) X hU sh_5_1 (k_vin (n := 268) hi43 (by decide)) rfl dX11_opensIt_43 ?_
      refine lv_icmp_le (tgt := 51) X.1 X.2.1 dX11_opensIt_44 (by decide) (fun c44 => ?_) (fun c44 => ?_)
      · replace hf := k_ifP hf c44
        refine lv_aload_n X.1 X.2.1 dX11_opensIt_51 rfl (lv_at hl 0 rfl) ?_
        refine k_getw (v := .ref (ad 5 1)) X hU sh_5_0 fl_X11_7 rfl dX11_opensIt_52 ?_
        refine lv_iconst (v := 1) X.1 X.2.1 dX11_opensIt_55 (by decide) ?_
        refine k_ildw (j0 := 1) X hU sh_5_1 (k_vin (N := 268) (by decide) (by decide)) (by decide) dX11_opensIt_56 ?_
        refine lv_aload_n X.1 X.2.1 dX11_opensIt_57 rfl (lv_at hl 0 rfl) ?_
        refine k_getw (v := .ref (ad 5 1)) X hU sh_5_0 fl_X11_7 rfl dX11_opensIt_58 ?_
        refine lv_bipush (v := 56) X.1 X.2.1 dX11_opensIt_61 (by decide) ?_
        refine lv_iload_n X.1 X.2.1 dX11_opensIt_63 rfl (lv_at hl 1 rfl) ?_
        refine lv_iadd X.1 X.2.1 dX11_opensIt_64 ?_
        obtain ⟨hi65, hf⟩ := k_ckE hf
        refine k_ildw (j0 := (56 + a1).toNatClampNeg) X hU sh_5_1 (k_vin (n := 268) hi65 (by decide)) rfl dX11_opensIt_65 ?_
        refine lv_icmp_le (tgt := 73) X.1 X.2.1 dX11_opensIt_66 (by decide) (fun c66 => ?_) (fun c66 => ?_)
        · replace hf := k_ifP hf c66
          refine lv_iconst (v := 0) X.1 X.2.1 dX11_opensIt_73 (by decide) ?_
          exact J74 _ _ _ w a1 0 hU hS (lv_sub hl [0, 1] rfl) hf
        · replace hf := k_ifN hf c66
          refine lv_iconst (v := 5) X.1 X.2.1 dX11_opensIt_69 (by decide) ?_
          refine lv_goto (tgt := 74) X.1 X.2.1 dX11_opensIt_70 (by decide) ?_
          exact J74 _ _ _ w a1 5 hU hS (lv_sub hl [0, 1] rfl) hf
      · replace hf := k_ifN hf c44
        refine lv_iconst (v := 4) X.1 X.2.1 dX11_opensIt_47 (by decide) ?_
        refine lv_goto (tgt := 74) X.1 X.2.1 dX11_opensIt_48 (by decide) ?_
        exact J74 _ _ _ w a1 4 hU hS (lv_sub hl [0, 1] rfl) hf
    · replace hf := k_ifN hf c22
      refine lv_iconst (v := 3) X.1 X.2.1 dX11_opensIt_25 (by decide) ?_
      refine lv_goto (tgt := 74) X.1 X.2.1 dX11_opensIt_26 (by decide) ?_
      exact J74 _ _ _ w a1 3 hU hS (lv_sub hl [0, 1] rfl) hf
  · replace hf := k_ifP hf c6
    refine lv_iconst (v := 1) X.1 X.2.1 dX11_opensIt_9 (by decide) ?_
    refine lv_goto (tgt := 74) X.1 X.2.1 dX11_opensIt_10 (by decide) ?_
    exact J74 _ _ _ w a1 1 hU hS (lv_sub hl [0, 1] rfl) hf
def rm_X11_open : Room := { frames := 3, cells := 0, slots := 0, locals := 67 }
set_option maxRecDepth 100000 in
set_option maxHeartbeats 4000000 in
theorem c_X11_open {l : Launch} {D : va_G} {G : Nat → ClassId} {ad : Nat → Nat → Nat} {u : k_U} (hI : k_ok ad) {w : k_M} (hw : u 5 = w) {a1 : Int32} {sz : Nat} {r : (k_M × Int32)} (hf : f_X11_open w a1 = some r) : Met l yX11_open (.code yX11_open cX11_open 2 (some .int) :: lw_g) rm_X11_open (k_Pre D G ad u sz [.ref (ad 5 0), .int a1]) (k_Qi D G ad (k_uc u 5 r.1) r.2 sz) 0 0 (k_A ad sz) := by
  refine k_ofW (by decide +kernel) hI (Nat.le_of_ble_eq_true rfl) ?_
  intro p e s m args below meth c X hr hlk hU hS ls hl
  have hl : lv_has ls 2 [(0, .ref (ad 5 0)), (1, .int a1)] := hl
  have hU : k_Uv D G ad (k_uc u 5 w) s.heap := by rw [← hw, k_uc_id]; exact hU
  unfold f_X11_open at hf
  refine lv_aload_n X.1 X.2.1 dX11_open_0 rfl (lv_at hl 0 rfl) ?_
  refine lv_iconst (v := 0) X.1 X.2.1 dX11_open_1 (by decide) ?_
  obtain ⟨w2, e2, hf⟩ := k_ltE hf
  refine k_putw X hU hS sh_5_0 fp_X11_50 rfl e2 rfl rfl dX11_open_2 (fun H locs hU hS => ?_)
  refine lv_aload_n X.1 X.2.1 dX11_open_5 rfl (lv_at hl 0 rfl) ?_
  refine lv_iload_n X.1 X.2.1 dX11_open_6 rfl (lv_at hl 1 rfl) ?_
  obtain ⟨r7, hr7, hf⟩ := k_bdE hf
  refine k_backi X hS (k_runV (As := [.int a1]) (rest := []) X hS hU sh_5_0 (by decide) rfl vl_X11_194 (c_X11_noLayer X.2.2.2.2.2.2.1 (k_uc_s _ _ _) hr7) rfl rfl rfl hl.1 ⟨Nat.le_of_ble_eq_true rfl, Nat.le_of_ble_eq_true rfl⟩ (Nat.le_of_ble_eq_true rfl) dX11_open_7 ⟨Nat.zero_le _, Nat.zero_le _⟩) (fun H locs hU hS => ?_)
  rw [k_uc_uc] at hU
  refine lv_if_eq (tgt := 17) X.1 X.2.1 dX11_open_10 (by decide) (fun c10 => ?_) (fun c10 => ?_)
  · replace hf := k_ifP hf c10
    refine lv_aload_n X.1 X.2.1 dX11_open_17 rfl (lv_at hl 0 rfl) ?_
    refine lv_iload_n X.1 X.2.1 dX11_open_18 rfl (lv_at hl 1 rfl) ?_
    obtain ⟨r19, hr19, hf⟩ := k_bdE hf
    refine k_backi X hS (k_runV (As := [.int a1]) (rest := []) X hS hU sh_5_0 (by decide) rfl vl_X11_231 (c_X11_opensIt X.2.2.2.2.2.2.1 (k_uc_s _ _ _) hr19) rfl rfl rfl hl.1 ⟨Nat.le_of_ble_eq_true rfl, Nat.le_of_ble_eq_true rfl⟩ (Nat.le_of_ble_eq_true rfl) dX11_open_19 ⟨Nat.zero_le _, Nat.zero_le _⟩) (fun H locs hU hS => ?_)
    rw [k_uc_uc] at hU
    have hz := Option.some.inj hf
    subst hz
    exact k_iret (v := r19.2) X hU hS hr hlk rfl rfl dX11_open_22
  · replace hf := k_ifN hf c10
    refine lv_iconst (v := 0) X.1 X.2.1 dX11_open_13 (by decide) ?_
    refine lv_goto (tgt := 22) X.1 X.2.1 dX11_open_14 (by decide) ?_
    have hz := Option.some.inj hf
    subst hz
    exact k_iret (v := 0) X hU hS hr hlk rfl rfl dX11_open_22
def rm_X11_openReserve : Room := { frames := 2, cells := 0, slots := 0, locals := 45 }
set_option maxRecDepth 100000 in
set_option maxHeartbeats 4000000 in
theorem c_X11_openReserve {l : Launch} {D : va_G} {G : Nat → ClassId} {ad : Nat → Nat → Nat} {u : k_U} (hI : k_ok ad) {w : k_M} (hw : u 5 = w) {sz : Nat} {r : (k_M × Int32)} (hf : f_X11_openReserve w = some r) : Met l yX11_openReserve (.code yX11_openReserve cX11_openReserve 2 (some .int) :: lw_g) rm_X11_openReserve (k_Pre D G ad u sz [.ref (ad 5 0)]) (k_Qi D G ad (k_uc u 5 r.1) r.2 sz) 0 0 (k_A ad sz) := by
  refine k_ofW (by decide +kernel) hI (Nat.le_of_ble_eq_true rfl) ?_
  intro p e s m args below meth c X hr hlk hU hS ls hl
  have hl : lv_has ls 2 [(0, .ref (ad 5 0))] := hl
  have hU : k_Uv D G ad (k_uc u 5 w) s.heap := by rw [← hw, k_uc_id]; exact hU
  have J95 : ∀ (H : Heap) (locs : List Loc) (ls : Array Slot) (w : k_M) (as0 : Int32), k_Uv D G ad (k_uc u 5 w) H → va_S (k_A ad sz) s.heap H locs → lv_has ls 2 [(0, .ref (ad 5 0))] → f_X11_openReserve_95 w as0 = some r → W p l e rm_X11_openReserve s m args below meth c H locs 0 0 (MQ below (k_Qi D G ad (k_uc u 5 r.1) r.2 sz) args s 0 0 (k_A ad sz)) (F0 m 95 ls [.int as0]) := by
    intro H locs ls w as0 hU hS hl hf
    unfold f_X11_openReserve_95 at hf
    refine lv_istore_n (lv' := [(1, .int as0), (0, .ref (ad 5 0))]) X.1 X.2.1 dX11_openReserve_95 rfl hl (by decide) rfl (fun ls hl => ?_)
    refine lv_iload_n X.1 X.2.1 dX11_openReserve_96 rfl (lv_at hl 0 rfl) ?_
    refine lv_if_le (tgt := 106) X.1 X.2.1 dX11_openReserve_97 (by decide) (fun c97 => ?_) (fun c97 => ?_)
    · replace hf := k_ifP hf c97
      refine lv_aload_n X.1 X.2.1 dX11_openReserve_106 rfl (lv_at hl 1 rfl) ?_
      obtain ⟨r107, hr107, hf⟩ := k_bdE hf
      refine k_backv X hS (k_runV (As := []) (rest := []) X hS hU sh_5_0 (by decide) rfl vl_X11_222 (c_X11_keeps X.2.2.2.2.2.2.1 (k_uc_s _ _ _) hr107) rfl rfl rfl hl.1 ⟨Nat.le_of_ble_eq_true rfl, Nat.le_of_ble_eq_true rfl⟩ (Nat.le_of_ble_eq_true rfl) dX11_openReserve_107 ⟨Nat.zero_le _, Nat.zero_le _⟩) (fun H locs hU hS => ?_)
      rw [k_uc_uc] at hU
      refine lv_aload_n X.1 X.2.1 dX11_openReserve_110 rfl (lv_at hl 1 rfl) ?_
      obtain ⟨r111, hr111, hf⟩ := k_bdE hf
      refine k_backv X hS (k_runV (As := []) (rest := []) X hS hU sh_5_0 (by decide) rfl vl_X11_133 (c_X11_opensReserve X.2.2.2.2.2.2.1 (k_uc_s _ _ _) hr111) rfl rfl rfl hl.1 ⟨Nat.le_of_ble_eq_true rfl, Nat.le_of_ble_eq_true rfl⟩ (Nat.le_of_ble_eq_true rfl) dX11_openReserve_111 ⟨Nat.zero_le _, Nat.zero_le _⟩) (fun H locs hU hS => ?_)
      rw [k_uc_uc] at hU
      refine lv_aload_n X.1 X.2.1 dX11_openReserve_114 rfl (lv_at hl 1 rfl) ?_
      obtain ⟨r115, hr115, hf⟩ := k_bdE hf
      refine k_backi X hS (k_runV (As := []) (rest := []) X hS hU sh_5_0 (by decide) rfl vl_X11_72 (c_X11_failed X.2.2.2.2.2.2.1 (k_uc_s _ _ _) hr115) rfl rfl rfl hl.1 ⟨Nat.le_of_ble_eq_true rfl, Nat.le_of_ble_eq_true rfl⟩ (Nat.le_of_ble_eq_true rfl) dX11_openReserve_115 ⟨Nat.zero_le _, Nat.zero_le _⟩) (fun H locs hU hS => ?_)
      have hz := Option.some.inj hf
      subst hz
      exact k_iret (v := r115) X hU hS hr hlk rfl rfl dX11_openReserve_118
    · replace hf := k_ifN hf c97
      refine lv_aload_n X.1 X.2.1 dX11_openReserve_100 rfl (lv_at hl 1 rfl) ?_
      refine lv_iload_n X.1 X.2.1 dX11_openReserve_101 rfl (lv_at hl 0 rfl) ?_
      obtain ⟨r102, hr102, hf⟩ := k_bdE hf
      refine k_backi X hS (k_runV (As := [.int as0]) (rest := []) X hS hU sh_5_0 (by decide) rfl vl_X11_219 (c_X11_refused X.2.2.2.2.2.2.1 (k_uc_s _ _ _) hr102) rfl rfl rfl hl.1 ⟨Nat.le_of_ble_eq_true rfl, Nat.le_of_ble_eq_true rfl⟩ (Nat.le_of_ble_eq_true rfl) dX11_openReserve_102 ⟨Nat.zero_le _, Nat.zero_le _⟩) (fun H locs hU hS => ?_)
      rw [k_uc_uc] at hU
      have hz := Option.some.inj hf
      subst hz
      exact k_iret (v := r102.2) X hU hS hr hlk rfl rfl dX11_openReserve_105
  have J38 : ∀ (H : Heap) (locs : List Loc) (ls : Array Slot) (w : k_M), k_Uv D G ad (k_uc u 5 w) H → va_S (k_A ad sz) s.heap H locs → lv_has ls 2 [(0, .ref (ad 5 0))] → f_X11_openReserve_38 w = some r → W p l e rm_X11_openReserve s m args below meth c H locs 0 0 (MQ below (k_Qi D G ad (k_uc u 5 r.1) r.2 sz) args s 0 0 (k_A ad sz)) (F0 m 38 ls []) := by
    intro H locs ls w hU hS hl hf
    unfold f_X11_openReserve_38 at hf
    refine lv_iconst (v := 3) X.1 X.2.1 dX11_openReserve_38 (by decide) ?_
    refine lv_goto (tgt := 95) X.1 X.2.1 dX11_openReserve_39 (by decide) ?_
    exact J95 _ _ _ w 3 hU hS (lv_sub hl [0] rfl) hf
  unfold f_X11_openReserve at hf
  refine lv_aload_n X.1 X.2.1 dX11_openReserve_0 rfl (lv_at hl 0 rfl) ?_
  refine lv_iconst (v := 0) X.1 X.2.1 dX11_openReserve_1 (by decide) ?_
  obtain ⟨w2, e2, hf⟩ := k_ltE hf
  refine k_putw X hU hS sh_5_0 fp_X11_50 rfl e2 rfl rfl dX11_openReserve_2 (fun H locs hU hS => ?_)
  refine lv_aload_n X.1 X.2.1 dX11_openReserve_5 rfl (lv_at hl 0 rfl) ?_
  refine k_getw (v := .ref (ad 5 1)) X hU sh_5_0 fl_X11_7 rfl dX11_openReserve_6 ?_
  refine lv_iconst (v := 0) X.1 X.2.1 dX11_openReserve_9 (by decide) ?_
  refine k_ildw (j0 := 0) X hU sh_5_1 (k_vin (N := 268) (by decide) (by decide)) (by decide) dX11_openReserve_10 ?_
  refine lv_if_ne (tgt := 18) X.1 X.2.1 dX11_openReserve_11 (by decide) (fun c11 => ?_) (fun c11 => ?_)
  · replace hf := k_ifN hf c11
    refine lv_aload_n X.1 X.2.1 dX11_openReserve_18 rfl (lv_at hl 0 rfl) ?_
    refine k_getw (v := .ref (ad 5 1)) X hU sh_5_0 fl_X11_7 rfl dX11_openReserve_19 ?_
    refine lv_bipush (v := 9) X.1 X.2.1 dX11_openReserve_22 (by decide) ?_
    refine k_ildw (j0 := 9) X hU sh_5_1 (k_vin (N := 268) (by decide) (by decide)) (by decide) dX11_openReserve_24 ?_
    refine lv_if_eq (tgt := 38) X.1 X.2.1 dX11_openReserve_25 (by decide) (fun c25 => ?_) (fun c25 => ?_)
    · replace hf := k_ifP hf c25
      exact J38 _ _ _ w2 hU hS (lv_sub hl [0] rfl) hf
    · replace hf := k_ifN hf c25
      refine lv_aload_n X.1 X.2.1 dX11_openReserve_28 rfl (lv_at hl 0 rfl) ?_
      refine k_getw (v := .ref (ad 5 1)) X hU sh_5_0 fl_X11_7 rfl dX11_openReserve_29 ?_
      refine lv_bipush (v := 73) X.1 X.2.1 dX11_openReserve_32 (by decide) ?_
      refine k_ildw (j0 := 73) X hU sh_5_1 (k_vin (N := 268) (by decide) (by decide)) (by decide) dX11_openReserve_34 ?_
      refine lv_if_eq (tgt := 42) X.1 X.2.1 dX11_openReserve_35 (by decide) (fun c35 => ?_) (fun c35 => ?_)
      · replace hf := k_ifP hf c35
        refine lv_aload_n X.1 X.2.1 dX11_openReserve_42 rfl (lv_at hl 0 rfl) ?_
        refine k_getw (v := .ref (ad 5 1)) X hU sh_5_0 fl_X11_7 rfl dX11_openReserve_43 ?_
        refine lv_iconst (v := 0) X.1 X.2.1 dX11_openReserve_46 (by decide) ?_
        refine k_ildw (j0 := 0) X hU sh_5_1 (k_vin (N := 268) (by decide) (by decide)) (by decide) dX11_openReserve_47 ?_
        refine lv_aload_n X.1 X.2.1 dX11_openReserve_48 rfl (lv_at hl 0 rfl) ?_
        refine k_getw (v := .ref (ad 5 1)) X hU sh_5_0 fl_X11_7 rfl dX11_openReserve_49 ?_
        refine lv_bipush (v := 55) X.1 X.2.1 dX11_openReserve_52 (by decide) ?_
        refine k_ildw (j0 := 55) X hU sh_5_1 (k_vin (N := 268) (by decide) (by decide)) (by decide) dX11_openReserve_54 ?_
        refine lv_icmp_le (tgt := 62) X.1 X.2.1 dX11_openReserve_55 (by decide) (fun c55 => ?_) (fun c55 => ?_)
        · replace hf := k_ifP hf c55
          refine lv_aload_n X.1 X.2.1 dX11_openReserve_62 rfl (lv_at hl 0 rfl) ?_
          obtain ⟨r63, hr63, hf⟩ := k_bdE hf
          refine k_backi X hS (k_runV (As := []) (rest := []) X hS hU sh_5_0 (by decide) rfl vl_X11_72 (c_X11_failed X.2.2.2.2.2.2.1 (k_uc_s _ _ _) hr63) rfl rfl rfl hl.1 ⟨Nat.le_of_ble_eq_true rfl, Nat.le_of_ble_eq_true rfl⟩ (Nat.le_of_ble_eq_true rfl) dX11_openReserve_63 ⟨Nat.zero_le _, Nat.zero_le _⟩) (fun H locs hU hS => ?_)
          refine lv_aload_n X.1 X.2.1 dX11_openReserve_66 rfl (lv_at hl 0 rfl) ?_
          refine k_getw (v := .ref (ad 5 1)) X hU sh_5_0 fl_X11_7 rfl dX11_openReserve_67 ?_
          refine lv_bipush (v := 64) X.1 X.2.1 dX11_openReserve_70 (by decide) ?_
          refine k_ildw (j0 := 64) X hU sh_5_1 (k_vin (N := 268) (by decide) (by decide)) (by decide) dX11_openReserve_72 ?_
          refine lv_icmp_ge (tgt := 81) X.1 X.2.1 dX11_openReserve_73 (by decide) (fun c73 => ?_) (fun c73 => ?_)
          · replace hf := k_ifP hf c73
            refine lv_aload_n X.1 X.2.1 dX11_openReserve_81 rfl (lv_at hl 0 rfl) ?_
            obtain ⟨r82, hr82, hf⟩ := k_bdE hf
            refine k_backi X hS (k_runV (As := []) (rest := []) X hS hU sh_5_0 (by decide) rfl vl_X11_75 (c_X11_firstThatMay X.2.2.2.2.2.2.1 (k_uc_s _ _ _) hr82) rfl rfl rfl hl.1 ⟨Nat.le_of_ble_eq_true rfl, Nat.le_of_ble_eq_true rfl⟩ (Nat.le_of_ble_eq_true rfl) dX11_openReserve_82 ⟨Nat.zero_le _, Nat.zero_le _⟩) (fun H locs hU hS => ?_)
            refine lv_iconst (v := (-1)) X.1 X.2.1 dX11_openReserve_85 (by decide) ?_
            refine lv_icmp_eq (tgt := 94) X.1 X.2.1 dX11_openReserve_86 (by decide) (fun c86 => ?_) (fun c86 => ?_)
            · replace hf := k_ifP hf c86
              refine lv_iconst (v := 0) X.1 X.2.1 dX11_openReserve_94 (by decide) ?_
              exact J95 _ _ _ w2 0 hU hS (lv_sub hl [0] rfl) hf
            · replace hf := k_ifN hf c86
              refine lv_bipush (v := 7) X.1 X.2.1 dX11_openReserve_89 (by decide) ?_
              refine lv_goto (tgt := 95) X.1 X.2.1 dX11_openReserve_91 (by decide) ?_
              exact J95 _ _ _ w2 7 hU hS (lv_sub hl [0] rfl) hf
          · replace hf := k_ifN hf c73
            refine lv_bipush (v := 6) X.1 X.2.1 dX11_openReserve_76 (by decide) ?_
            refine lv_goto (tgt := 95) X.1 X.2.1 dX11_openReserve_78 (by decide) ?_
            exact J95 _ _ _ w2 6 hU hS (lv_sub hl [0] rfl) hf
        · replace hf := k_ifN hf c55
          refine lv_iconst (v := 4) X.1 X.2.1 dX11_openReserve_58 (by decide) ?_
          refine lv_goto (tgt := 95) X.1 X.2.1 dX11_openReserve_59 (by decide) ?_
          exact J95 _ _ _ w2 4 hU hS (lv_sub hl [0] rfl) hf
      · replace hf := k_ifN hf c35
        exact J38 _ _ _ w2 hU hS (lv_sub hl [0] rfl) hf
  · replace hf := k_ifP hf c11
    refine lv_iconst (v := 1) X.1 X.2.1 dX11_openReserve_14 (by decide) ?_
    refine lv_goto (tgt := 95) X.1 X.2.1 dX11_openReserve_15 (by decide) ?_
    exact J95 _ _ _ w2 1 hU hS (lv_sub hl [0] rfl) hf
def rm_X11_cuts : Room := { frames := 2, cells := 0, slots := 0, locals := 45 }
set_option maxRecDepth 100000 in
set_option maxHeartbeats 4000000 in
theorem c_X11_cuts {l : Launch} {D : va_G} {G : Nat → ClassId} {ad : Nat → Nat → Nat} {u : k_U} (hI : k_ok ad) {w : k_M} (hw : u 5 = w) {a1 : Int32} {sz : Nat} {r : (k_M × Int32)} (hf : f_X11_cuts w a1 = some r) : Met l yX11_cuts (.code yX11_cuts cX11_cuts 4 (some .int) :: lw_g) rm_X11_cuts (k_Pre D G ad u sz [.ref (ad 5 0), .int a1]) (k_Qi D G ad (k_uc u 5 r.1) r.2 sz) 0 0 (k_A ad sz) := by
  refine k_ofW (by decide +kernel) hI (Nat.le_of_ble_eq_true rfl) ?_
  intro p e s m args below meth c X hr hlk hU hS ls hl
  have hl : lv_has ls 4 [(0, .ref (ad 5 0)), (1, .int a1)] := hl
  have hU : k_Uv D G ad (k_uc u 5 w) s.heap := by rw [← hw, k_uc_id]; exact hU
  unfold f_X11_cuts at hf
  refine lv_aload_n X.1 X.2.1 dX11_cuts_0 rfl (lv_at hl 0 rfl) ?_
  refine lv_iload_n X.1 X.2.1 dX11_cuts_1 rfl (lv_at hl 1 rfl) ?_
  obtain ⟨r2, hr2, hf⟩ := k_bdE hf
  refine k_backi X hS (k_runV (As := [.int a1]) (rest := []) X hS hU sh_5_0 (by decide) rfl vl_X11_188 (c_X11_placeOf X.2.2.2.2.2.2.1 (k_uc_s _ _ _) hr2) rfl rfl rfl hl.1 ⟨Nat.le_of_ble_eq_true rfl, Nat.le_of_ble_eq_true rfl⟩ (Nat.le_of_ble_eq_true rfl) dX11_cuts_2 ⟨Nat.zero_le _, Nat.zero_le _⟩) (fun H locs hU hS => ?_)
  refine lv_istore_n (lv' := [(2, .int r2), (0, .ref (ad 5 0)), (1, .int a1)]) X.1 X.2.1 dX11_cuts_5 rfl hl (by decide) rfl (fun ls hl => ?_)
  refine lv_aload_n X.1 X.2.1 dX11_cuts_6 rfl (lv_at hl 1 rfl) ?_
  refine k_getw (v := .ref (ad 5 1)) X hU sh_5_0 fl_X11_7 rfl dX11_cuts_7 ?_
  refine lv_iconst (v := 0) X.1 X.2.1 dX11_cuts_10 (by decide) ?_
  refine k_ildw (j0 := 0) X hU sh_5_1 (k_vin (N := 268) (by decide) (by decide)) (by decide) dX11_cuts_11 ?_
  refine lv_if_ne (tgt := 21) X.1 X.2.1 dX11_cuts_12 (by decide) (fun c12 => ?_) (fun c12 => ?_)
  · replace hf := k_ifN hf c12
    refine lv_aload_n X.1 X.2.1 dX11_cuts_21 rfl (lv_at hl 1 rfl) ?_
    refine k_getw (v := .ref (ad 5 1)) X hU sh_5_0 fl_X11_7 rfl dX11_cuts_22 ?_
    refine lv_bipush (v := 65) X.1 X.2.1 dX11_cuts_25 (by decide) ?_
    refine lv_iload_n X.1 X.2.1 dX11_cuts_27 rfl (lv_at hl 0 rfl) ?_
    refine lv_iadd X.1 X.2.1 dX11_cuts_28 ?_
    obtain ⟨hi29, hf⟩ := k_ckE hf
    refine k_ildw (j0 := (65 + r2).toNatClampNeg) X hU sh_5_1 (k_vin (n := 268) hi29 (by decide)) rfl dX11_cuts_29 ?_
    refine lv_iconst (v := 1) X.1 X.2.1 dX11_cuts_30 (by decide) ?_
    refine lv_icmp_eq (tgt := 41) X.1 X.2.1 dX11_cuts_31 (by decide) (fun c31 => ?_) (fun c31 => ?_)
    · replace hf := k_ifP hf c31
      refine lv_aload_n X.1 X.2.1 dX11_cuts_41 rfl (lv_at hl 1 rfl) ?_
      obtain ⟨r42, hr42, hf⟩ := k_bdE hf
      refine k_backv X hS (k_runV (As := []) (rest := []) X hS hU sh_5_0 (by decide) rfl vl_X11_222 (c_X11_keeps X.2.2.2.2.2.2.1 (k_uc_s _ _ _) hr42) rfl rfl rfl hl.1 ⟨Nat.le_of_ble_eq_true rfl, Nat.le_of_ble_eq_true rfl⟩ (Nat.le_of_ble_eq_true rfl) dX11_cuts_42 ⟨Nat.zero_le _, Nat.zero_le _⟩) (fun H locs hU hS => ?_)
      rw [k_uc_uc] at hU
      refine lv_aload_n X.1 X.2.1 dX11_cuts_45 rfl (lv_at hl 1 rfl) ?_
      refine k_getw (v := .ref (ad 5 1)) X hU sh_5_0 fl_X11_7 rfl dX11_cuts_46 ?_
      refine lv_bipush (v := 74) X.1 X.2.1 dX11_cuts_49 (by decide) ?_
      refine lv_iload_n X.1 X.2.1 dX11_cuts_51 rfl (lv_at hl 0 rfl) ?_
      refine lv_iadd X.1 X.2.1 dX11_cuts_52 ?_
      obtain ⟨hi53, hf⟩ := k_ckE hf
      refine k_ildw (j0 := (74 + r2).toNatClampNeg) X hU sh_5_1 (k_vin (n := 268) hi53 (by decide)) rfl dX11_cuts_53 ?_
      obtain ⟨r54, hr54, hf⟩ := k_bdE hf
      refine k_backi X hS (k_runS (As := [.int (r42 1 ((74 + r2).toNatClampNeg))]) (rest := []) X hS hU sl_X11_100 (c_X11_bits X.2.2.2.2.2.2.1 hr54) rfl rfl rfl hl.1 ⟨Nat.le_of_ble_eq_true rfl, Nat.le_of_ble_eq_true rfl⟩ (Nat.le_of_ble_eq_true rfl) dX11_cuts_54 ⟨Nat.zero_le _, Nat.zero_le _⟩) (fun H locs hU hS => ?_)
      refine lv_istore_n (lv' := [(3, .int r54), (2, .int r2), (0, .ref (ad 5 0)), (1, .int a1)]) X.1 X.2.1 dX11_cuts_57 rfl hl (by decide) rfl (fun ls hl => ?_)
      refine lv_aload_n X.1 X.2.1 dX11_cuts_58 rfl (lv_at hl 2 rfl) ?_
      refine k_getw (v := .ref (ad 5 1)) X hU sh_5_0 fl_X11_7 rfl dX11_cuts_59 ?_
      refine lv_bipush (v := 65) X.1 X.2.1 dX11_cuts_62 (by decide) ?_
      refine lv_iload_n X.1 X.2.1 dX11_cuts_64 rfl (lv_at hl 1 rfl) ?_
      refine lv_iadd X.1 X.2.1 dX11_cuts_65 ?_
      refine lv_iconst (v := 4) X.1 X.2.1 dX11_cuts_66 (by decide) ?_
      obtain ⟨hi67, hf⟩ := k_ckE hf
      obtain ⟨w67, e67, hf⟩ := k_ltE hf
      refine k_istw X hU hS sh_5_1 e67 (k_vin (n := 268) hi67 (by decide)) rfl dX11_cuts_67 (fun H locs hU hS => ?_)
      refine lv_aload_n X.1 X.2.1 dX11_cuts_68 rfl (lv_at hl 2 rfl) ?_
      refine k_getw (v := .ref (ad 5 1)) X hU sh_5_0 fl_X11_7 rfl dX11_cuts_69 ?_
      refine lv_bipush (v := 15) X.1 X.2.1 dX11_cuts_72 (by decide) ?_
      refine lv_dup2_11 X.1 X.2.1 dX11_cuts_74 rfl rfl ?_
      refine k_ildw (j0 := 15) X hU sh_5_1 (k_vin (N := 268) (by decide) (by decide)) (by decide) dX11_cuts_75 ?_
      refine lv_iload_n X.1 X.2.1 dX11_cuts_76 rfl (lv_at hl 0 rfl) ?_
      refine lv_iadd X.1 X.2.1 dX11_cuts_77 ?_
      obtain ⟨w78, e78, hf⟩ := k_ltE hf
      refine k_istw X hU hS sh_5_1 e78 (k_vin (N := 268) (by decide) (by decide)) (by decide) dX11_cuts_78 (fun H locs hU hS => ?_)
      refine lv_aload_n X.1 X.2.1 dX11_cuts_79 rfl (lv_at hl 2 rfl) ?_
      refine lv_iconst (v := 5) X.1 X.2.1 dX11_cuts_80 (by decide) ?_
      refine lv_iload_n X.1 X.2.1 dX11_cuts_81 rfl (lv_at hl 3 rfl) ?_
      refine lv_iload_n X.1 X.2.1 dX11_cuts_82 rfl (lv_at hl 0 rfl) ?_
      obtain ⟨r83, hr83, hf⟩ := k_bdE hf
      refine k_backv X hS (k_runV (As := [.int 5, .int a1, .int r54]) (rest := []) X hS hU sh_5_0 (by decide) rfl vl_X11_82 (c_X11_tells X.2.2.2.2.2.2.1 (k_uc_s _ _ _) hr83) rfl rfl rfl hl.1 ⟨Nat.le_of_ble_eq_true rfl, Nat.le_of_ble_eq_true rfl⟩ (Nat.le_of_ble_eq_true rfl) dX11_cuts_83 ⟨Nat.zero_le _, Nat.zero_le _⟩) (fun H locs hU hS => ?_)
      rw [k_uc_uc] at hU
      refine lv_aload_n X.1 X.2.1 dX11_cuts_86 rfl (lv_at hl 2 rfl) ?_
      refine lv_iconst (v := 1) X.1 X.2.1 dX11_cuts_87 (by decide) ?_
      obtain ⟨r88, hr88, hf⟩ := k_bdE hf
      refine k_backi X hS (k_runV (As := [.int 1]) (rest := []) X hS hU sh_5_0 (by decide) rfl vl_X11_173 (c_X11_inState X.2.2.2.2.2.2.1 (k_uc_s _ _ _) hr88) rfl rfl rfl hl.1 ⟨Nat.le_of_ble_eq_true rfl, Nat.le_of_ble_eq_true rfl⟩ (Nat.le_of_ble_eq_true rfl) dX11_cuts_88 ⟨Nat.zero_le _, Nat.zero_le _⟩) (fun H locs hU hS => ?_)
      have hz := Option.some.inj hf
      subst hz
      exact k_iret (v := r88) X hU hS hr hlk rfl rfl dX11_cuts_91
    · replace hf := k_ifN hf c31
      refine lv_aload_n X.1 X.2.1 dX11_cuts_34 rfl (lv_at hl 1 rfl) ?_
      refine lv_bipush (v := 8) X.1 X.2.1 dX11_cuts_35 (by decide) ?_
      obtain ⟨r37, hr37, hf⟩ := k_bdE hf
      refine k_backi X hS (k_runV (As := [.int 8]) (rest := []) X hS hU sh_5_0 (by decide) rfl vl_X11_219 (c_X11_refused X.2.2.2.2.2.2.1 (k_uc_s _ _ _) hr37) rfl rfl rfl hl.1 ⟨Nat.le_of_ble_eq_true rfl, Nat.le_of_ble_eq_true rfl⟩ (Nat.le_of_ble_eq_true rfl) dX11_cuts_37 ⟨Nat.zero_le _, Nat.zero_le _⟩) (fun H locs hU hS => ?_)
      rw [k_uc_uc] at hU
      have hz := Option.some.inj hf
      subst hz
      exact k_iret (v := r37.2) X hU hS hr hlk rfl rfl dX11_cuts_40
  · replace hf := k_ifP hf c12
    refine lv_aload_n X.1 X.2.1 dX11_cuts_15 rfl (lv_at hl 1 rfl) ?_
    refine lv_iconst (v := 1) X.1 X.2.1 dX11_cuts_16 (by decide) ?_
    obtain ⟨r17, hr17, hf⟩ := k_bdE hf
    refine k_backi X hS (k_runV (As := [.int 1]) (rest := []) X hS hU sh_5_0 (by decide) rfl vl_X11_219 (c_X11_refused X.2.2.2.2.2.2.1 (k_uc_s _ _ _) hr17) rfl rfl rfl hl.1 ⟨Nat.le_of_ble_eq_true rfl, Nat.le_of_ble_eq_true rfl⟩ (Nat.le_of_ble_eq_true rfl) dX11_cuts_17 ⟨Nat.zero_le _, Nat.zero_le _⟩) (fun H locs hU hS => ?_)
    rw [k_uc_uc] at hU
    have hz := Option.some.inj hf
    subst hz
    exact k_iret (v := r17.2) X hU hS hr hlk rfl rfl dX11_cuts_20
def rm_X11_cut : Room := { frames := 3, cells := 0, slots := 0, locals := 68 }
set_option maxRecDepth 100000 in
set_option maxHeartbeats 4000000 in
theorem c_X11_cut {l : Launch} {D : va_G} {G : Nat → ClassId} {ad : Nat → Nat → Nat} {u : k_U} (hI : k_ok ad) {w : k_M} (hw : u 5 = w) {a1 : Int32} {sz : Nat} {r : (k_M × Int32)} (hf : f_X11_cut w a1 = some r) : Met l yX11_cut (.code yX11_cut cX11_cut 2 (some .int) :: lw_g) rm_X11_cut (k_Pre D G ad u sz [.ref (ad 5 0), .int a1]) (k_Qi D G ad (k_uc u 5 r.1) r.2 sz) 0 0 (k_A ad sz) := by
  refine k_ofW (by decide +kernel) hI (Nat.le_of_ble_eq_true rfl) ?_
  intro p e s m args below meth c X hr hlk hU hS ls hl
  have hl : lv_has ls 2 [(0, .ref (ad 5 0)), (1, .int a1)] := hl
  have hU : k_Uv D G ad (k_uc u 5 w) s.heap := by rw [← hw, k_uc_id]; exact hU
  unfold f_X11_cut at hf
  refine lv_aload_n X.1 X.2.1 dX11_cut_0 rfl (lv_at hl 0 rfl) ?_
  refine lv_iconst (v := 0) X.1 X.2.1 dX11_cut_1 (by decide) ?_
  obtain ⟨w2, e2, hf⟩ := k_ltE hf
  refine k_putw X hU hS sh_5_0 fp_X11_50 rfl e2 rfl rfl dX11_cut_2 (fun H locs hU hS => ?_)
  refine lv_aload_n X.1 X.2.1 dX11_cut_5 rfl (lv_at hl 0 rfl) ?_
  refine lv_iload_n X.1 X.2.1 dX11_cut_6 rfl (lv_at hl 1 rfl) ?_
  obtain ⟨r7, hr7, hf⟩ := k_bdE hf
  refine k_backi X hS (k_runV (As := [.int a1]) (rest := []) X hS hU sh_5_0 (by decide) rfl vl_X11_185 (c_X11_noChute X.2.2.2.2.2.2.1 (k_uc_s _ _ _) hr7) rfl rfl rfl hl.1 ⟨Nat.le_of_ble_eq_true rfl, Nat.le_of_ble_eq_true rfl⟩ (Nat.le_of_ble_eq_true rfl) dX11_cut_7 ⟨Nat.zero_le _, Nat.zero_le _⟩) (fun H locs hU hS => ?_)
  rw [k_uc_uc] at hU
  refine lv_if_eq (tgt := 17) X.1 X.2.1 dX11_cut_10 (by decide) (fun c10 => ?_) (fun c10 => ?_)
  · replace hf := k_ifP hf c10
    refine lv_aload_n X.1 X.2.1 dX11_cut_17 rfl (lv_at hl 0 rfl) ?_
    refine lv_iload_n X.1 X.2.1 dX11_cut_18 rfl (lv_at hl 1 rfl) ?_
    obtain ⟨r19, hr19, hf⟩ := k_bdE hf
    refine k_backi X hS (k_runV (As := [.int a1]) (rest := []) X hS hU sh_5_0 (by decide) rfl vl_X11_234 (c_X11_cuts X.2.2.2.2.2.2.1 (k_uc_s _ _ _) hr19) rfl rfl rfl hl.1 ⟨Nat.le_of_ble_eq_true rfl, Nat.le_of_ble_eq_true rfl⟩ (Nat.le_of_ble_eq_true rfl) dX11_cut_19 ⟨Nat.zero_le _, Nat.zero_le _⟩) (fun H locs hU hS => ?_)
    rw [k_uc_uc] at hU
    have hz := Option.some.inj hf
    subst hz
    exact k_iret (v := r19.2) X hU hS hr hlk rfl rfl dX11_cut_22
  · replace hf := k_ifN hf c10
    refine lv_iconst (v := 0) X.1 X.2.1 dX11_cut_13 (by decide) ?_
    refine lv_goto (tgt := 22) X.1 X.2.1 dX11_cut_14 (by decide) ?_
    have hz := Option.some.inj hf
    subst hz
    exact k_iret (v := 0) X hU hS hr hlk rfl rfl dX11_cut_22
def rm_X11_steers : Room := { frames := 2, cells := 0, slots := 0, locals := 45 }
set_option maxRecDepth 100000 in
set_option maxHeartbeats 4000000 in
theorem c_X11_steers {l : Launch} {D : va_G} {G : Nat → ClassId} {ad : Nat → Nat → Nat} {u : k_U} (hI : k_ok ad) {w : k_M} (hw : u 5 = w) {a1 : Int32} {sz : Nat} {r : (k_M × Int32)} (hf : f_X11_steers w a1 = some r) : Met l yX11_steers (.code yX11_steers cX11_steers 3 (some .int) :: lw_g) rm_X11_steers (k_Pre D G ad u sz [.ref (ad 5 0), .int a1]) (k_Qi D G ad (k_uc u 5 r.1) r.2 sz) 0 0 (k_A ad sz) := by
  refine k_ofW (by decide +kernel) hI (Nat.le_of_ble_eq_true rfl) ?_
  intro p e s m args below meth c X hr hlk hU hS ls hl
  have hl : lv_has ls 3 [(0, .ref (ad 5 0)), (1, .int a1)] := hl
  have hU : k_Uv D G ad (k_uc u 5 w) s.heap := by rw [← hw, k_uc_id]; exact hU
  unfold f_X11_steers at hf
  refine lv_aload_n X.1 X.2.1 dX11_steers_0 rfl (lv_at hl 0 rfl) ?_
  refine k_getw (v := .ref (ad 5 1)) X hU sh_5_0 fl_X11_7 rfl dX11_steers_1 ?_
  refine lv_iconst (v := 0) X.1 X.2.1 dX11_steers_4 (by decide) ?_
  refine k_ildw (j0 := 0) X hU sh_5_1 (k_vin (N := 268) (by decide) (by decide)) (by decide) dX11_steers_5 ?_
  refine lv_if_ne (tgt := 15) X.1 X.2.1 dX11_steers_6 (by decide) (fun c6 => ?_) (fun c6 => ?_)
  · replace hf := k_ifN hf c6
    refine lv_aload_n X.1 X.2.1 dX11_steers_15 rfl (lv_at hl 0 rfl) ?_
    refine lv_iconst (v := 1) X.1 X.2.1 dX11_steers_16 (by decide) ?_
    obtain ⟨r17, hr17, hf⟩ := k_bdE hf
    refine k_backi X hS (k_runV (As := [.int 1]) (rest := []) X hS hU sh_5_0 (by decide) rfl vl_X11_173 (c_X11_inState X.2.2.2.2.2.2.1 (k_uc_s _ _ _) hr17) rfl rfl rfl hl.1 ⟨Nat.le_of_ble_eq_true rfl, Nat.le_of_ble_eq_true rfl⟩ (Nat.le_of_ble_eq_true rfl) dX11_steers_17 ⟨Nat.zero_le _, Nat.zero_le _⟩) (fun H locs hU hS => ?_)
    refine lv_if_ne (tgt := 30) X.1 X.2.1 dX11_steers_20 (by decide) (fun c20 => ?_) (fun c20 => ?_)
    · replace hf := k_ifN hf c20
      refine lv_aload_n X.1 X.2.1 dX11_steers_30 rfl (lv_at hl 0 rfl) ?_
      obtain ⟨r31, hr31, hf⟩ := k_bdE hf
      refine k_backv X hS (k_runV (As := []) (rest := []) X hS hU sh_5_0 (by decide) rfl vl_X11_222 (c_X11_keeps X.2.2.2.2.2.2.1 (k_uc_s _ _ _) hr31) rfl rfl rfl hl.1 ⟨Nat.le_of_ble_eq_true rfl, Nat.le_of_ble_eq_true rfl⟩ (Nat.le_of_ble_eq_true rfl) dX11_steers_31 ⟨Nat.zero_le _, Nat.zero_le _⟩) (fun H locs hU hS => ?_)
      rw [k_uc_uc] at hU
      refine lv_aload_n X.1 X.2.1 dX11_steers_34 rfl (lv_at hl 0 rfl) ?_
      refine k_getw (v := .ref (ad 5 1)) X hU sh_5_0 fl_X11_7 rfl dX11_steers_35 ?_
      refine lv_iconst (v := 5) X.1 X.2.1 dX11_steers_38 (by decide) ?_
      refine k_ildw (j0 := 5) X hU sh_5_1 (k_vin (N := 268) (by decide) (by decide)) (by decide) dX11_steers_39 ?_
      obtain ⟨x40, e40, hf⟩ := k_ltE hf
      refine k_nmi e40 ?_
      refine lv_istore_n (lv' := [(2, .int x40), (0, .ref (ad 5 0)), (1, .int a1)]) X.1 X.2.1 dX11_steers_40 rfl hl (by decide) rfl (fun ls hl => ?_)
      refine lv_aload_n X.1 X.2.1 dX11_steers_41 rfl (lv_at hl 1 rfl) ?_
      refine k_getw (v := .ref (ad 5 1)) X hU sh_5_0 fl_X11_7 rfl dX11_steers_42 ?_
      refine lv_iconst (v := 5) X.1 X.2.1 dX11_steers_45 (by decide) ?_
      refine lv_iload_n X.1 X.2.1 dX11_steers_46 rfl (lv_at hl 2 rfl) ?_
      obtain ⟨w47, e47, hf⟩ := k_ltE hf
      refine k_istw X hU hS sh_5_1 e47 (k_vin (N := 268) (by decide) (by decide)) (by decide) dX11_steers_47 (fun H locs hU hS => ?_)
      refine lv_iload_n X.1 X.2.1 dX11_steers_48 rfl (lv_at hl 0 rfl) ?_
      refine lv_bipush (v := 9) X.1 X.2.1 dX11_steers_49 (by decide) ?_
      refine lv_iadd X.1 X.2.1 dX11_steers_51 ?_
      have hz := Option.some.inj hf
      subst hz
      exact k_iret (v := (x40 + 9)) X hU hS hr hlk rfl rfl dX11_steers_52
    · replace hf := k_ifP hf c20
      refine lv_aload_n X.1 X.2.1 dX11_steers_23 rfl (lv_at hl 0 rfl) ?_
      refine lv_bipush (v := 8) X.1 X.2.1 dX11_steers_24 (by decide) ?_
      obtain ⟨r26, hr26, hf⟩ := k_bdE hf
      refine k_backi X hS (k_runV (As := [.int 8]) (rest := []) X hS hU sh_5_0 (by decide) rfl vl_X11_219 (c_X11_refused X.2.2.2.2.2.2.1 (k_uc_s _ _ _) hr26) rfl rfl rfl hl.1 ⟨Nat.le_of_ble_eq_true rfl, Nat.le_of_ble_eq_true rfl⟩ (Nat.le_of_ble_eq_true rfl) dX11_steers_26 ⟨Nat.zero_le _, Nat.zero_le _⟩) (fun H locs hU hS => ?_)
      rw [k_uc_uc] at hU
      have hz := Option.some.inj hf
      subst hz
      exact k_iret (v := r26.2) X hU hS hr hlk rfl rfl dX11_steers_29
  · replace hf := k_ifP hf c6
    refine lv_aload_n X.1 X.2.1 dX11_steers_9 rfl (lv_at hl 0 rfl) ?_
    refine lv_iconst (v := 1) X.1 X.2.1 dX11_steers_10 (by decide) ?_
    obtain ⟨r11, hr11, hf⟩ := k_bdE hf
    refine k_backi X hS (k_runV (As := [.int 1]) (rest := []) X hS hU sh_5_0 (by decide) rfl vl_X11_219 (c_X11_refused X.2.2.2.2.2.2.1 (k_uc_s _ _ _) hr11) rfl rfl rfl hl.1 ⟨Nat.le_of_ble_eq_true rfl, Nat.le_of_ble_eq_true rfl⟩ (Nat.le_of_ble_eq_true rfl) dX11_steers_11 ⟨Nat.zero_le _, Nat.zero_le _⟩) (fun H locs hU hS => ?_)
    rw [k_uc_uc] at hU
    have hz := Option.some.inj hf
    subst hz
    exact k_iret (v := r11.2) X hU hS hr hlk rfl rfl dX11_steers_14
def rm_X11_steer : Room := { frames := 3, cells := 0, slots := 0, locals := 67 }
set_option maxRecDepth 100000 in
set_option maxHeartbeats 4000000 in
theorem c_X11_steer {l : Launch} {D : va_G} {G : Nat → ClassId} {ad : Nat → Nat → Nat} {u : k_U} (hI : k_ok ad) {w : k_M} (hw : u 5 = w) {a1 : Int32} {sz : Nat} {r : (k_M × Int32)} (hf : f_X11_steer w a1 = some r) : Met l yX11_steer (.code yX11_steer cX11_steer 2 (some .int) :: lw_g) rm_X11_steer (k_Pre D G ad u sz [.ref (ad 5 0), .int a1]) (k_Qi D G ad (k_uc u 5 r.1) r.2 sz) 0 0 (k_A ad sz) := by
  refine k_ofW (by decide +kernel) hI (Nat.le_of_ble_eq_true rfl) ?_
  intro p e s m args below meth c X hr hlk hU hS ls hl
  have hl : lv_has ls 2 [(0, .ref (ad 5 0)), (1, .int a1)] := hl
  have hU : k_Uv D G ad (k_uc u 5 w) s.heap := by rw [← hw, k_uc_id]; exact hU
  have J22 : ∀ (H : Heap) (locs : List Loc) (ls : Array Slot) (w : k_M) (a1 : Int32) (as0 : Int32), k_Uv D G ad (k_uc u 5 w) H → va_S (k_A ad sz) s.heap H locs → lv_has ls 2 [(0, .ref (ad 5 0)), (1, .int a1)] → f_X11_steer_22 w a1 as0 = some r → W p l e rm_X11_steer s m args below meth c H locs 0 0 (MQ below (k_Qi D G ad (k_uc u 5 r.1) r.2 sz) args s 0 0 (k_A ad sz)) (F0 m 22 ls [.int as0, .ref (ad 5 0)]) := by
    intro H locs ls w a1 as0 hU hS hl hf
    unfold f_X11_steer_22 at hf
    refine lv_iconst (v := 1) X.1 X.2.1 dX11_steer_22 (by decide) ?_
    obtain ⟨r23, hr23, hf⟩ := k_bdE hf
    refine k_backi X hS (k_runV (As := [.int as0, .int 1]) (rest := []) X hS hU sh_5_0 (by decide) rfl vl_X11_61 (c_X11_throwsIf X.2.2.2.2.2.2.1 (k_uc_s _ _ _) hr23) rfl rfl rfl hl.1 ⟨Nat.le_of_ble_eq_true rfl, Nat.le_of_ble_eq_true rfl⟩ (Nat.le_of_ble_eq_true rfl) dX11_steer_23 ⟨Nat.zero_le _, Nat.zero_le _⟩) (fun H locs hU hS => ?_)
    rw [k_uc_uc] at hU
    refine lv_if_eq (tgt := 33) X.1 X.2.1 dX11_steer_26 (by decide) (fun c26 => ?_) (fun c26 => ?_)
    · replace hf := k_ifP hf c26
      refine lv_aload_n X.1 X.2.1 dX11_steer_33 rfl (lv_at hl 0 rfl) ?_
      refine lv_iload_n X.1 X.2.1 dX11_steer_34 rfl (lv_at hl 1 rfl) ?_
      obtain ⟨r35, hr35, hf⟩ := k_bdE hf
      refine k_backi X hS (k_runV (As := [.int a1]) (rest := []) X hS hU sh_5_0 (by decide) rfl vl_X11_237 (c_X11_steers X.2.2.2.2.2.2.1 (k_uc_s _ _ _) hr35) rfl rfl rfl hl.1 ⟨Nat.le_of_ble_eq_true rfl, Nat.le_of_ble_eq_true rfl⟩ (Nat.le_of_ble_eq_true rfl) dX11_steer_35 ⟨Nat.zero_le _, Nat.zero_le _⟩) (fun H locs hU hS => ?_)
      rw [k_uc_uc] at hU
      have hz := Option.some.inj hf
      subst hz
      exact k_iret (v := r35.2) X hU hS hr hlk rfl rfl dX11_steer_38
    · replace hf := k_ifN hf c26
      refine lv_iconst (v := 0) X.1 X.2.1 dX11_steer_29 (by decide) ?_
      refine lv_goto (tgt := 38) X.1 X.2.1 dX11_steer_30 (by decide) ?_
      have hz := Option.some.inj hf
      subst hz
      exact k_iret (v := 0) X hU hS hr hlk rfl rfl dX11_steer_38
  unfold f_X11_steer at hf
  refine lv_aload_n X.1 X.2.1 dX11_steer_0 rfl (lv_at hl 0 rfl) ?_
  refine lv_iconst (v := 0) X.1 X.2.1 dX11_steer_1 (by decide) ?_
  obtain ⟨w2, e2, hf⟩ := k_ltE hf
  refine k_putw X hU hS sh_5_0 fp_X11_50 rfl e2 rfl rfl dX11_steer_2 (fun H locs hU hS => ?_)
  refine lv_aload_n X.1 X.2.1 dX11_steer_5 rfl (lv_at hl 0 rfl) ?_
  refine lv_iload_n X.1 X.2.1 dX11_steer_6 rfl (lv_at hl 1 rfl) ?_
  refine lv_bipush (v := (-9)) X.1 X.2.1 dX11_steer_7 (by decide) ?_
  refine lv_bipush (v := 9) X.1 X.2.1 dX11_steer_9 (by decide) ?_
  obtain ⟨r11, hr11, hf⟩ := k_bdE hf
  refine k_backi X hS (k_runS (As := [.int a1, .int (-9), .int 9]) (rest := [.ref (ad 5 0)]) X hS hU sl_X11_57 (c_X11_within X.2.2.2.2.2.2.1 hr11) rfl rfl rfl hl.1 ⟨Nat.le_of_ble_eq_true rfl, Nat.le_of_ble_eq_true rfl⟩ (Nat.le_of_ble_eq_true rfl) dX11_steer_11 ⟨Nat.zero_le _, Nat.zero_le _⟩) (fun H locs hU hS => ?_)
  refine lv_if_ne (tgt := 21) X.1 X.2.1 dX11_steer_14 (by decide) (fun c14 => ?_) (fun c14 => ?_)
  · replace hf := k_ifN hf c14
    refine lv_iconst (v := 0) X.1 X.2.1 dX11_steer_21 (by decide) ?_
    exact J22 _ _ _ w2 a1 0 hU hS (lv_sub hl [0, 1] rfl) hf
  · replace hf := k_ifP hf c14
    refine lv_iconst (v := 1) X.1 X.2.1 dX11_steer_17 (by decide) ?_
    refine lv_goto (tgt := 22) X.1 X.2.1 dX11_steer_18 (by decide) ?_
    exact J22 _ _ _ w2 a1 1 hU hS (lv_sub hl [0, 1] rfl) hf
def rm_X11_setTarget : Room := { frames := 2, cells := 0, slots := 0, locals := 45 }
set_option maxRecDepth 100000 in
set_option maxHeartbeats 4000000 in
theorem c_X11_setTarget {l : Launch} {D : va_G} {G : Nat → ClassId} {ad : Nat → Nat → Nat} {u : k_U} (hI : k_ok ad) {w : k_M} (hw : u 5 = w) {a1 : Int32} {a2 : Int32} {sz : Nat} {r : (k_M × Int32)} (hf : f_X11_setTarget w a1 a2 = some r) : Met l yX11_setTarget (.code yX11_setTarget cX11_setTarget 4 (some .int) :: lw_g) rm_X11_setTarget (k_Pre D G ad u sz [.ref (ad 5 0), .int a1, .int a2]) (k_Qi D G ad (k_uc u 5 r.1) r.2 sz) 0 0 (k_A ad sz) := by
  refine k_ofW (by decide +kernel) hI (Nat.le_of_ble_eq_true rfl) ?_
  intro p e s m args below meth c X hr hlk hU hS ls hl
  have hl : lv_has ls 4 [(0, .ref (ad 5 0)), (1, .int a1), (2, .int a2)] := hl
  have hU : k_Uv D G ad (k_uc u 5 w) s.heap := by rw [← hw, k_uc_id]; exact hU
  have J76 : ∀ (H : Heap) (locs : List Loc) (ls : Array Slot) (w : k_M) (a1 : Int32) (a2 : Int32) (a3 : Int32), k_Uv D G ad (k_uc u 5 w) H → va_S (k_A ad sz) s.heap H locs → lv_has ls 4 [(0, .ref (ad 5 0)), (1, .int a1), (2, .int a2), (3, .int a3)] → f_X11_setTarget_76 w a1 a2 a3 = some r → W p l e rm_X11_setTarget s m args below meth c H locs 0 0 (MQ below (k_Qi D G ad (k_uc u 5 r.1) r.2 sz) args s 0 0 (k_A ad sz)) (F0 m 76 ls []) := by
    intro H locs ls w a1 a2 a3 hU hS hl hf
    unfold f_X11_setTarget_76 at hf
    refine lv_iload_n X.1 X.2.1 dX11_setTarget_76 rfl (lv_at hl 3 rfl) ?_
    refine lv_bipush (v := 8) X.1 X.2.1 dX11_setTarget_77 (by decide) ?_
    refine lv_icmp_ne (tgt := 89) X.1 X.2.1 dX11_setTarget_79 (by decide) (fun c79 => ?_) (fun c79 => ?_)
    · replace hf := k_ifN hf c79
      refine lv_aload_n X.1 X.2.1 dX11_setTarget_89 rfl (lv_at hl 0 rfl) ?_
      obtain ⟨r90, hr90, hf⟩ := k_bdE hf
      refine k_backv X hS (k_runV (As := []) (rest := []) X hS hU sh_5_0 (by decide) rfl vl_X11_222 (c_X11_keeps X.2.2.2.2.2.2.1 (k_uc_s _ _ _) hr90) rfl rfl rfl hl.1 ⟨Nat.le_of_ble_eq_true rfl, Nat.le_of_ble_eq_true rfl⟩ (Nat.le_of_ble_eq_true rfl) dX11_setTarget_90 ⟨Nat.zero_le _, Nat.zero_le _⟩) (fun H locs hU hS => ?_)
      rw [k_uc_uc] at hU
      refine lv_aload_n X.1 X.2.1 dX11_setTarget_93 rfl (lv_at hl 0 rfl) ?_
      refine k_getw (v := .ref (ad 5 1)) X hU sh_5_0 fl_X11_7 rfl dX11_setTarget_94 ?_
      refine lv_bipush (v := 92) X.1 X.2.1 dX11_setTarget_97 (by decide) ?_
      refine lv_iconst (v := 2) X.1 X.2.1 dX11_setTarget_99 (by decide) ?_
      refine lv_iload_n X.1 X.2.1 dX11_setTarget_100 rfl (lv_at hl 3 rfl) ?_
      refine lv_imul X.1 X.2.1 dX11_setTarget_101 ?_
      refine lv_iadd X.1 X.2.1 dX11_setTarget_102 ?_
      refine lv_iload_n X.1 X.2.1 dX11_setTarget_103 rfl (lv_at hl 1 rfl) ?_
      obtain ⟨hi104, hf⟩ := k_ckE hf
      obtain ⟨w104, e104, hf⟩ := k_ltE hf
      refine k_istw X hU hS sh_5_1 e104 (k_vin (n := 268) hi104 (by decide)) rfl dX11_setTarget_104 (fun H locs hU hS => ?_)
      refine lv_aload_n X.1 X.2.1 dX11_setTarget_105 rfl (lv_at hl 0 rfl) ?_
      refine k_getw (v := .ref (ad 5 1)) X hU sh_5_0 fl_X11_7 rfl dX11_setTarget_106 ?_
      refine lv_bipush (v := 92) X.1 X.2.1 dX11_setTarget_109 (by decide) ?_
      refine lv_iconst (v := 2) X.1 X.2.1 dX11_setTarget_111 (by decide) ?_
      refine lv_iload_n X.1 X.2.1 dX11_setTarget_112 rfl (lv_at hl 3 rfl) ?_
      refine lv_imul X.1 X.2.1 dX11_setTarget_113 ?_
      refine lv_iadd X.1 X.2.1 dX11_setTarget_114 ?_
      refine lv_iconst (v := 1) X.1 X.2.1 dX11_setTarget_115 (by decide) ?_
      refine lv_iadd X.1 X.2.1 dX11_setTarget_116 ?_
      refine lv_iload_n X.1 X.2.1 dX11_setTarget_117 rfl (lv_at hl 2 rfl) ?_
      obtain ⟨hi118, hf⟩ := k_ckE hf
      obtain ⟨w118, e118, hf⟩ := k_ltE hf
      refine k_istw X hU hS sh_5_1 e118 (k_vin (n := 268) hi118 (by decide)) rfl dX11_setTarget_118 (fun H locs hU hS => ?_)
      refine lv_aload_n X.1 X.2.1 dX11_setTarget_119 rfl (lv_at hl 0 rfl) ?_
      refine k_getw (v := .ref (ad 5 1)) X hU sh_5_0 fl_X11_7 rfl dX11_setTarget_120 ?_
      refine lv_bipush (v := 10) X.1 X.2.1 dX11_setTarget_123 (by decide) ?_
      refine lv_aload_n X.1 X.2.1 dX11_setTarget_125 rfl (lv_at hl 0 rfl) ?_
      refine k_getw (v := .ref (ad 5 1)) X hU sh_5_0 fl_X11_7 rfl dX11_setTarget_126 ?_
      refine lv_bipush (v := 10) X.1 X.2.1 dX11_setTarget_129 (by decide) ?_
      refine k_ildw (j0 := 10) X hU sh_5_1 (k_vin (N := 268) (by decide) (by decide)) (by decide) dX11_setTarget_131 ?_
      refine lv_iload_n X.1 X.2.1 dX11_setTarget_132 rfl (lv_at hl 3 rfl) ?_
      refine lv_iconst (v := 1) X.1 X.2.1 dX11_setTarget_133 (by decide) ?_
      refine lv_iadd X.1 X.2.1 dX11_setTarget_134 ?_
      refine k_maxi_r X (mX11_155) hl.1 (Nat.le_of_ble_eq_true rfl) (Nat.le_of_ble_eq_true rfl) ⟨Nat.zero_le _, Nat.zero_le _⟩ dX11_setTarget_135 ?_
      obtain ⟨w138, e138, hf⟩ := k_ltE hf
      refine k_istw X hU hS sh_5_1 e138 (k_vin (N := 268) (by decide) (by decide)) (by decide) dX11_setTarget_138 (fun H locs hU hS => ?_)
      refine lv_aload_n X.1 X.2.1 dX11_setTarget_139 rfl (lv_at hl 0 rfl) ?_
      refine k_getw (v := .ref (ad 5 1)) X hU sh_5_0 fl_X11_7 rfl dX11_setTarget_140 ?_
      refine lv_bipush (v := 10) X.1 X.2.1 dX11_setTarget_143 (by decide) ?_
      refine k_ildw (j0 := 10) X hU sh_5_1 (k_vin (N := 268) (by decide) (by decide)) (by decide) dX11_setTarget_145 ?_
      have hz := Option.some.inj hf
      subst hz
      exact k_iret (v := w138 1 10) X hU hS hr hlk rfl rfl dX11_setTarget_146
    · replace hf := k_ifP hf c79
      refine lv_aload_n X.1 X.2.1 dX11_setTarget_82 rfl (lv_at hl 0 rfl) ?_
      refine lv_bipush (v := 9) X.1 X.2.1 dX11_setTarget_83 (by decide) ?_
      obtain ⟨r85, hr85, hf⟩ := k_bdE hf
      refine k_backi X hS (k_runV (As := [.int 9]) (rest := []) X hS hU sh_5_0 (by decide) rfl vl_X11_219 (c_X11_refused X.2.2.2.2.2.2.1 (k_uc_s _ _ _) hr85) rfl rfl rfl hl.1 ⟨Nat.le_of_ble_eq_true rfl, Nat.le_of_ble_eq_true rfl⟩ (Nat.le_of_ble_eq_true rfl) dX11_setTarget_85 ⟨Nat.zero_le _, Nat.zero_le _⟩) (fun H locs hU hS => ?_)
      rw [k_uc_uc] at hU
      have hz := Option.some.inj hf
      subst hz
      exact k_iret (v := r85.2) X hU hS hr hlk rfl rfl dX11_setTarget_88
  have L44 : ∀ (n44 : Nat) (H : Heap) (locs : List Loc) (ls : Array Slot) (w : k_M) (a1 : Int32) (a2 : Int32) (a3 : Int32), k_Uv D G ad (k_uc u 5 w) H → va_S (k_A ad sz) s.heap H locs → lv_has ls 4 [(0, .ref (ad 5 0)), (1, .int a1), (2, .int a2), (3, .int a3)] → f_X11_setTarget_44 n44 w a1 a2 a3 = some r → W p l e rm_X11_setTarget s m args below meth c H locs 0 0 (MQ below (k_Qi D G ad (k_uc u 5 r.1) r.2 sz) args s 0 0 (k_A ad sz)) (F0 m 44 ls []) := by
    intro n44
    induction n44 with
    | zero =>
      intro H locs ls w a1 a2 a3 hU hS hl hf
      cases (show none = some r from hf)
    | succ n44 ih44 =>
      intro H locs ls w a1 a2 a3 hU hS hl hf
      replace hf : f_X11_setTarget_44_b (f_X11_setTarget_44 n44) w a1 a2 a3 = some r := hf
      unfold f_X11_setTarget_44_b at hf
      refine lv_iload_n X.1 X.2.1 dX11_setTarget_44 rfl (lv_at hl 3 rfl) ?_
      refine lv_aload_n X.1 X.2.1 dX11_setTarget_45 rfl (lv_at hl 0 rfl) ?_
      refine k_getw (v := .ref (ad 5 1)) X hU sh_5_0 fl_X11_7 rfl dX11_setTarget_46 ?_
      refine lv_bipush (v := 10) X.1 X.2.1 dX11_setTarget_49 (by decide) ?_
      refine k_ildw (j0 := 10) X hU sh_5_1 (k_vin (N := 268) (by decide) (by decide)) (by decide) dX11_setTarget_51 ?_
      refine lv_icmp_ge (tgt := 76) X.1 X.2.1 dX11_setTarget_52 (by decide) (fun c52 => ?_) (fun c52 => ?_)
      · replace hf := k_ifP hf c52
        exact J76 _ _ _ w a1 a2 a3 hU hS (lv_sub hl [0, 1, 2, 3] rfl) hf
      · replace hf := k_ifN hf c52
        refine lv_aload_n X.1 X.2.1 dX11_setTarget_55 rfl (lv_at hl 0 rfl) ?_
        refine k_getw (v := .ref (ad 5 1)) X hU sh_5_0 fl_X11_7 rfl dX11_setTarget_56 ?_
        refine lv_bipush (v := 92) X.1 X.2.1 dX11_setTarget_59 (by decide) ?_
        refine lv_iconst (v := 2) X.1 X.2.1 dX11_setTarget_61 (by decide) ?_
        refine lv_iload_n X.1 X.2.1 dX11_setTarget_62 rfl (lv_at hl 3 rfl) ?_
        refine lv_imul X.1 X.2.1 dX11_setTarget_63 ?_
        refine lv_iadd X.1 X.2.1 dX11_setTarget_64 ?_
        obtain ⟨hi65, hf⟩ := k_ckE hf
        refine k_ildw (j0 := (92 + (2 * a3)).toNatClampNeg) X hU sh_5_1 (k_vin (n := 268) hi65 (by decide)) rfl dX11_setTarget_65 ?_
        refine lv_iload_n X.1 X.2.1 dX11_setTarget_66 rfl (lv_at hl 1 rfl) ?_
        refine lv_icmp_eq (tgt := 76) X.1 X.2.1 dX11_setTarget_67 (by decide) (fun c67 => ?_) (fun c67 => ?_)
        · replace hf := k_ifP hf c67
          exact J76 _ _ _ w a1 a2 a3 hU hS (lv_sub hl [0, 1, 2, 3] rfl) hf
        · replace hf := k_ifN hf c67
          obtain ⟨x70, e70, hf⟩ := k_ltE hf
          refine lv_iinc (v := x70) (lv' := [(3, .int x70), (0, .ref (ad 5 0)), (1, .int a1), (2, .int a2)]) X.1 X.2.1 dX11_setTarget_70 hl (k := 3) rfl (by rw [e70]; rfl) (by decide) rfl (fun ls hl => ?_)
          refine lv_goto (tgt := 44) X.1 X.2.1 dX11_setTarget_73 (by decide) ?_
          exact ih44 _ _ _ w a1 a2 x70 hU hS (lv_sub hl [1, 2, 3, 0] rfl) hf
  have J33 : ∀ (H : Heap) (locs : List Loc) (ls : Array Slot) (w : k_M) (a1 : Int32) (a2 : Int32) (as0 : Int32), k_Uv D G ad (k_uc u 5 w) H → va_S (k_A ad sz) s.heap H locs → lv_has ls 4 [(0, .ref (ad 5 0)), (1, .int a1), (2, .int a2)] → f_X11_setTarget_33 w a1 a2 as0 = some r → W p l e rm_X11_setTarget s m args below meth c H locs 0 0 (MQ below (k_Qi D G ad (k_uc u 5 r.1) r.2 sz) args s 0 0 (k_A ad sz)) (F0 m 33 ls [.int as0, .ref (ad 5 0)]) := by
    intro H locs ls w a1 a2 as0 hU hS hl hf
    unfold f_X11_setTarget_33 at hf
    refine lv_iconst (v := 1) X.1 X.2.1 dX11_setTarget_33 (by decide) ?_
    obtain ⟨r34, hr34, hf⟩ := k_bdE hf
    refine k_backi X hS (k_runV (As := [.int as0, .int 1]) (rest := []) X hS hU sh_5_0 (by decide) rfl vl_X11_61 (c_X11_throwsIf X.2.2.2.2.2.2.1 (k_uc_s _ _ _) hr34) rfl rfl rfl hl.1 ⟨Nat.le_of_ble_eq_true rfl, Nat.le_of_ble_eq_true rfl⟩ (Nat.le_of_ble_eq_true rfl) dX11_setTarget_34 ⟨Nat.zero_le _, Nat.zero_le _⟩) (fun H locs hU hS => ?_)
    rw [k_uc_uc] at hU
    refine lv_if_eq (tgt := 42) X.1 X.2.1 dX11_setTarget_37 (by decide) (fun c37 => ?_) (fun c37 => ?_)
    · replace hf := k_ifP hf c37
      refine lv_iconst (v := 0) X.1 X.2.1 dX11_setTarget_42 (by decide) ?_
      refine lv_istore_n (lv' := [(3, .int 0), (0, .ref (ad 5 0)), (1, .int a1), (2, .int a2)]) X.1 X.2.1 dX11_setTarget_43 rfl hl (by decide) rfl (fun ls hl => ?_)
      exact L44 k_N _ _ _ r34.1 a1 a2 0 hU hS (lv_sub hl [1, 2, 3, 0] rfl) hf
    · replace hf := k_ifN hf c37
      refine lv_iconst (v := 0) X.1 X.2.1 dX11_setTarget_40 (by decide) ?_
      have hz := Option.some.inj hf
      subst hz
      exact k_iret (v := 0) X hU hS hr hlk rfl rfl dX11_setTarget_41
  have J28 : ∀ (H : Heap) (locs : List Loc) (ls : Array Slot) (w : k_M) (a1 : Int32) (a2 : Int32), k_Uv D G ad (k_uc u 5 w) H → va_S (k_A ad sz) s.heap H locs → lv_has ls 4 [(0, .ref (ad 5 0)), (1, .int a1), (2, .int a2)] → f_X11_setTarget_28 w a1 a2 = some r → W p l e rm_X11_setTarget s m args below meth c H locs 0 0 (MQ below (k_Qi D G ad (k_uc u 5 r.1) r.2 sz) args s 0 0 (k_A ad sz)) (F0 m 28 ls [.ref (ad 5 0)]) := by
    intro H locs ls w a1 a2 hU hS hl hf
    unfold f_X11_setTarget_28 at hf
    refine lv_iconst (v := 1) X.1 X.2.1 dX11_setTarget_28 (by decide) ?_
    refine lv_goto (tgt := 33) X.1 X.2.1 dX11_setTarget_29 (by decide) ?_
    exact J33 _ _ _ w a1 a2 1 hU hS (lv_sub hl [0, 1, 2] rfl) hf
  unfold f_X11_setTarget at hf
  refine lv_aload_n X.1 X.2.1 dX11_setTarget_0 rfl (lv_at hl 0 rfl) ?_
  refine lv_iconst (v := 0) X.1 X.2.1 dX11_setTarget_1 (by decide) ?_
  obtain ⟨w2, e2, hf⟩ := k_ltE hf
  refine k_putw X hU hS sh_5_0 fp_X11_50 rfl e2 rfl rfl dX11_setTarget_2 (fun H locs hU hS => ?_)
  refine lv_aload_n X.1 X.2.1 dX11_setTarget_5 rfl (lv_at hl 0 rfl) ?_
  refine lv_iload_n X.1 X.2.1 dX11_setTarget_6 rfl (lv_at hl 1 rfl) ?_
  refine lv_iconst (v := 1) X.1 X.2.1 dX11_setTarget_7 (by decide) ?_
  refine lv_sipush (v := 30000) X.1 X.2.1 dX11_setTarget_8 (by decide) ?_
  obtain ⟨r11, hr11, hf⟩ := k_bdE hf
  refine k_backi X hS (k_runS (As := [.int a1, .int 1, .int 30000]) (rest := [.ref (ad 5 0)]) X hS hU sl_X11_57 (c_X11_within X.2.2.2.2.2.2.1 hr11) rfl rfl rfl hl.1 ⟨Nat.le_of_ble_eq_true rfl, Nat.le_of_ble_eq_true rfl⟩ (Nat.le_of_ble_eq_true rfl) dX11_setTarget_11 ⟨Nat.zero_le _, Nat.zero_le _⟩) (fun H locs hU hS => ?_)
  refine lv_if_eq (tgt := 28) X.1 X.2.1 dX11_setTarget_14 (by decide) (fun c14 => ?_) (fun c14 => ?_)
  · replace hf := k_ifP hf c14
    exact J28 _ _ _ w2 a1 a2 hU hS (lv_sub hl [0, 1, 2] rfl) hf
  · replace hf := k_ifN hf c14
    refine lv_iload_n X.1 X.2.1 dX11_setTarget_17 rfl (lv_at hl 2 rfl) ?_
    refine lv_iconst (v := 1) X.1 X.2.1 dX11_setTarget_18 (by decide) ?_
    refine lv_sipush (v := 400) X.1 X.2.1 dX11_setTarget_19 (by decide) ?_
    obtain ⟨r22, hr22, hf⟩ := k_bdE hf
    refine k_backi X hS (k_runS (As := [.int a2, .int 1, .int 400]) (rest := [.ref (ad 5 0)]) X hS hU sl_X11_57 (c_X11_within X.2.2.2.2.2.2.1 hr22) rfl rfl rfl hl.1 ⟨Nat.le_of_ble_eq_true rfl, Nat.le_of_ble_eq_true rfl⟩ (Nat.le_of_ble_eq_true rfl) dX11_setTarget_22 ⟨Nat.zero_le _, Nat.zero_le _⟩) (fun H locs hU hS => ?_)
    refine lv_if_ne (tgt := 32) X.1 X.2.1 dX11_setTarget_25 (by decide) (fun c25 => ?_) (fun c25 => ?_)
    · replace hf := k_ifN hf c25
      refine lv_iconst (v := 0) X.1 X.2.1 dX11_setTarget_32 (by decide) ?_
      exact J33 _ _ _ w2 a1 a2 0 hU hS (lv_sub hl [0, 1, 2] rfl) hf
    · replace hf := k_ifP hf c25
      exact J28 _ _ _ w2 a1 a2 hU hS (lv_sub hl [0, 1, 2] rfl) hf
def rm_X11_jam : Room := { frames := 2, cells := 0, slots := 0, locals := 45 }
set_option maxRecDepth 100000 in
set_option maxHeartbeats 4000000 in
theorem c_X11_jam {l : Launch} {D : va_G} {G : Nat → ClassId} {ad : Nat → Nat → Nat} {u : k_U} (hI : k_ok ad) {w : k_M} (hw : u 5 = w) {a1 : Int32} {a2 : Int32} {sz : Nat} {r : (k_M × Int32)} (hf : f_X11_jam w a1 a2 = some r) : Met l yX11_jam (.code yX11_jam cX11_jam 5 (some .int) :: lw_g) rm_X11_jam (k_Pre D G ad u sz [.ref (ad 5 0), .int a1, .int a2]) (k_Qi D G ad (k_uc u 5 r.1) r.2 sz) 0 0 (k_A ad sz) := by
  refine k_ofW (by decide +kernel) hI (Nat.le_of_ble_eq_true rfl) ?_
  intro p e s m args below meth c X hr hlk hU hS ls hl
  have hl : lv_has ls 5 [(0, .ref (ad 5 0)), (1, .int a1), (2, .int a2)] := hl
  have hU : k_Uv D G ad (k_uc u 5 w) s.heap := by rw [← hw, k_uc_id]; exact hU
  have L60 : ∀ (n60 : Nat) (H : Heap) (locs : List Loc) (ls : Array Slot) (w : k_M) (a3 : Int32) (a4 : Int32), k_Uv D G ad (k_uc u 5 w) H → va_S (k_A ad sz) s.heap H locs → lv_has ls 5 [(0, .ref (ad 5 0)), (3, .int a3), (4, .int a4)] → f_X11_jam_60 n60 w a1 a2 a3 a4 = some r → W p l e rm_X11_jam s m args below meth c H locs 0 0 (MQ below (k_Qi D G ad (k_uc u 5 r.1) r.2 sz) args s 0 0 (k_A ad sz)) (F0 m 60 ls []) := by
    intro n60
    induction n60 with
    | zero =>
      intro H locs ls w a3 a4 hU hS hl hf
      cases (show none = some r from hf)
    | succ n60 ih60 =>
      have J100 : ∀ (H : Heap) (locs : List Loc) (ls : Array Slot) (w : k_M) (a4 : Int32) (as0 : Int32) (as1 : Int32), k_Uv D G ad (k_uc u 5 w) H → va_S (k_A ad sz) s.heap H locs → lv_has ls 5 [(0, .ref (ad 5 0)), (4, .int a4)] → f_X11_jam_100 (f_X11_jam_60 n60) w a1 a2 a4 as0 as1 = some r → W p l e rm_X11_jam s m args below meth c H locs 0 0 (MQ below (k_Qi D G ad (k_uc u 5 r.1) r.2 sz) args s 0 0 (k_A ad sz)) (F0 m 100 ls [.int as0, .int as1]) := by
        intro H locs ls w a4 as0 as1 hU hS hl hf
        unfold f_X11_jam_100 at hf
        refine lv_iadd X.1 X.2.1 dX11_jam_100 ?_
        obtain ⟨x101, e101, hf⟩ := k_ltE hf
        refine k_nmi e101 ?_
        refine lv_istore_n (lv' := [(3, .int x101), (0, .ref (ad 5 0)), (4, .int a4)]) X.1 X.2.1 dX11_jam_101 rfl hl (by decide) rfl (fun ls hl => ?_)
        obtain ⟨x102, e102, hf⟩ := k_ltE hf
        refine lv_iinc (v := x102) (lv' := [(4, .int x102), (3, .int x101), (0, .ref (ad 5 0))]) X.1 X.2.1 dX11_jam_102 hl (k := 2) rfl (by rw [e102]; rfl) (by decide) rfl (fun ls hl => ?_)
        refine lv_goto (tgt := 60) X.1 X.2.1 dX11_jam_105 (by decide) ?_
        exact ih60 _ _ _ w x101 x102 hU hS (lv_sub hl [2, 1, 0] rfl) hf
      intro H locs ls w a3 a4 hU hS hl hf
      replace hf : f_X11_jam_60_b (f_X11_jam_60 n60) w a1 a2 a3 a4 = some r := hf
      unfold f_X11_jam_60_b at hf
      refine lv_iload X.1 X.2.1 dX11_jam_60 (lv_at hl 2 rfl) ?_
      refine lv_aload_n X.1 X.2.1 dX11_jam_62 rfl (lv_at hl 0 rfl) ?_
      refine k_getw (v := .ref (ad 5 1)) X hU sh_5_0 fl_X11_7 rfl dX11_jam_63 ?_
      refine lv_bipush (v := 8) X.1 X.2.1 dX11_jam_66 (by decide) ?_
      refine k_ildw (j0 := 8) X hU sh_5_1 (k_vin (N := 268) (by decide) (by decide)) (by decide) dX11_jam_68 ?_
      refine lv_icmp_ge (tgt := 108) X.1 X.2.1 dX11_jam_69 (by decide) (fun c69 => ?_) (fun c69 => ?_)
      · replace hf := k_ifP hf c69
        refine lv_iload_n X.1 X.2.1 dX11_jam_108 rfl (lv_at hl 1 rfl) ?_
        have hz := Option.some.inj hf
        subst hz
        exact k_iret (v := a3) X hU hS hr hlk rfl rfl dX11_jam_109
      · replace hf := k_ifN hf c69
        refine lv_iload_n X.1 X.2.1 dX11_jam_72 rfl (lv_at hl 1 rfl) ?_
        refine lv_aload_n X.1 X.2.1 dX11_jam_73 rfl (lv_at hl 0 rfl) ?_
        refine k_getw (v := .ref (ad 5 1)) X hU sh_5_0 fl_X11_7 rfl dX11_jam_74 ?_
        refine lv_bipush (v := 65) X.1 X.2.1 dX11_jam_77 (by decide) ?_
        refine lv_iload X.1 X.2.1 dX11_jam_79 (lv_at hl 2 rfl) ?_
        refine lv_iadd X.1 X.2.1 dX11_jam_81 ?_
        obtain ⟨hi82, hf⟩ := k_ckE hf
        refine k_ildw (j0 := (65 + a4).toNatClampNeg) X hU sh_5_1 (k_vin (n := 268) hi82 (by decide)) rfl dX11_jam_82 ?_
        refine lv_if_ne (tgt := 99) X.1 X.2.1 dX11_jam_83 (by decide) (fun c83 => ?_) (fun c83 => ?_)
        · replace hf := k_ifN hf c83
          refine lv_iconst (v := 0) X.1 X.2.1 dX11_jam_99 (by decide) ?_
          exact J100 _ _ _ w a4 0 a3 hU hS (lv_sub hl [0, 2] rfl) hf
        · replace hf := k_ifP hf c83
          refine lv_aload_n X.1 X.2.1 dX11_jam_86 rfl (lv_at hl 0 rfl) ?_
          refine k_getw (v := .ref (ad 5 1)) X hU sh_5_0 fl_X11_7 rfl dX11_jam_87 ?_
          refine lv_bipush (v := 83) X.1 X.2.1 dX11_jam_90 (by decide) ?_
          refine lv_iload X.1 X.2.1 dX11_jam_92 (lv_at hl 2 rfl) ?_
          refine lv_iadd X.1 X.2.1 dX11_jam_94 ?_
          obtain ⟨hi95, hf⟩ := k_ckE hf
          refine k_ildw (j0 := (83 + a4).toNatClampNeg) X hU sh_5_1 (k_vin (n := 268) hi95 (by decide)) rfl dX11_jam_95 ?_
          refine lv_goto (tgt := 100) X.1 X.2.1 dX11_jam_96 (by decide) ?_
          exact J100 _ _ _ w a4 (w 1 ((83 + a4).toNatClampNeg)) a3 hU hS (lv_sub hl [0, 2] rfl) hf
  have J54 : ∀ (H : Heap) (locs : List Loc) (ls : Array Slot) (w : k_M) (as0 : Int32) (as1 : Int32), k_Uv D G ad (k_uc u 5 w) H → va_S (k_A ad sz) s.heap H locs → lv_has ls 5 [(0, .ref (ad 5 0))] → f_X11_jam_54 w a1 a2 as0 as1 = some r → W p l e rm_X11_jam s m args below meth c H locs 0 0 (MQ below (k_Qi D G ad (k_uc u 5 r.1) r.2 sz) args s 0 0 (k_A ad sz)) (F0 m 54 ls [.int as0, .int as1, .ref (ad 5 1)]) := by
    intro H locs ls w as0 as1 hU hS hl hf
    unfold f_X11_jam_54 at hf
    obtain ⟨hi54, hf⟩ := k_ckE hf
    obtain ⟨w54, e54, hf⟩ := k_ltE hf
    refine k_istw X hU hS sh_5_1 e54 (k_vin (n := 268) hi54 (by decide)) rfl dX11_jam_54 (fun H locs hU hS => ?_)
    refine lv_iconst (v := 0) X.1 X.2.1 dX11_jam_55 (by decide) ?_
    refine lv_istore_n (lv' := [(3, .int 0), (0, .ref (ad 5 0))]) X.1 X.2.1 dX11_jam_56 rfl hl (by decide) rfl (fun ls hl => ?_)
    refine lv_iconst (v := 0) X.1 X.2.1 dX11_jam_57 (by decide) ?_
    refine lv_istore (lv' := [(4, .int 0), (3, .int 0), (0, .ref (ad 5 0))]) X.1 X.2.1 dX11_jam_58 hl (by decide) rfl (fun ls hl => ?_)
    exact L60 k_N _ _ _ w54 0 0 hU hS (lv_sub hl [2, 1, 0] rfl) hf
  unfold f_X11_jam at hf
  refine lv_aload_n X.1 X.2.1 dX11_jam_0 rfl (lv_at hl 0 rfl) ?_
  refine lv_iconst (v := 0) X.1 X.2.1 dX11_jam_1 (by decide) ?_
  obtain ⟨w2, e2, hf⟩ := k_ltE hf
  refine k_putw X hU hS sh_5_0 fp_X11_50 rfl e2 rfl rfl dX11_jam_2 (fun H locs hU hS => ?_)
  refine lv_aload_n X.1 X.2.1 dX11_jam_5 rfl (lv_at hl 0 rfl) ?_
  refine lv_iload_n X.1 X.2.1 dX11_jam_6 rfl (lv_at hl 1 rfl) ?_
  obtain ⟨r7, hr7, hf⟩ := k_bdE hf
  refine k_backi X hS (k_runV (As := [.int a1]) (rest := []) X hS hU sh_5_0 (by decide) rfl vl_X11_194 (c_X11_noLayer X.2.2.2.2.2.2.1 (k_uc_s _ _ _) hr7) rfl rfl rfl hl.1 ⟨Nat.le_of_ble_eq_true rfl, Nat.le_of_ble_eq_true rfl⟩ (Nat.le_of_ble_eq_true rfl) dX11_jam_7 ⟨Nat.zero_le _, Nat.zero_le _⟩) (fun H locs hU hS => ?_)
  rw [k_uc_uc] at hU
  refine lv_if_eq (tgt := 15) X.1 X.2.1 dX11_jam_10 (by decide) (fun c10 => ?_) (fun c10 => ?_)
  · replace hf := k_ifP hf c10
    refine lv_aload_n X.1 X.2.1 dX11_jam_15 rfl (lv_at hl 0 rfl) ?_
    refine k_getw (v := .ref (ad 5 1)) X hU sh_5_0 fl_X11_7 rfl dX11_jam_16 ?_
    refine lv_bipush (v := 65) X.1 X.2.1 dX11_jam_19 (by decide) ?_
    refine lv_iload_n X.1 X.2.1 dX11_jam_21 rfl (lv_at hl 1 rfl) ?_
    refine lv_iadd X.1 X.2.1 dX11_jam_22 ?_
    obtain ⟨hi23, hf⟩ := k_ckE hf
    refine k_ildw (j0 := (65 + a1).toNatClampNeg) X hU sh_5_1 (k_vin (n := 268) hi23 (by decide)) rfl dX11_jam_23 ?_
    refine lv_if_eq (tgt := 33) X.1 X.2.1 dX11_jam_24 (by decide) (fun c24 => ?_) (fun c24 => ?_)
    · replace hf := k_ifP hf c24
      refine lv_aload_n X.1 X.2.1 dX11_jam_33 rfl (lv_at hl 0 rfl) ?_
      obtain ⟨r34, hr34, hf⟩ := k_bdE hf
      refine k_backv X hS (k_runV (As := []) (rest := []) X hS hU sh_5_0 (by decide) rfl vl_X11_222 (c_X11_keeps X.2.2.2.2.2.2.1 (k_uc_s _ _ _) hr34) rfl rfl rfl hl.1 ⟨Nat.le_of_ble_eq_true rfl, Nat.le_of_ble_eq_true rfl⟩ (Nat.le_of_ble_eq_true rfl) dX11_jam_34 ⟨Nat.zero_le _, Nat.zero_le _⟩) (fun H locs hU hS => ?_)
      rw [k_uc_uc] at hU
      refine lv_aload_n X.1 X.2.1 dX11_jam_37 rfl (lv_at hl 0 rfl) ?_
      refine k_getw (v := .ref (ad 5 1)) X hU sh_5_0 fl_X11_7 rfl dX11_jam_38 ?_
      refine lv_bipush (v := 83) X.1 X.2.1 dX11_jam_41 (by decide) ?_
      refine lv_iload_n X.1 X.2.1 dX11_jam_43 rfl (lv_at hl 1 rfl) ?_
      refine lv_iadd X.1 X.2.1 dX11_jam_44 ?_
      refine lv_iload_n X.1 X.2.1 dX11_jam_45 rfl (lv_at hl 2 rfl) ?_
      refine lv_if_eq (tgt := 53) X.1 X.2.1 dX11_jam_46 (by decide) (fun c46 => ?_) (fun c46 => ?_)
      · replace hf := k_ifP hf c46
        refine lv_iconst (v := 0) X.1 X.2.1 dX11_jam_53 (by decide) ?_
        exact J54 _ _ _ r34 0 (83 + a1) hU hS (lv_sub hl [0] rfl) hf
      · replace hf := k_ifN hf c46
        refine lv_iconst (v := 1) X.1 X.2.1 dX11_jam_49 (by decide) ?_
        refine lv_goto (tgt := 54) X.1 X.2.1 dX11_jam_50 (by decide) ?_
        exact J54 _ _ _ r34 1 (83 + a1) hU hS (lv_sub hl [0] rfl) hf
    · replace hf := k_ifN hf c24
      refine lv_aload_n X.1 X.2.1 dX11_jam_27 rfl (lv_at hl 0 rfl) ?_
      refine lv_iconst (v := 3) X.1 X.2.1 dX11_jam_28 (by decide) ?_
      obtain ⟨r29, hr29, hf⟩ := k_bdE hf
      refine k_backi X hS (k_runV (As := [.int 3]) (rest := []) X hS hU sh_5_0 (by decide) rfl vl_X11_219 (c_X11_refused X.2.2.2.2.2.2.1 (k_uc_s _ _ _) hr29) rfl rfl rfl hl.1 ⟨Nat.le_of_ble_eq_true rfl, Nat.le_of_ble_eq_true rfl⟩ (Nat.le_of_ble_eq_true rfl) dX11_jam_29 ⟨Nat.zero_le _, Nat.zero_le _⟩) (fun H locs hU hS => ?_)
      rw [k_uc_uc] at hU
      have hz := Option.some.inj hf
      subst hz
      exact k_iret (v := r29.2) X hU hS hr hlk rfl rfl dX11_jam_32
  · replace hf := k_ifN hf c10
    refine lv_iconst (v := 0) X.1 X.2.1 dX11_jam_13 (by decide) ?_
    have hz := Option.some.inj hf
    subst hz
    exact k_iret (v := 0) X hU hS hr hlk rfl rfl dX11_jam_14
def rm_X11_bytesIn : Room := { frames := 0, cells := 0, slots := 0, locals := 0 }
set_option maxRecDepth 100000 in
set_option maxHeartbeats 4000000 in
theorem c_X11_bytesIn {l : Launch} {D : va_G} {G : Nat → ClassId} {ad : Nat → Nat → Nat} {u : k_U} (hI : k_ok ad) {a0 : Int32} {sz : Nat} {r : Int32} (hf : f_X11_bytesIn a0 = some r) : Met l yX11_bytesIn (.code yX11_bytesIn cX11_bytesIn 3 (some .int) :: lw_g) rm_X11_bytesIn (k_Pre D G ad u sz [.int a0]) (k_Qi D G ad u r sz) 0 0 (k_A ad sz) := by
  refine k_ofW (by decide +kernel) hI (Nat.le_of_ble_eq_true rfl) ?_
  intro p e s m args below meth c X hr hlk hU hS ls hl
  have hl : lv_has ls 3 [(0, .int a0)] := hl
  have L5 : ∀ (n5 : Nat) (H : Heap) (locs : List Loc) (ls : Array Slot) (a0 : Int32) (a1 : Int32) (a2 : Int32), k_Uv D G ad u H → va_S (k_A ad sz) s.heap H locs → lv_has ls 3 [(0, .int a0), (1, .int a1), (2, .int a2)] → f_X11_bytesIn_5 n5 a0 a1 a2 = some r → W p l e rm_X11_bytesIn s m args below meth c H locs 0 0 (MQ below (k_Qi D G ad u r sz) args s 0 0 (k_A ad sz)) (F0 m 5 ls []) := by
    intro n5
    induction n5 with
    | zero =>
      intro H locs ls a0 a1 a2 hU hS hl hf
      cases (show none = some r from hf)
    | succ n5 ih5 =>
      have J25 : ∀ (H : Heap) (locs : List Loc) (ls : Array Slot) (a0 : Int32) (a2 : Int32) (as0 : Int32) (as1 : Int32), k_Uv D G ad u H → va_S (k_A ad sz) s.heap H locs → lv_has ls 3 [(0, .int a0), (2, .int a2)] → f_X11_bytesIn_25 (f_X11_bytesIn_5 n5) a0 a2 as0 as1 = some r → W p l e rm_X11_bytesIn s m args below meth c H locs 0 0 (MQ below (k_Qi D G ad u r sz) args s 0 0 (k_A ad sz)) (F0 m 25 ls [.int as0, .int as1]) := by
        intro H locs ls a0 a2 as0 as1 hU hS hl hf
        unfold f_X11_bytesIn_25 at hf
        refine lv_iadd X.1 X.2.1 dX11_bytesIn_25 ?_
        obtain ⟨x26, e26, hf⟩ := k_ltE hf
        refine k_nmi e26 ?_
        refine lv_istore_n (lv' := [(1, .int x26), (0, .int a0), (2, .int a2)]) X.1 X.2.1 dX11_bytesIn_26 rfl hl (by decide) rfl (fun ls hl => ?_)
        obtain ⟨x27, e27, hf⟩ := k_ltE hf
        refine lv_iinc (v := x27) (lv' := [(2, .int x27), (1, .int x26), (0, .int a0)]) X.1 X.2.1 dX11_bytesIn_27 hl (k := 2) rfl (by rw [e27]; rfl) (by decide) rfl (fun ls hl => ?_)
        refine lv_goto (tgt := 5) X.1 X.2.1 dX11_bytesIn_30 (by decide) ?_
        exact ih5 _ _ _ a0 x26 x27 hU hS (lv_sub hl [2, 1, 0] rfl) hf
      intro H locs ls a0 a1 a2 hU hS hl hf
      replace hf : f_X11_bytesIn_5_b (f_X11_bytesIn_5 n5) a0 a1 a2 = some r := hf
      unfold f_X11_bytesIn_5_b at hf
      refine lv_iload_n X.1 X.2.1 dX11_bytesIn_5 rfl (lv_at hl 2 rfl) ?_
      refine lv_if_lt (tgt := 33) X.1 X.2.1 dX11_bytesIn_6 (by decide) (fun c6 => ?_) (fun c6 => ?_)
      · replace hf := k_ifP hf c6
        refine lv_iload_n X.1 X.2.1 dX11_bytesIn_33 rfl (lv_at hl 1 rfl) ?_
        have hz := Option.some.inj hf
        subst hz
        exact k_iret (v := a1) X hU hS hr hlk rfl rfl dX11_bytesIn_34
      · replace hf := k_ifN hf c6
        refine lv_iload_n X.1 X.2.1 dX11_bytesIn_9 rfl (lv_at hl 1 rfl) ?_
        refine lv_iload_n X.1 X.2.1 dX11_bytesIn_10 rfl (lv_at hl 0 rfl) ?_
        refine lv_iload_n X.1 X.2.1 dX11_bytesIn_11 rfl (lv_at hl 2 rfl) ?_
        refine lv_ishr X.1 X.2.1 dX11_bytesIn_12 ?_
        refine lv_sipush (v := 255) X.1 X.2.1 dX11_bytesIn_13 (by decide) ?_
        refine lv_iand X.1 X.2.1 dX11_bytesIn_16 ?_
        refine lv_if_eq (tgt := 24) X.1 X.2.1 dX11_bytesIn_17 (by decide) (fun c17 => ?_) (fun c17 => ?_)
        · replace hf := k_ifP hf c17
          refine lv_iconst (v := 0) X.1 X.2.1 dX11_bytesIn_24 (by decide) ?_
          exact J25 _ _ _ a0 a2 0 a1 hU hS (lv_sub hl [0, 2] rfl) hf
        · replace hf := k_ifN hf c17
          refine lv_iconst (v := 1) X.1 X.2.1 dX11_bytesIn_20 (by decide) ?_
          refine lv_goto (tgt := 25) X.1 X.2.1 dX11_bytesIn_21 (by decide) ?_
          exact J25 _ _ _ a0 a2 1 a1 hU hS (lv_sub hl [0, 2] rfl) hf
  unfold f_X11_bytesIn at hf
  refine lv_iconst (v := 0) X.1 X.2.1 dX11_bytesIn_0 (by decide) ?_
  refine lv_istore_n (lv' := [(1, .int 0), (0, .int a0)]) X.1 X.2.1 dX11_bytesIn_1 rfl hl (by decide) rfl (fun ls hl => ?_)
  refine lv_bipush (v := 24) X.1 X.2.1 dX11_bytesIn_2 (by decide) ?_
  refine lv_istore_n (lv' := [(2, .int 24), (1, .int 0), (0, .int a0)]) X.1 X.2.1 dX11_bytesIn_4 rfl hl (by decide) rfl (fun ls hl => ?_)
  exact L5 k_N _ _ _ a0 0 24 hU hS (lv_sub hl [2, 1, 0] rfl) hf
def rm_X11_puts : Room := { frames := 0, cells := 0, slots := 0, locals := 0 }
set_option maxRecDepth 100000 in
set_option maxHeartbeats 4000000 in
theorem c_X11_puts {l : Launch} {D : va_G} {G : Nat → ClassId} {ad : Nat → Nat → Nat} {u : k_U} (hI : k_ok ad) {w : k_M} (hw : u 5 = w) {a1 : Int32} {sz : Nat} {r : k_M} (hf : f_X11_puts w a1 = some r) : Met l yX11_puts (.code yX11_puts cX11_puts 3 none :: lw_g) rm_X11_puts (k_Pre D G ad u sz [.ref (ad 5 0), .int a1]) (k_Qv D G ad (k_uc u 5 r) sz) 0 0 (k_A ad sz) := by
  refine k_ofW (by decide +kernel) hI (Nat.le_of_ble_eq_true rfl) ?_
  intro p e s m args below meth c X hr hlk hU hS ls hl
  have hl : lv_has ls 3 [(0, .ref (ad 5 0)), (1, .int a1)] := hl
  have hU : k_Uv D G ad (k_uc u 5 w) s.heap := by rw [← hw, k_uc_id]; exact hU
  have L3 : ∀ (n3 : Nat) (H : Heap) (locs : List Loc) (ls : Array Slot) (w : k_M) (a1 : Int32) (a2 : Int32), k_Uv D G ad (k_uc u 5 w) H → va_S (k_A ad sz) s.heap H locs → lv_has ls 3 [(0, .ref (ad 5 0)), (1, .int a1), (2, .int a2)] → f_X11_puts_3 n3 w a1 a2 = some r → W p l e rm_X11_puts s m args below meth c H locs 0 0 (MQ below (k_Qv D G ad (k_uc u 5 r) sz) args s 0 0 (k_A ad sz)) (F0 m 3 ls []) := by
    intro n3
    induction n3 with
    | zero =>
      intro H locs ls w a1 a2 hU hS hl hf
      cases (show none = some r from hf)
    | succ n3 ih3 =>
      have J40 : ∀ (H : Heap) (locs : List Loc) (ls : Array Slot) (w : k_M) (a1 : Int32) (a2 : Int32), k_Uv D G ad (k_uc u 5 w) H → va_S (k_A ad sz) s.heap H locs → lv_has ls 3 [(0, .ref (ad 5 0)), (1, .int a1), (2, .int a2)] → f_X11_puts_40 (f_X11_puts_3 n3) w a1 a2 = some r → W p l e rm_X11_puts s m args below meth c H locs 0 0 (MQ below (k_Qv D G ad (k_uc u 5 r) sz) args s 0 0 (k_A ad sz)) (F0 m 40 ls []) := by
        intro H locs ls w a1 a2 hU hS hl hf
        unfold f_X11_puts_40 at hf
        obtain ⟨x40, e40, hf⟩ := k_ltE hf
        refine lv_iinc (v := x40) (lv' := [(2, .int x40), (0, .ref (ad 5 0)), (1, .int a1)]) X.1 X.2.1 dX11_puts_40 hl (k := 2) rfl (by rw [e40]; rfl) (by decide) rfl (fun ls hl => ?_)
        refine lv_goto (tgt := 3) X.1 X.2.1 dX11_puts_43 (by decide) ?_
        exact ih3 _ _ _ w a1 x40 hU hS (lv_sub hl [1, 2, 0] rfl) hf
      intro H locs ls w a1 a2 hU hS hl hf
      replace hf : f_X11_puts_3_b (f_X11_puts_3 n3) w a1 a2 = some r := hf
      unfold f_X11_puts_3_b at hf
      refine lv_iload_n X.1 X.2.1 dX11_puts_3 rfl (lv_at hl 2 rfl) ?_
      refine lv_if_lt (tgt := 46) X.1 X.2.1 dX11_puts_4 (by decide) (fun c4 => ?_) (fun c4 => ?_)
      · replace hf := k_ifP hf c4
        have hz := Option.some.inj hf
        subst hz
        exact k_vret X hU hS hr hlk dX11_puts_46
      · replace hf := k_ifN hf c4
        refine lv_iload_n X.1 X.2.1 dX11_puts_7 rfl (lv_at hl 1 rfl) ?_
        refine lv_iload_n X.1 X.2.1 dX11_puts_8 rfl (lv_at hl 2 rfl) ?_
        refine lv_ishr X.1 X.2.1 dX11_puts_9 ?_
        refine lv_sipush (v := 255) X.1 X.2.1 dX11_puts_10 (by decide) ?_
        refine lv_iand X.1 X.2.1 dX11_puts_13 ?_
        refine lv_if_eq (tgt := 40) X.1 X.2.1 dX11_puts_14 (by decide) (fun c14 => ?_) (fun c14 => ?_)
        · replace hf := k_ifP hf c14
          exact J40 _ _ _ w a1 a2 hU hS (lv_sub hl [0, 1, 2] rfl) hf
        · replace hf := k_ifN hf c14
          refine lv_aload_n X.1 X.2.1 dX11_puts_17 rfl (lv_at hl 0 rfl) ?_
          refine k_getw (v := .ref (ad 5 9)) X hU sh_5_0 fl_X11_32 rfl dX11_puts_18 ?_
          refine lv_aload_n X.1 X.2.1 dX11_puts_21 rfl (lv_at hl 0 rfl) ?_
          refine k_getw (v := .int (w 0 10)) X hU sh_5_0 fl_X11_240 rfl dX11_puts_22 ?_
          refine lv_iload_n X.1 X.2.1 dX11_puts_25 rfl (lv_at hl 1 rfl) ?_
          refine lv_iload_n X.1 X.2.1 dX11_puts_26 rfl (lv_at hl 2 rfl) ?_
          refine lv_ishr X.1 X.2.1 dX11_puts_27 ?_
          refine lv_i2b (v := (a1 >>> (a2 &&& 31)).toInt8.toInt32) X.1 X.2.1 dX11_puts_28 rfl ?_
          obtain ⟨hi29, hf⟩ := k_ckE hf
          obtain ⟨w29, e29, hf⟩ := k_ltE hf
          refine k_bstw X hU hS sh_5_9 e29 (k_vin (n := 600) hi29 (by decide)) rfl dX11_puts_29 (fun H locs hU hS => ?_)
          refine lv_aload_n X.1 X.2.1 dX11_puts_30 rfl (lv_at hl 0 rfl) ?_
          refine lv_dup X.1 X.2.1 dX11_puts_31 rfl ?_
          refine k_getw (v := .int (w29 0 10)) X hU sh_5_0 fl_X11_240 rfl dX11_puts_32 ?_
          refine lv_iconst (v := 1) X.1 X.2.1 dX11_puts_35 (by decide) ?_
          refine lv_iadd X.1 X.2.1 dX11_puts_36 ?_
          obtain ⟨w37, e37, hf⟩ := k_ltE hf
          refine k_putw X hU hS sh_5_0 fp_X11_240 rfl e37 rfl rfl dX11_puts_37 (fun H locs hU hS => ?_)
          exact J40 _ _ _ w37 a1 a2 hU hS (lv_sub hl [0, 1, 2] rfl) hf
  unfold f_X11_puts at hf
  refine lv_bipush (v := 24) X.1 X.2.1 dX11_puts_0 (by decide) ?_
  refine lv_istore_n (lv' := [(2, .int 24), (0, .ref (ad 5 0)), (1, .int a1)]) X.1 X.2.1 dX11_puts_2 rfl hl (by decide) rfl (fun ls hl => ?_)
  exact L3 k_N _ _ _ w a1 24 hU hS (lv_sub hl [1, 2, 0] rfl) hf
def rm_X11_append : Room := { frames := 1, cells := 0, slots := 0, locals := 22 }
set_option maxRecDepth 100000 in
set_option maxHeartbeats 4000000 in
theorem c_X11_append {l : Launch} {D : va_G} {G : Nat → ClassId} {ad : Nat → Nat → Nat} {u : k_U} (hI : k_ok ad) {w : k_M} (hw : u 5 = w) {a1 : Int32} {a2 : Int32} {a3 : Int32} {a4 : Int32} {a5 : Int32} {sz : Nat} {r : (k_M × Int32)} (hf : f_X11_append w a1 a2 a3 a4 a5 = some r) : Met l yX11_append (.code yX11_append cX11_append 6 (some .int) :: lw_g) rm_X11_append (k_Pre D G ad u sz [.ref (ad 5 0), .int a1, .int a2, .int a3, .int a4, .int a5]) (k_Qi D G ad (k_uc u 5 r.1) r.2 sz) 0 0 (k_A ad sz) := by
  refine k_ofW (by decide +kernel) hI (Nat.le_of_ble_eq_true rfl) ?_
  intro p e s m args below meth c X hr hlk hU hS ls hl
  have hl : lv_has ls 6 [(0, .ref (ad 5 0)), (1, .int a1), (2, .int a2), (3, .int a3), (4, .int a4), (5, .int a5)] := hl
  have hU : k_Uv D G ad (k_uc u 5 w) s.heap := by rw [← hw, k_uc_id]; exact hU
  have J48 : ∀ (H : Heap) (locs : List Loc) (ls : Array Slot) (w : k_M) (a1 : Int32) (a2 : Int32) (a3 : Int32) (a4 : Int32) (a5 : Int32) (as0 : Int32), k_Uv D G ad (k_uc u 5 w) H → va_S (k_A ad sz) s.heap H locs → lv_has ls 6 [(0, .ref (ad 5 0)), (1, .int a1), (2, .int a2), (3, .int a3), (4, .int a4), (5, .int a5)] → f_X11_append_48 w a1 a2 a3 a4 a5 as0 = some r → W p l e rm_X11_append s m args below meth c H locs 0 0 (MQ below (k_Qi D G ad (k_uc u 5 r.1) r.2 sz) args s 0 0 (k_A ad sz)) (F0 m 48 ls [.int as0, .ref (ad 5 0)]) := by
    intro H locs ls w a1 a2 a3 a4 a5 as0 hU hS hl hf
    unfold f_X11_append_48 at hf
    refine lv_iconst (v := 1) X.1 X.2.1 dX11_append_48 (by decide) ?_
    obtain ⟨r49, hr49, hf⟩ := k_bdE hf
    refine k_backi X hS (k_runV (As := [.int as0, .int 1]) (rest := []) X hS hU sh_5_0 (by decide) rfl vl_X11_61 (c_X11_throwsIf X.2.2.2.2.2.2.1 (k_uc_s _ _ _) hr49) rfl rfl rfl hl.1 ⟨Nat.le_of_ble_eq_true rfl, Nat.le_of_ble_eq_true rfl⟩ (Nat.le_of_ble_eq_true rfl) dX11_append_49 ⟨Nat.zero_le _, Nat.zero_le _⟩) (fun H locs hU hS => ?_)
    rw [k_uc_uc] at hU
    refine lv_if_eq (tgt := 57) X.1 X.2.1 dX11_append_52 (by decide) (fun c52 => ?_) (fun c52 => ?_)
    · replace hf := k_ifP hf c52
      refine lv_aload_n X.1 X.2.1 dX11_append_57 rfl (lv_at hl 0 rfl) ?_
      refine lv_iload_n X.1 X.2.1 dX11_append_58 rfl (lv_at hl 1 rfl) ?_
      obtain ⟨r59, hr59, hf⟩ := k_bdE hf
      refine k_backv X hS (k_runV (As := [.int a1]) (rest := []) X hS hU sh_5_0 (by decide) rfl vl_X11_246 (c_X11_puts X.2.2.2.2.2.2.1 (k_uc_s _ _ _) hr59) rfl rfl rfl hl.1 ⟨Nat.le_of_ble_eq_true rfl, Nat.le_of_ble_eq_true rfl⟩ (Nat.le_of_ble_eq_true rfl) dX11_append_59 ⟨Nat.zero_le _, Nat.zero_le _⟩) (fun H locs hU hS => ?_)
      rw [k_uc_uc] at hU
      refine lv_aload_n X.1 X.2.1 dX11_append_62 rfl (lv_at hl 0 rfl) ?_
      refine lv_iload_n X.1 X.2.1 dX11_append_63 rfl (lv_at hl 2 rfl) ?_
      obtain ⟨r64, hr64, hf⟩ := k_bdE hf
      refine k_backv X hS (k_runV (As := [.int a2]) (rest := []) X hS hU sh_5_0 (by decide) rfl vl_X11_246 (c_X11_puts X.2.2.2.2.2.2.1 (k_uc_s _ _ _) hr64) rfl rfl rfl hl.1 ⟨Nat.le_of_ble_eq_true rfl, Nat.le_of_ble_eq_true rfl⟩ (Nat.le_of_ble_eq_true rfl) dX11_append_64 ⟨Nat.zero_le _, Nat.zero_le _⟩) (fun H locs hU hS => ?_)
      rw [k_uc_uc] at hU
      refine lv_aload_n X.1 X.2.1 dX11_append_67 rfl (lv_at hl 0 rfl) ?_
      refine lv_iload_n X.1 X.2.1 dX11_append_68 rfl (lv_at hl 3 rfl) ?_
      obtain ⟨r69, hr69, hf⟩ := k_bdE hf
      refine k_backv X hS (k_runV (As := [.int a3]) (rest := []) X hS hU sh_5_0 (by decide) rfl vl_X11_246 (c_X11_puts X.2.2.2.2.2.2.1 (k_uc_s _ _ _) hr69) rfl rfl rfl hl.1 ⟨Nat.le_of_ble_eq_true rfl, Nat.le_of_ble_eq_true rfl⟩ (Nat.le_of_ble_eq_true rfl) dX11_append_69 ⟨Nat.zero_le _, Nat.zero_le _⟩) (fun H locs hU hS => ?_)
      rw [k_uc_uc] at hU
      refine lv_aload_n X.1 X.2.1 dX11_append_72 rfl (lv_at hl 0 rfl) ?_
      refine lv_iload X.1 X.2.1 dX11_append_73 (lv_at hl 4 rfl) ?_
      obtain ⟨r75, hr75, hf⟩ := k_bdE hf
      refine k_backv X hS (k_runV (As := [.int a4]) (rest := []) X hS hU sh_5_0 (by decide) rfl vl_X11_246 (c_X11_puts X.2.2.2.2.2.2.1 (k_uc_s _ _ _) hr75) rfl rfl rfl hl.1 ⟨Nat.le_of_ble_eq_true rfl, Nat.le_of_ble_eq_true rfl⟩ (Nat.le_of_ble_eq_true rfl) dX11_append_75 ⟨Nat.zero_le _, Nat.zero_le _⟩) (fun H locs hU hS => ?_)
      rw [k_uc_uc] at hU
      refine lv_aload_n X.1 X.2.1 dX11_append_78 rfl (lv_at hl 0 rfl) ?_
      refine lv_iload X.1 X.2.1 dX11_append_79 (lv_at hl 5 rfl) ?_
      obtain ⟨r81, hr81, hf⟩ := k_bdE hf
      refine k_backv X hS (k_runV (As := [.int a5]) (rest := []) X hS hU sh_5_0 (by decide) rfl vl_X11_246 (c_X11_puts X.2.2.2.2.2.2.1 (k_uc_s _ _ _) hr81) rfl rfl rfl hl.1 ⟨Nat.le_of_ble_eq_true rfl, Nat.le_of_ble_eq_true rfl⟩ (Nat.le_of_ble_eq_true rfl) dX11_append_81 ⟨Nat.zero_le _, Nat.zero_le _⟩) (fun H locs hU hS => ?_)
      rw [k_uc_uc] at hU
      refine lv_aload_n X.1 X.2.1 dX11_append_84 rfl (lv_at hl 0 rfl) ?_
      refine k_getw (v := .int (r81 0 10)) X hU sh_5_0 fl_X11_240 rfl dX11_append_85 ?_
      have hz := Option.some.inj hf
      subst hz
      exact k_iret (v := r81 0 10) X hU hS hr hlk rfl rfl dX11_append_88
    · replace hf := k_ifN hf c52
      refine lv_iconst (v := 0) X.1 X.2.1 dX11_append_55 (by decide) ?_
      have hz := Option.some.inj hf
      subst hz
      exact k_iret (v := 0) X hU hS hr hlk rfl rfl dX11_append_56
  unfold f_X11_append at hf
  refine lv_aload_n X.1 X.2.1 dX11_append_0 rfl (lv_at hl 0 rfl) ?_
  refine lv_iconst (v := 0) X.1 X.2.1 dX11_append_1 (by decide) ?_
  obtain ⟨w2, e2, hf⟩ := k_ltE hf
  refine k_putw X hU hS sh_5_0 fp_X11_50 rfl e2 rfl rfl dX11_append_2 (fun H locs hU hS => ?_)
  refine lv_aload_n X.1 X.2.1 dX11_append_5 rfl (lv_at hl 0 rfl) ?_
  refine lv_aload_n X.1 X.2.1 dX11_append_6 rfl (lv_at hl 0 rfl) ?_
  refine k_getw (v := .int (w2 0 10)) X hU sh_5_0 fl_X11_240 rfl dX11_append_7 ?_
  refine lv_iload_n X.1 X.2.1 dX11_append_10 rfl (lv_at hl 1 rfl) ?_
  obtain ⟨r11, hr11, hf⟩ := k_bdE hf
  refine k_backi X hS (k_runS (As := [.int a1]) (rest := [.int (w2 0 10), .ref (ad 5 0)]) X hS hU sl_X11_243 (c_X11_bytesIn X.2.2.2.2.2.2.1 hr11) rfl rfl rfl hl.1 ⟨Nat.le_of_ble_eq_true rfl, Nat.le_of_ble_eq_true rfl⟩ (Nat.le_of_ble_eq_true rfl) dX11_append_11 ⟨Nat.zero_le _, Nat.zero_le _⟩) (fun H locs hU hS => ?_)
  refine lv_iadd X.1 X.2.1 dX11_append_14 ?_
  refine lv_iload_n X.1 X.2.1 dX11_append_15 rfl (lv_at hl 2 rfl) ?_
  obtain ⟨r16, hr16, hf⟩ := k_bdE hf
  refine k_backi X hS (k_runS (As := [.int a2]) (rest := [.int ((w2 0 10) + r11), .ref (ad 5 0)]) X hS hU sl_X11_243 (c_X11_bytesIn X.2.2.2.2.2.2.1 hr16) rfl rfl rfl hl.1 ⟨Nat.le_of_ble_eq_true rfl, Nat.le_of_ble_eq_true rfl⟩ (Nat.le_of_ble_eq_true rfl) dX11_append_16 ⟨Nat.zero_le _, Nat.zero_le _⟩) (fun H locs hU hS => ?_)
  refine lv_iadd X.1 X.2.1 dX11_append_19 ?_
  refine lv_iload_n X.1 X.2.1 dX11_append_20 rfl (lv_at hl 3 rfl) ?_
  obtain ⟨r21, hr21, hf⟩ := k_bdE hf
  refine k_backi X hS (k_runS (As := [.int a3]) (rest := [.int (((w2 0 10) + r11) + r16), .ref (ad 5 0)]) X hS hU sl_X11_243 (c_X11_bytesIn X.2.2.2.2.2.2.1 hr21) rfl rfl rfl hl.1 ⟨Nat.le_of_ble_eq_true rfl, Nat.le_of_ble_eq_true rfl⟩ (Nat.le_of_ble_eq_true rfl) dX11_append_21 ⟨Nat.zero_le _, Nat.zero_le _⟩) (fun H locs hU hS => ?_)
  refine lv_iadd X.1 X.2.1 dX11_append_24 ?_
  refine lv_iload X.1 X.2.1 dX11_append_25 (lv_at hl 4 rfl) ?_
  obtain ⟨r27, hr27, hf⟩ := k_bdE hf
  refine k_backi X hS (k_runS (As := [.int a4]) (rest := [.int ((((w2 0 10) + r11) + r16) + r21), .ref (ad 5 0)]) X hS hU sl_X11_243 (c_X11_bytesIn X.2.2.2.2.2.2.1 hr27) rfl rfl rfl hl.1 ⟨Nat.le_of_ble_eq_true rfl, Nat.le_of_ble_eq_true rfl⟩ (Nat.le_of_ble_eq_true rfl) dX11_append_27 ⟨Nat.zero_le _, Nat.zero_le _⟩) (fun H locs hU hS => ?_)
  refine lv_iadd X.1 X.2.1 dX11_append_30 ?_
  refine lv_iload X.1 X.2.1 dX11_append_31 (lv_at hl 5 rfl) ?_
  obtain ⟨r33, hr33, hf⟩ := k_bdE hf
  refine k_backi X hS (k_runS (As := [.int a5]) (rest := [.int (((((w2 0 10) + r11) + r16) + r21) + r27), .ref (ad 5 0)]) X hS hU sl_X11_243 (c_X11_bytesIn X.2.2.2.2.2.2.1 hr33) rfl rfl rfl hl.1 ⟨Nat.le_of_ble_eq_true rfl, Nat.le_of_ble_eq_true rfl⟩ (Nat.le_of_ble_eq_true rfl) dX11_append_33 ⟨Nat.zero_le _, Nat.zero_le _⟩) (fun H locs hU hS => ?_)
  refine lv_iadd X.1 X.2.1 dX11_append_36 ?_
  refine lv_sipush (v := 600) X.1 X.2.1 dX11_append_37 (by decide) ?_
  refine lv_icmp_le (tgt := 47) X.1 X.2.1 dX11_append_40 (by decide) (fun c40 => ?_) (fun c40 => ?_)
  · replace hf := k_ifP hf c40
    refine lv_iconst (v := 0) X.1 X.2.1 dX11_append_47 (by decide) ?_
    exact J48 _ _ _ w2 a1 a2 a3 a4 a5 0 hU hS (lv_sub hl [0, 1, 2, 3, 4, 5] rfl) hf
  · replace hf := k_ifN hf c40
    refine lv_iconst (v := 1) X.1 X.2.1 dX11_append_43 (by decide) ?_
    refine lv_goto (tgt := 48) X.1 X.2.1 dX11_append_44 (by decide) ?_
    exact J48 _ _ _ w2 a1 a2 a3 a4 a5 1 hU hS (lv_sub hl [0, 1, 2, 3, 4, 5] rfl) hf
def rm_X11_byteAt : Room := { frames := 0, cells := 0, slots := 0, locals := 0 }
set_option maxRecDepth 100000 in
set_option maxHeartbeats 4000000 in
theorem c_X11_byteAt {l : Launch} {D : va_G} {G : Nat → ClassId} {ad : Nat → Nat → Nat} {u : k_U} (hI : k_ok ad) {w : k_M} (hw : u 5 = w) {a1 : Int32} {sz : Nat} {r : Int32} (hf : f_X11_byteAt w a1 = some r) : Met l yX11_byteAt (.code yX11_byteAt cX11_byteAt 2 (some .int) :: lw_g) rm_X11_byteAt (k_Pre D G ad u sz [.ref (ad 5 0), .int a1]) (k_Qi D G ad u r sz) 0 0 (k_A ad sz) := by
  refine k_ofW (by decide +kernel) hI (Nat.le_of_ble_eq_true rfl) ?_
  intro p e s m args below meth c X hr hlk hU hS ls hl
  have hl : lv_has ls 2 [(0, .ref (ad 5 0)), (1, .int a1)] := hl
  have hU : k_Uv D G ad (k_uc u 5 w) s.heap := by rw [← hw, k_uc_id]; exact hU
  unfold f_X11_byteAt at hf
  refine lv_iload_n X.1 X.2.1 dX11_byteAt_0 rfl (lv_at hl 1 rfl) ?_
  refine lv_aload_n X.1 X.2.1 dX11_byteAt_1 rfl (lv_at hl 0 rfl) ?_
  refine k_getw (v := .int (w 0 10)) X hU sh_5_0 fl_X11_240 rfl dX11_byteAt_2 ?_
  refine lv_icmp_ge (tgt := 21) X.1 X.2.1 dX11_byteAt_5 (by decide) (fun c5 => ?_) (fun c5 => ?_)
  · replace hf := k_ifP hf c5
    refine lv_iconst (v := (-1)) X.1 X.2.1 dX11_byteAt_21 (by decide) ?_
    rw [← hw, k_uc_id] at hU
    have hz := Option.some.inj hf
    subst hz
    exact k_iret (v := (-1)) X hU hS hr hlk rfl rfl dX11_byteAt_22
  · replace hf := k_ifN hf c5
    refine lv_aload_n X.1 X.2.1 dX11_byteAt_8 rfl (lv_at hl 0 rfl) ?_
    refine k_getw (v := .ref (ad 5 9)) X hU sh_5_0 fl_X11_32 rfl dX11_byteAt_9 ?_
    refine lv_iload_n X.1 X.2.1 dX11_byteAt_12 rfl (lv_at hl 1 rfl) ?_
    obtain ⟨hi13, hf⟩ := k_ckE hf
    refine k_bldw (j0 := a1.toNatClampNeg) X hU sh_5_9 (k_vin (n := 600) hi13 (by decide)) rfl dX11_byteAt_13 ?_
    refine lv_sipush (v := 255) X.1 X.2.1 dX11_byteAt_14 (by decide) ?_
    refine lv_iand X.1 X.2.1 dX11_byteAt_17 ?_
    refine lv_goto (tgt := 22) X.1 X.2.1 dX11_byteAt_18 (by decide) ?_
    rw [← hw, k_uc_id] at hU
    have hz := Option.some.inj hf
    subst hz
    exact k_iret (v := ((w 9 a1.toNatClampNeg) &&& 255)) X hU hS hr hlk rfl rfl dX11_byteAt_22
def rm_X11_isLetter : Room := { frames := 1, cells := 0, slots := 0, locals := 22 }
set_option maxRecDepth 100000 in
set_option maxHeartbeats 4000000 in
theorem c_X11_isLetter {l : Launch} {D : va_G} {G : Nat → ClassId} {ad : Nat → Nat → Nat} {u : k_U} (hI : k_ok ad) {a0 : Int32} {sz : Nat} {r : Int32} (hf : f_X11_isLetter a0 = some r) : Met l yX11_isLetter (.code yX11_isLetter cX11_isLetter 1 (some .boolean) :: lw_g) rm_X11_isLetter (k_Pre D G ad u sz [.int a0]) (k_Qi D G ad u r sz) 0 0 (k_A ad sz) := by
  refine k_ofW (by decide +kernel) hI (Nat.le_of_ble_eq_true rfl) ?_
  intro p e s m args below meth c X hr hlk hU hS ls hl
  have hl : lv_has ls 1 [(0, .int a0)] := hl
  unfold f_X11_isLetter at hf
  refine lv_iload_n X.1 X.2.1 dX11_isLetter_0 rfl (lv_at hl 0 rfl) ?_
  refine lv_bipush (v := 97) X.1 X.2.1 dX11_isLetter_1 (by decide) ?_
  refine lv_bipush (v := 122) X.1 X.2.1 dX11_isLetter_3 (by decide) ?_
  obtain ⟨r5, hr5, hf⟩ := k_bdE hf
  refine k_backi X hS (k_runS (As := [.int a0, .int 97, .int 122]) (rest := []) X hS hU sl_X11_57 (c_X11_within X.2.2.2.2.2.2.1 hr5) rfl rfl rfl hl.1 ⟨Nat.le_of_ble_eq_true rfl, Nat.le_of_ble_eq_true rfl⟩ (Nat.le_of_ble_eq_true rfl) dX11_isLetter_5 ⟨Nat.zero_le _, Nat.zero_le _⟩) (fun H locs hU hS => ?_)
  obtain ⟨hi8, hf⟩ := k_ckE hf
  have hz := Option.some.inj hf
  subst hz
  exact k_iret (v := r5) X hU hS hr hlk (k_nb hi8) rfl dX11_isLetter_8
def rm_X11_isDigit : Room := { frames := 1, cells := 0, slots := 0, locals := 22 }
set_option maxRecDepth 100000 in
set_option maxHeartbeats 4000000 in
theorem c_X11_isDigit {l : Launch} {D : va_G} {G : Nat → ClassId} {ad : Nat → Nat → Nat} {u : k_U} (hI : k_ok ad) {a0 : Int32} {sz : Nat} {r : Int32} (hf : f_X11_isDigit a0 = some r) : Met l yX11_isDigit (.code yX11_isDigit cX11_isDigit 1 (some .boolean) :: lw_g) rm_X11_isDigit (k_Pre D G ad u sz [.int a0]) (k_Qi D G ad u r sz) 0 0 (k_A ad sz) := by
  refine k_ofW (by decide +kernel) hI (Nat.le_of_ble_eq_true rfl) ?_
  intro p e s m args below meth c X hr hlk hU hS ls hl
  have hl : lv_has ls 1 [(0, .int a0)] := hl
  unfold f_X11_isDigit at hf
  refine lv_iload_n X.1 X.2.1 dX11_isDigit_0 rfl (lv_at hl 0 rfl) ?_
  refine lv_bipush (v := 48) X.1 X.2.1 dX11_isDigit_1 (by decide) ?_
  refine lv_bipush (v := 57) X.1 X.2.1 dX11_isDigit_3 (by decide) ?_
  obtain ⟨r5, hr5, hf⟩ := k_bdE hf
  refine k_backi X hS (k_runS (As := [.int a0, .int 48, .int 57]) (rest := []) X hS hU sl_X11_57 (c_X11_within X.2.2.2.2.2.2.1 hr5) rfl rfl rfl hl.1 ⟨Nat.le_of_ble_eq_true rfl, Nat.le_of_ble_eq_true rfl⟩ (Nat.le_of_ble_eq_true rfl) dX11_isDigit_5 ⟨Nat.zero_le _, Nat.zero_le _⟩) (fun H locs hU hS => ?_)
  obtain ⟨hi8, hf⟩ := k_ckE hf
  have hz := Option.some.inj hf
  subst hz
  exact k_iret (v := r5) X hU hS hr hlk (k_nb hi8) rfl dX11_isDigit_8
def rm_X11_advance : Room := { frames := 2, cells := 0, slots := 0, locals := 42 }
set_option maxRecDepth 100000 in
set_option maxHeartbeats 4000000 in
theorem c_X11_advance {l : Launch} {D : va_G} {G : Nat → ClassId} {ad : Nat → Nat → Nat} {u : k_U} (hI : k_ok ad) {w : k_M} (hw : u 5 = w) {sz : Nat} {r : k_M} (hf : f_X11_advance w = some r) : Met l yX11_advance (.code yX11_advance cX11_advance 2 none :: lw_g) rm_X11_advance (k_Pre D G ad u sz [.ref (ad 5 0)]) (k_Qv D G ad (k_uc u 5 r) sz) 0 0 (k_A ad sz) := by
  refine k_ofW (by decide +kernel) hI (Nat.le_of_ble_eq_true rfl) ?_
  intro p e s m args below meth c X hr hlk hU hS ls hl
  have hl : lv_has ls 2 [(0, .ref (ad 5 0))] := hl
  have hU : k_Uv D G ad (k_uc u 5 w) s.heap := by rw [← hw, k_uc_id]; exact hU
  have J224 : ∀ (H : Heap) (locs : List Loc) (ls : Array Slot) (w : k_M) (as0 : Int32), k_Uv D G ad (k_uc u 5 w) H → va_S (k_A ad sz) s.heap H locs → lv_has ls 2 [] → f_X11_advance_224 w as0 = some r → W p l e rm_X11_advance s m args below meth c H locs 0 0 (MQ below (k_Qv D G ad (k_uc u 5 r) sz) args s 0 0 (k_A ad sz)) (F0 m 224 ls [.int as0, .ref (ad 5 0)]) := by
    intro H locs ls w as0 hU hS hl hf
    unfold f_X11_advance_224 at hf
    obtain ⟨w224, e224, hf⟩ := k_ltE hf
    refine k_putw X hU hS sh_5_0 fp_X11_261 rfl e224 rfl rfl dX11_advance_224 (fun H locs hU hS => ?_)
    have hz := Option.some.inj hf
    subst hz
    exact k_vret X hU hS hr hlk dX11_advance_227
  have L125 : ∀ (n125 : Nat) (H : Heap) (locs : List Loc) (ls : Array Slot) (w : k_M), k_Uv D G ad (k_uc u 5 w) H → va_S (k_A ad sz) s.heap H locs → lv_has ls 2 [(0, .ref (ad 5 0))] → f_X11_advance_125 n125 w = some r → W p l e rm_X11_advance s m args below meth c H locs 0 0 (MQ below (k_Qv D G ad (k_uc u 5 r) sz) args s 0 0 (k_A ad sz)) (F0 m 125 ls []) := by
    intro n125
    induction n125 with
    | zero =>
      intro H locs ls w hU hS hl hf
      cases (show none = some r from hf)
    | succ n125 ih125 =>
      have J176 : ∀ (H : Heap) (locs : List Loc) (ls : Array Slot) (w : k_M) (as0 : Int32), k_Uv D G ad (k_uc u 5 w) H → va_S (k_A ad sz) s.heap H locs → lv_has ls 2 [(0, .ref (ad 5 0))] → f_X11_advance_176 (f_X11_advance_125 n125) w as0 = some r → W p l e rm_X11_advance s m args below meth c H locs 0 0 (MQ below (k_Qv D G ad (k_uc u 5 r) sz) args s 0 0 (k_A ad sz)) (F0 m 176 ls [.int as0, .ref (ad 5 0)]) := by
        intro H locs ls w as0 hU hS hl hf
        unfold f_X11_advance_176 at hf
        obtain ⟨w176, e176, hf⟩ := k_ltE hf
        refine k_putw X hU hS sh_5_0 fp_X11_258 rfl e176 rfl rfl dX11_advance_176 (fun H locs hU hS => ?_)
        refine lv_aload_n X.1 X.2.1 dX11_advance_179 rfl (lv_at hl 0 rfl) ?_
        refine lv_dup X.1 X.2.1 dX11_advance_180 rfl ?_
        refine k_getw (v := .int (w176 0 12)) X hU sh_5_0 fl_X11_249 rfl dX11_advance_181 ?_
        refine lv_iconst (v := 1) X.1 X.2.1 dX11_advance_184 (by decide) ?_
        refine lv_iadd X.1 X.2.1 dX11_advance_185 ?_
        obtain ⟨w186, e186, hf⟩ := k_ltE hf
        refine k_putw X hU hS sh_5_0 fp_X11_249 rfl e186 rfl rfl dX11_advance_186 (fun H locs hU hS => ?_)
        refine lv_goto (tgt := 125) X.1 X.2.1 dX11_advance_189 (by decide) ?_
        exact ih125 _ _ _ w186 hU hS (lv_sub hl [0] rfl) hf
      intro H locs ls w hU hS hl hf
      replace hf : f_X11_advance_125_b (f_X11_advance_125 n125) w = some r := hf
      unfold f_X11_advance_125_b at hf
      refine lv_aload_n X.1 X.2.1 dX11_advance_125 rfl (lv_at hl 0 rfl) ?_
      refine lv_aload_n X.1 X.2.1 dX11_advance_126 rfl (lv_at hl 0 rfl) ?_
      refine k_getw (v := .int (w 0 12)) X hU sh_5_0 fl_X11_249 rfl dX11_advance_127 ?_
      obtain ⟨r130, hr130, hf⟩ := k_bdE hf
      refine k_backi X hS (k_runV (As := [.int (w 0 12)]) (rest := []) X hS hU sh_5_0 (by decide) rfl vl_X11_252 (c_X11_byteAt X.2.2.2.2.2.2.1 (k_uc_s _ _ _) hr130) rfl rfl rfl hl.1 ⟨Nat.le_of_ble_eq_true rfl, Nat.le_of_ble_eq_true rfl⟩ (Nat.le_of_ble_eq_true rfl) dX11_advance_130 ⟨Nat.zero_le _, Nat.zero_le _⟩) (fun H locs hU hS => ?_)
      obtain ⟨r133, hr133, hf⟩ := k_bdE hf
      refine k_backi X hS (k_runS (As := [.int r130]) (rest := []) X hS hU sl_X11_267 (c_X11_isDigit X.2.2.2.2.2.2.1 hr133) rfl rfl rfl hl.1 ⟨Nat.le_of_ble_eq_true rfl, Nat.le_of_ble_eq_true rfl⟩ (Nat.le_of_ble_eq_true rfl) dX11_advance_133 ⟨Nat.zero_le _, Nat.zero_le _⟩) (fun H locs hU hS => ?_)
      refine lv_if_eq (tgt := 227) X.1 X.2.1 dX11_advance_136 (by decide) (fun c136 => ?_) (fun c136 => ?_)
      · replace hf := k_ifP hf c136
        have hz := Option.some.inj hf
        subst hz
        exact k_vret X hU hS hr hlk dX11_advance_227
      · replace hf := k_ifN hf c136
        refine lv_aload_n X.1 X.2.1 dX11_advance_139 rfl (lv_at hl 0 rfl) ?_
        refine lv_aload_n X.1 X.2.1 dX11_advance_140 rfl (lv_at hl 0 rfl) ?_
        refine k_getw (v := .int (w 0 14)) X hU sh_5_0 fl_X11_258 rfl dX11_advance_141 ?_
        refine lv_ldcw (v := 999999) X.1 X.2.1 X.2.2.2.1 (X.2.2.2.2.1 _ t_1713) dX11_advance_144 ?_
        refine lv_icmp_le (tgt := 157) X.1 X.2.1 dX11_advance_147 (by decide) (fun c147 => ?_) (fun c147 => ?_)
        · replace hf := k_ifP hf c147
          refine lv_bipush (v := 10) X.1 X.2.1 dX11_advance_157 (by decide) ?_
          refine lv_aload_n X.1 X.2.1 dX11_advance_159 rfl (lv_at hl 0 rfl) ?_
          refine k_getw (v := .int (w 0 14)) X hU sh_5_0 fl_X11_258 rfl dX11_advance_160 ?_
          refine lv_imul X.1 X.2.1 dX11_advance_163 ?_
          refine lv_aload_n X.1 X.2.1 dX11_advance_164 rfl (lv_at hl 0 rfl) ?_
          refine lv_aload_n X.1 X.2.1 dX11_advance_165 rfl (lv_at hl 0 rfl) ?_
          refine k_getw (v := .int (w 0 12)) X hU sh_5_0 fl_X11_249 rfl dX11_advance_166 ?_
          obtain ⟨r169, hr169, hf⟩ := k_bdE hf
          refine k_backi X hS (k_runV (As := [.int (w 0 12)]) (rest := [.int (10 * (w 0 14)), .ref (ad 5 0)]) X hS hU sh_5_0 (by decide) rfl vl_X11_252 (c_X11_byteAt X.2.2.2.2.2.2.1 (k_uc_s _ _ _) hr169) rfl rfl rfl hl.1 ⟨Nat.le_of_ble_eq_true rfl, Nat.le_of_ble_eq_true rfl⟩ (Nat.le_of_ble_eq_true rfl) dX11_advance_169 ⟨Nat.zero_le _, Nat.zero_le _⟩) (fun H locs hU hS => ?_)
          refine lv_iadd X.1 X.2.1 dX11_advance_172 ?_
          refine lv_bipush (v := 48) X.1 X.2.1 dX11_advance_173 (by decide) ?_
          refine lv_isub X.1 X.2.1 dX11_advance_175 ?_
          exact J176 _ _ _ w (((10 * (w 0 14)) + r169) - 48) hU hS (lv_sub hl [0] rfl) hf
        · replace hf := k_ifN hf c147
          refine lv_aload_n X.1 X.2.1 dX11_advance_150 rfl (lv_at hl 0 rfl) ?_
          refine k_getw (v := .int (w 0 14)) X hU sh_5_0 fl_X11_258 rfl dX11_advance_151 ?_
          refine lv_goto (tgt := 176) X.1 X.2.1 dX11_advance_154 (by decide) ?_
          exact J176 _ _ _ w (w 0 14) hU hS (lv_sub hl [0] rfl) hf
  have L86 : ∀ (n86 : Nat) (H : Heap) (locs : List Loc) (ls : Array Slot) (w : k_M), k_Uv D G ad (k_uc u 5 w) H → va_S (k_A ad sz) s.heap H locs → lv_has ls 2 [(0, .ref (ad 5 0))] → f_X11_advance_86 n86 w = some r → W p l e rm_X11_advance s m args below meth c H locs 0 0 (MQ below (k_Qv D G ad (k_uc u 5 r) sz) args s 0 0 (k_A ad sz)) (F0 m 86 ls []) := by
    intro n86
    induction n86 with
    | zero =>
      intro H locs ls w hU hS hl hf
      cases (show none = some r from hf)
    | succ n86 ih86 =>
      intro H locs ls w hU hS hl hf
      replace hf : f_X11_advance_86_b (f_X11_advance_86 n86) w = some r := hf
      unfold f_X11_advance_86_b at hf
      refine lv_aload_n X.1 X.2.1 dX11_advance_86 rfl (lv_at hl 0 rfl) ?_
      refine lv_aload_n X.1 X.2.1 dX11_advance_87 rfl (lv_at hl 0 rfl) ?_
      refine k_getw (v := .int (w 0 12)) X hU sh_5_0 fl_X11_249 rfl dX11_advance_88 ?_
      obtain ⟨r91, hr91, hf⟩ := k_bdE hf
      refine k_backi X hS (k_runV (As := [.int (w 0 12)]) (rest := []) X hS hU sh_5_0 (by decide) rfl vl_X11_252 (c_X11_byteAt X.2.2.2.2.2.2.1 (k_uc_s _ _ _) hr91) rfl rfl rfl hl.1 ⟨Nat.le_of_ble_eq_true rfl, Nat.le_of_ble_eq_true rfl⟩ (Nat.le_of_ble_eq_true rfl) dX11_advance_91 ⟨Nat.zero_le _, Nat.zero_le _⟩) (fun H locs hU hS => ?_)
      obtain ⟨r94, hr94, hf⟩ := k_bdE hf
      refine k_backi X hS (k_runS (As := [.int r91]) (rest := []) X hS hU sl_X11_264 (c_X11_isLetter X.2.2.2.2.2.2.1 hr94) rfl rfl rfl hl.1 ⟨Nat.le_of_ble_eq_true rfl, Nat.le_of_ble_eq_true rfl⟩ (Nat.le_of_ble_eq_true rfl) dX11_advance_94 ⟨Nat.zero_le _, Nat.zero_le _⟩) (fun H locs hU hS => ?_)
      refine lv_if_eq (tgt := 227) X.1 X.2.1 dX11_advance_97 (by decide) (fun c97 => ?_) (fun c97 => ?_)
      · replace hf := k_ifP hf c97
        have hz := Option.some.inj hf
        subst hz
        exact k_vret X hU hS hr hlk dX11_advance_227
      · replace hf := k_ifN hf c97
        refine lv_aload_n X.1 X.2.1 dX11_advance_100 rfl (lv_at hl 0 rfl) ?_
        refine lv_dup X.1 X.2.1 dX11_advance_101 rfl ?_
        refine k_getw (v := .int (w 0 12)) X hU sh_5_0 fl_X11_249 rfl dX11_advance_102 ?_
        refine lv_iconst (v := 1) X.1 X.2.1 dX11_advance_105 (by decide) ?_
        refine lv_iadd X.1 X.2.1 dX11_advance_106 ?_
        obtain ⟨w107, e107, hf⟩ := k_ltE hf
        refine k_putw X hU hS sh_5_0 fp_X11_249 rfl e107 rfl rfl dX11_advance_107 (fun H locs hU hS => ?_)
        refine lv_goto (tgt := 86) X.1 X.2.1 dX11_advance_110 (by decide) ?_
        exact ih86 _ _ _ w107 hU hS (lv_sub hl [0] rfl) hf
  have L0 : ∀ (n0 : Nat) (H : Heap) (locs : List Loc) (ls : Array Slot) (w : k_M), k_Uv D G ad (k_uc u 5 w) H → va_S (k_A ad sz) s.heap H locs → lv_has ls 2 [(0, .ref (ad 5 0))] → f_X11_advance_0 n0 w = some r → W p l e rm_X11_advance s m args below meth c H locs 0 0 (MQ below (k_Qv D G ad (k_uc u 5 r) sz) args s 0 0 (k_A ad sz)) (F0 m 0 ls []) := by
    intro n0
    induction n0 with
    | zero =>
      intro H locs ls w hU hS hl hf
      cases (show none = some r from hf)
    | succ n0 ih0 =>
      have J26 : ∀ (H : Heap) (locs : List Loc) (ls : Array Slot) (w : k_M), k_Uv D G ad (k_uc u 5 w) H → va_S (k_A ad sz) s.heap H locs → lv_has ls 2 [(0, .ref (ad 5 0))] → f_X11_advance_26 (f_X11_advance_0 n0) w = some r → W p l e rm_X11_advance s m args below meth c H locs 0 0 (MQ below (k_Qv D G ad (k_uc u 5 r) sz) args s 0 0 (k_A ad sz)) (F0 m 26 ls []) := by
        intro H locs ls w hU hS hl hf
        unfold f_X11_advance_26 at hf
        refine lv_aload_n X.1 X.2.1 dX11_advance_26 rfl (lv_at hl 0 rfl) ?_
        refine lv_dup X.1 X.2.1 dX11_advance_27 rfl ?_
        refine k_getw (v := .int (w 0 12)) X hU sh_5_0 fl_X11_249 rfl dX11_advance_28 ?_
        refine lv_iconst (v := 1) X.1 X.2.1 dX11_advance_31 (by decide) ?_
        refine lv_iadd X.1 X.2.1 dX11_advance_32 ?_
        obtain ⟨w33, e33, hf⟩ := k_ltE hf
        refine k_putw X hU hS sh_5_0 fp_X11_249 rfl e33 rfl rfl dX11_advance_33 (fun H locs hU hS => ?_)
        refine lv_goto (tgt := 0) X.1 X.2.1 dX11_advance_36 (by decide) ?_
        exact ih0 _ _ _ w33 hU hS (lv_sub hl [0] rfl) hf
      intro H locs ls w hU hS hl hf
      replace hf : f_X11_advance_0_b (f_X11_advance_0 n0) w = some r := hf
      unfold f_X11_advance_0_b at hf
      refine lv_aload_n X.1 X.2.1 dX11_advance_0 rfl (lv_at hl 0 rfl) ?_
      refine lv_aload_n X.1 X.2.1 dX11_advance_1 rfl (lv_at hl 0 rfl) ?_
      refine k_getw (v := .int (w 0 12)) X hU sh_5_0 fl_X11_249 rfl dX11_advance_2 ?_
      obtain ⟨r5, hr5, hf⟩ := k_bdE hf
      refine k_backi X hS (k_runV (As := [.int (w 0 12)]) (rest := []) X hS hU sh_5_0 (by decide) rfl vl_X11_252 (c_X11_byteAt X.2.2.2.2.2.2.1 (k_uc_s _ _ _) hr5) rfl rfl rfl hl.1 ⟨Nat.le_of_ble_eq_true rfl, Nat.le_of_ble_eq_true rfl⟩ (Nat.le_of_ble_eq_true rfl) dX11_advance_5 ⟨Nat.zero_le _, Nat.zero_le _⟩) (fun H locs hU hS => ?_)
      refine lv_bipush (v := 32) X.1 X.2.1 dX11_advance_8 (by decide) ?_
      refine lv_icmp_eq (tgt := 26) X.1 X.2.1 dX11_advance_10 (by decide) (fun c10 => ?_) (fun c10 => ?_)
      · replace hf := k_ifP hf c10
        exact J26 _ _ _ w hU hS (lv_sub hl [0] rfl) hf
      · replace hf := k_ifN hf c10
        refine lv_aload_n X.1 X.2.1 dX11_advance_13 rfl (lv_at hl 0 rfl) ?_
        refine lv_aload_n X.1 X.2.1 dX11_advance_14 rfl (lv_at hl 0 rfl) ?_
        refine k_getw (v := .int (w 0 12)) X hU sh_5_0 fl_X11_249 rfl dX11_advance_15 ?_
        obtain ⟨r18, hr18, hf⟩ := k_bdE hf
        refine k_backi X hS (k_runV (As := [.int (w 0 12)]) (rest := []) X hS hU sh_5_0 (by decide) rfl vl_X11_252 (c_X11_byteAt X.2.2.2.2.2.2.1 (k_uc_s _ _ _) hr18) rfl rfl rfl hl.1 ⟨Nat.le_of_ble_eq_true rfl, Nat.le_of_ble_eq_true rfl⟩ (Nat.le_of_ble_eq_true rfl) dX11_advance_18 ⟨Nat.zero_le _, Nat.zero_le _⟩) (fun H locs hU hS => ?_)
        refine lv_bipush (v := 10) X.1 X.2.1 dX11_advance_21 (by decide) ?_
        refine lv_icmp_ne (tgt := 39) X.1 X.2.1 dX11_advance_23 (by decide) (fun c23 => ?_) (fun c23 => ?_)
        · replace hf := k_ifN hf c23
          refine lv_aload_n X.1 X.2.1 dX11_advance_39 rfl (lv_at hl 0 rfl) ?_
          refine lv_aload_n X.1 X.2.1 dX11_advance_40 rfl (lv_at hl 0 rfl) ?_
          refine k_getw (v := .int (w 0 12)) X hU sh_5_0 fl_X11_249 rfl dX11_advance_41 ?_
          obtain ⟨w44, e44, hf⟩ := k_ltE hf
          refine k_putw X hU hS sh_5_0 fp_X11_255 rfl e44 rfl rfl dX11_advance_44 (fun H locs hU hS => ?_)
          refine lv_aload_n X.1 X.2.1 dX11_advance_47 rfl (lv_at hl 0 rfl) ?_
          refine lv_iconst (v := 0) X.1 X.2.1 dX11_advance_48 (by decide) ?_
          obtain ⟨w49, e49, hf⟩ := k_ltE hf
          refine k_putw X hU hS sh_5_0 fp_X11_258 rfl e49 rfl rfl dX11_advance_49 (fun H locs hU hS => ?_)
          refine lv_aload_n X.1 X.2.1 dX11_advance_52 rfl (lv_at hl 0 rfl) ?_
          refine lv_aload_n X.1 X.2.1 dX11_advance_53 rfl (lv_at hl 0 rfl) ?_
          refine k_getw (v := .int (w49 0 12)) X hU sh_5_0 fl_X11_249 rfl dX11_advance_54 ?_
          obtain ⟨r57, hr57, hf⟩ := k_bdE hf
          refine k_backi X hS (k_runV (As := [.int (w49 0 12)]) (rest := []) X hS hU sh_5_0 (by decide) rfl vl_X11_252 (c_X11_byteAt X.2.2.2.2.2.2.1 (k_uc_s _ _ _) hr57) rfl rfl rfl hl.1 ⟨Nat.le_of_ble_eq_true rfl, Nat.le_of_ble_eq_true rfl⟩ (Nat.le_of_ble_eq_true rfl) dX11_advance_57 ⟨Nat.zero_le _, Nat.zero_le _⟩) (fun H locs hU hS => ?_)
          refine lv_istore_n (lv' := [(1, .int r57), (0, .ref (ad 5 0))]) X.1 X.2.1 dX11_advance_60 rfl hl (by decide) rfl (fun ls hl => ?_)
          refine lv_iload_n X.1 X.2.1 dX11_advance_61 rfl (lv_at hl 0 rfl) ?_
          refine lv_iconst (v := (-1)) X.1 X.2.1 dX11_advance_62 (by decide) ?_
          refine lv_icmp_ne (tgt := 74) X.1 X.2.1 dX11_advance_63 (by decide) (fun c63 => ?_) (fun c63 => ?_)
          · replace hf := k_ifN hf c63
            refine lv_iload_n X.1 X.2.1 dX11_advance_74 rfl (lv_at hl 0 rfl) ?_
            obtain ⟨r75, hr75, hf⟩ := k_bdE hf
            refine k_backi X hS (k_runS (As := [.int r57]) (rest := []) X hS hU sl_X11_264 (c_X11_isLetter X.2.2.2.2.2.2.1 hr75) rfl rfl rfl hl.1 ⟨Nat.le_of_ble_eq_true rfl, Nat.le_of_ble_eq_true rfl⟩ (Nat.le_of_ble_eq_true rfl) dX11_advance_75 ⟨Nat.zero_le _, Nat.zero_le _⟩) (fun H locs hU hS => ?_)
            refine lv_if_eq (tgt := 113) X.1 X.2.1 dX11_advance_78 (by decide) (fun c78 => ?_) (fun c78 => ?_)
            · replace hf := k_ifP hf c78
              refine lv_iload_n X.1 X.2.1 dX11_advance_113 rfl (lv_at hl 0 rfl) ?_
              obtain ⟨r114, hr114, hf⟩ := k_bdE hf
              refine k_backi X hS (k_runS (As := [.int r57]) (rest := []) X hS hU sl_X11_267 (c_X11_isDigit X.2.2.2.2.2.2.1 hr114) rfl rfl rfl hl.1 ⟨Nat.le_of_ble_eq_true rfl, Nat.le_of_ble_eq_true rfl⟩ (Nat.le_of_ble_eq_true rfl) dX11_advance_114 ⟨Nat.zero_le _, Nat.zero_le _⟩) (fun H locs hU hS => ?_)
              refine lv_if_eq (tgt := 192) X.1 X.2.1 dX11_advance_117 (by decide) (fun c117 => ?_) (fun c117 => ?_)
              · replace hf := k_ifP hf c117
                refine lv_aload_n X.1 X.2.1 dX11_advance_192 rfl (lv_at hl 1 rfl) ?_
                refine lv_dup X.1 X.2.1 dX11_advance_193 rfl ?_
                refine k_getw (v := .int (w49 0 12)) X hU sh_5_0 fl_X11_249 rfl dX11_advance_194 ?_
                refine lv_iconst (v := 1) X.1 X.2.1 dX11_advance_197 (by decide) ?_
                refine lv_iadd X.1 X.2.1 dX11_advance_198 ?_
                obtain ⟨w199, e199, hf⟩ := k_ltE hf
                refine k_putw X hU hS sh_5_0 fp_X11_249 rfl e199 rfl rfl dX11_advance_199 (fun H locs hU hS => ?_)
                refine lv_aload_n X.1 X.2.1 dX11_advance_202 rfl (lv_at hl 1 rfl) ?_
                refine lv_iload_n X.1 X.2.1 dX11_advance_203 rfl (lv_at hl 0 rfl) ?_
                refine lv_bipush (v := 59) X.1 X.2.1 dX11_advance_204 (by decide) ?_
                refine lv_icmp_ne (tgt := 213) X.1 X.2.1 dX11_advance_206 (by decide) (fun c206 => ?_) (fun c206 => ?_)
                · replace hf := k_ifN hf c206
                  refine lv_iload_n X.1 X.2.1 dX11_advance_213 rfl (lv_at hl 0 rfl) ?_
                  refine lv_bipush (v := 45) X.1 X.2.1 dX11_advance_214 (by decide) ?_
                  refine lv_icmp_ne (tgt := 223) X.1 X.2.1 dX11_advance_216 (by decide) (fun c216 => ?_) (fun c216 => ?_)
                  · replace hf := k_ifN hf c216
                    refine lv_iconst (v := 5) X.1 X.2.1 dX11_advance_223 (by decide) ?_
                    exact J224 _ _ _ w199 5 hU hS (lv_sub hl [] rfl) hf
                  · replace hf := k_ifP hf c216
                    refine lv_iconst (v := 3) X.1 X.2.1 dX11_advance_219 (by decide) ?_
                    refine lv_goto (tgt := 224) X.1 X.2.1 dX11_advance_220 (by decide) ?_
                    exact J224 _ _ _ w199 3 hU hS (lv_sub hl [] rfl) hf
                · replace hf := k_ifP hf c206
                  refine lv_iconst (v := 4) X.1 X.2.1 dX11_advance_209 (by decide) ?_
                  refine lv_goto (tgt := 224) X.1 X.2.1 dX11_advance_210 (by decide) ?_
                  exact J224 _ _ _ w199 4 hU hS (lv_sub hl [] rfl) hf
              · replace hf := k_ifN hf c117
                refine lv_aload_n X.1 X.2.1 dX11_advance_120 rfl (lv_at hl 1 rfl) ?_
                refine lv_iconst (v := 2) X.1 X.2.1 dX11_advance_121 (by decide) ?_
                obtain ⟨w122, e122, hf⟩ := k_ltE hf
                refine k_putw X hU hS sh_5_0 fp_X11_261 rfl e122 rfl rfl dX11_advance_122 (fun H locs hU hS => ?_)
                exact L125 k_N _ _ _ w122 hU hS (lv_sub hl [1] rfl) hf
            · replace hf := k_ifN hf c78
              refine lv_aload_n X.1 X.2.1 dX11_advance_81 rfl (lv_at hl 1 rfl) ?_
              refine lv_iconst (v := 1) X.1 X.2.1 dX11_advance_82 (by decide) ?_
              obtain ⟨w83, e83, hf⟩ := k_ltE hf
              refine k_putw X hU hS sh_5_0 fp_X11_261 rfl e83 rfl rfl dX11_advance_83 (fun H locs hU hS => ?_)
              exact L86 k_N _ _ _ w83 hU hS (lv_sub hl [1] rfl) hf
          · replace hf := k_ifP hf c63
            refine lv_aload_n X.1 X.2.1 dX11_advance_66 rfl (lv_at hl 1 rfl) ?_
            refine lv_iconst (v := 0) X.1 X.2.1 dX11_advance_67 (by decide) ?_
            obtain ⟨w68, e68, hf⟩ := k_ltE hf
            refine k_putw X hU hS sh_5_0 fp_X11_261 rfl e68 rfl rfl dX11_advance_68 (fun H locs hU hS => ?_)
            refine lv_goto (tgt := 227) X.1 X.2.1 dX11_advance_71 (by decide) ?_
            have hz := Option.some.inj hf
            subst hz
            exact k_vret X hU hS hr hlk dX11_advance_227
        · replace hf := k_ifP hf c23
          exact J26 _ _ _ w hU hS (lv_sub hl [0] rfl) hf
  unfold f_X11_advance at hf
  exact L0 k_N _ _ _ w hU hS (lv_sub hl [0] rfl) hf
def rm_X11_isWord : Room := { frames := 4, cells := 0, slots := 0, locals := 101 }
set_option maxRecDepth 100000 in
set_option maxHeartbeats 4000000 in
theorem c_X11_isWord {l : Launch} {D : va_G} {G : Nat → ClassId} {ad : Nat → Nat → Nat} {u : k_U} (hI : k_ok ad) {w : k_M} (hw : u 5 = w) {t1 : Nat} (ht1 : t1 < 33) {sz : Nat} {r : Int32} (hf : f_X11_isWord w t1 = some r) : Met l yX11_isWord (.code yX11_isWord cX11_isWord 4 (some .boolean) :: lw_g) rm_X11_isWord (k_Pre D G ad u sz [.ref (ad 5 0), .ref (ad 30 t1)]) (k_Qi D G ad u r sz) 0 0 (k_A ad sz) := by
  refine k_ofW (by decide +kernel) hI (Nat.le_of_ble_eq_true rfl) ?_
  intro p e s m args below meth c X hr hlk hU hS ls hl
  have hl : lv_has ls 4 [(0, .ref (ad 5 0)), (1, .ref (ad 30 t1))] := hl
  have hU : k_Uv D G ad (k_uc u 5 w) s.heap := by rw [← hw, k_uc_id]; exact hU
  have L32 : ∀ (n32 : Nat) (H : Heap) (locs : List Loc) (ls : Array Slot) (a2 : Int32) (a3 : Int32), k_Uv D G ad (k_uc u 5 w) H → va_S (k_A ad sz) s.heap H locs → lv_has ls 4 [(0, .ref (ad 5 0)), (1, .ref (ad 30 t1)), (2, .int a2), (3, .int a3)] → f_X11_isWord_32 n32 w t1 a2 a3 = some r → W p l e rm_X11_isWord s m args below meth c H locs 0 0 (MQ below (k_Qi D G ad u r sz) args s 0 0 (k_A ad sz)) (F0 m 32 ls []) := by
    intro n32
    induction n32 with
    | zero =>
      intro H locs ls a2 a3 hU hS hl hf
      cases (show none = some r from hf)
    | succ n32 ih32 =>
      have J68 : ∀ (H : Heap) (locs : List Loc) (ls : Array Slot) (a3 : Int32) (as0 : Int32), k_Uv D G ad (k_uc u 5 w) H → va_S (k_A ad sz) s.heap H locs → lv_has ls 4 [(0, .ref (ad 5 0)), (1, .ref (ad 30 t1)), (3, .int a3)] → f_X11_isWord_68 (f_X11_isWord_32 n32) w t1 a3 as0 = some r → W p l e rm_X11_isWord s m args below meth c H locs 0 0 (MQ below (k_Qi D G ad u r sz) args s 0 0 (k_A ad sz)) (F0 m 68 ls [.int as0]) := by
        intro H locs ls a3 as0 hU hS hl hf
        unfold f_X11_isWord_68 at hf
        refine lv_istore_n (lv' := [(2, .int as0), (0, .ref (ad 5 0)), (1, .ref (ad 30 t1)), (3, .int a3)]) X.1 X.2.1 dX11_isWord_68 rfl hl (by decide) rfl (fun ls hl => ?_)
        obtain ⟨x69, e69, hf⟩ := k_ltE hf
        refine lv_iinc (v := x69) (lv' := [(3, .int x69), (2, .int as0), (0, .ref (ad 5 0)), (1, .ref (ad 30 t1))]) X.1 X.2.1 dX11_isWord_69 hl (k := 3) rfl (by rw [e69]; rfl) (by decide) rfl (fun ls hl => ?_)
        refine lv_goto (tgt := 32) X.1 X.2.1 dX11_isWord_72 (by decide) ?_
        exact ih32 _ _ _ as0 x69 hU hS (lv_sub hl [2, 3, 1, 0] rfl) hf
      intro H locs ls a2 a3 hU hS hl hf
      replace hf : f_X11_isWord_32_b (f_X11_isWord_32 n32) w t1 a2 a3 = some r := hf
      unfold f_X11_isWord_32_b at hf
      refine lv_iload_n X.1 X.2.1 dX11_isWord_32 rfl (lv_at hl 3 rfl) ?_
      refine lv_aload_n X.1 X.2.1 dX11_isWord_33 rfl (lv_at hl 1 rfl) ?_
      refine k_backi X hS (k_runT (As := []) (rest := [.int a3]) X hS hU ht1 vl_X11_271 (c_J0_length X.2.2.2.2.2.2.1 ht1) rfl rfl rfl hl.1 ⟨Nat.le_of_ble_eq_true rfl, Nat.le_of_ble_eq_true rfl⟩ (Nat.le_of_ble_eq_true rfl) dX11_isWord_34 ⟨Nat.zero_le _, Nat.zero_le _⟩) (fun H locs hU hS => ?_)
      refine lv_icmp_ge (tgt := 75) X.1 X.2.1 dX11_isWord_37 (by decide) (fun c37 => ?_) (fun c37 => ?_)
      · replace hf := k_ifP hf c37
        refine lv_iload_n X.1 X.2.1 dX11_isWord_75 rfl (lv_at hl 2 rfl) ?_
        obtain ⟨hi76, hf⟩ := k_ckE hf
        rw [← hw, k_uc_id] at hU
        have hz := Option.some.inj hf
        subst hz
        exact k_iret (v := a2) X hU hS hr hlk (k_nb hi76) rfl dX11_isWord_76
      · replace hf := k_ifN hf c37
        refine lv_iload_n X.1 X.2.1 dX11_isWord_40 rfl (lv_at hl 2 rfl) ?_
        refine lv_if_eq (tgt := 75) X.1 X.2.1 dX11_isWord_41 (by decide) (fun c41 => ?_) (fun c41 => ?_)
        · replace hf := k_ifP hf c41
          refine lv_iload_n X.1 X.2.1 dX11_isWord_75 rfl (lv_at hl 2 rfl) ?_
          obtain ⟨hi76, hf⟩ := k_ckE hf
          rw [← hw, k_uc_id] at hU
          have hz := Option.some.inj hf
          subst hz
          exact k_iret (v := a2) X hU hS hr hlk (k_nb hi76) rfl dX11_isWord_76
        · replace hf := k_ifN hf c41
          refine lv_aload_n X.1 X.2.1 dX11_isWord_44 rfl (lv_at hl 0 rfl) ?_
          refine k_getw (v := .ref (ad 5 9)) X hU sh_5_0 fl_X11_32 rfl dX11_isWord_45 ?_
          refine lv_aload_n X.1 X.2.1 dX11_isWord_48 rfl (lv_at hl 0 rfl) ?_
          refine k_getw (v := .int (w 0 11)) X hU sh_5_0 fl_X11_255 rfl dX11_isWord_49 ?_
          refine lv_iload_n X.1 X.2.1 dX11_isWord_52 rfl (lv_at hl 3 rfl) ?_
          refine lv_iadd X.1 X.2.1 dX11_isWord_53 ?_
          obtain ⟨hi54, hf⟩ := k_ckE hf
          refine k_bldw (j0 := ((w 0 11) + a3).toNatClampNeg) X hU sh_5_9 (k_vin (n := 600) hi54 (by decide)) rfl dX11_isWord_54 ?_
          refine lv_aload_n X.1 X.2.1 dX11_isWord_55 rfl (lv_at hl 1 rfl) ?_
          refine lv_iload_n X.1 X.2.1 dX11_isWord_56 rfl (lv_at hl 3 rfl) ?_
          obtain ⟨hi57, hf⟩ := k_ckE hf
          refine k_backi X hS (k_runT (As := [.int a3]) (rest := [.int (w 9 (((w 0 11) + a3).toNatClampNeg))]) X hS hU ht1 vl_X11_275 (c_J0_charAt X.2.2.2.2.2.2.1 ht1 hi57) rfl rfl rfl hl.1 ⟨Nat.le_of_ble_eq_true rfl, Nat.le_of_ble_eq_true rfl⟩ (Nat.le_of_ble_eq_true rfl) dX11_isWord_57 ⟨Nat.zero_le _, Nat.zero_le _⟩) (fun H locs hU hS => ?_)
          refine lv_icmp_ne (tgt := 67) X.1 X.2.1 dX11_isWord_60 (by decide) (fun c60 => ?_) (fun c60 => ?_)
          · replace hf := k_ifN hf c60
            refine lv_iconst (v := 0) X.1 X.2.1 dX11_isWord_67 (by decide) ?_
            exact J68 _ _ _ a3 0 hU hS (lv_sub hl [0, 1, 3] rfl) hf
          · replace hf := k_ifP hf c60
            refine lv_iconst (v := 1) X.1 X.2.1 dX11_isWord_63 (by decide) ?_
            refine lv_goto (tgt := 68) X.1 X.2.1 dX11_isWord_64 (by decide) ?_
            exact J68 _ _ _ a3 1 hU hS (lv_sub hl [0, 1, 3] rfl) hf
  have J29 : ∀ (H : Heap) (locs : List Loc) (ls : Array Slot) (as0 : Int32), k_Uv D G ad (k_uc u 5 w) H → va_S (k_A ad sz) s.heap H locs → lv_has ls 4 [(0, .ref (ad 5 0)), (1, .ref (ad 30 t1))] → f_X11_isWord_29 w t1 as0 = some r → W p l e rm_X11_isWord s m args below meth c H locs 0 0 (MQ below (k_Qi D G ad u r sz) args s 0 0 (k_A ad sz)) (F0 m 29 ls [.int as0]) := by
    intro H locs ls as0 hU hS hl hf
    unfold f_X11_isWord_29 at hf
    refine lv_istore_n (lv' := [(2, .int as0), (0, .ref (ad 5 0)), (1, .ref (ad 30 t1))]) X.1 X.2.1 dX11_isWord_29 rfl hl (by decide) rfl (fun ls hl => ?_)
    refine lv_iconst (v := 0) X.1 X.2.1 dX11_isWord_30 (by decide) ?_
    refine lv_istore_n (lv' := [(3, .int 0), (2, .int as0), (0, .ref (ad 5 0)), (1, .ref (ad 30 t1))]) X.1 X.2.1 dX11_isWord_31 rfl hl (by decide) rfl (fun ls hl => ?_)
    exact L32 k_N _ _ _ as0 0 hU hS (lv_sub hl [2, 3, 1, 0] rfl) hf
  have J28 : ∀ (H : Heap) (locs : List Loc) (ls : Array Slot), k_Uv D G ad (k_uc u 5 w) H → va_S (k_A ad sz) s.heap H locs → lv_has ls 4 [(0, .ref (ad 5 0)), (1, .ref (ad 30 t1))] → f_X11_isWord_28 w t1 = some r → W p l e rm_X11_isWord s m args below meth c H locs 0 0 (MQ below (k_Qi D G ad u r sz) args s 0 0 (k_A ad sz)) (F0 m 28 ls []) := by
    intro H locs ls hU hS hl hf
    unfold f_X11_isWord_28 at hf
    refine lv_iconst (v := 0) X.1 X.2.1 dX11_isWord_28 (by decide) ?_
    exact J29 _ _ _ 0 hU hS (lv_sub hl [0, 1] rfl) hf
  unfold f_X11_isWord at hf
  refine lv_aload_n X.1 X.2.1 dX11_isWord_0 rfl (lv_at hl 0 rfl) ?_
  refine k_getw (v := .int (w 0 13)) X hU sh_5_0 fl_X11_261 rfl dX11_isWord_1 ?_
  refine lv_iconst (v := 1) X.1 X.2.1 dX11_isWord_4 (by decide) ?_
  refine lv_icmp_ne (tgt := 28) X.1 X.2.1 dX11_isWord_5 (by decide) (fun c5 => ?_) (fun c5 => ?_)
  · replace hf := k_ifN hf c5
    exact J28 _ _ _ hU hS (lv_sub hl [0, 1] rfl) hf
  · replace hf := k_ifP hf c5
    refine lv_aload_n X.1 X.2.1 dX11_isWord_8 rfl (lv_at hl 0 rfl) ?_
    refine k_getw (v := .int (w 0 12)) X hU sh_5_0 fl_X11_249 rfl dX11_isWord_9 ?_
    refine lv_aload_n X.1 X.2.1 dX11_isWord_12 rfl (lv_at hl 0 rfl) ?_
    refine k_getw (v := .int (w 0 11)) X hU sh_5_0 fl_X11_255 rfl dX11_isWord_13 ?_
    refine lv_isub X.1 X.2.1 dX11_isWord_16 ?_
    refine lv_aload_n X.1 X.2.1 dX11_isWord_17 rfl (lv_at hl 1 rfl) ?_
    refine k_backi X hS (k_runT (As := []) (rest := [.int ((w 0 12) - (w 0 11))]) X hS hU ht1 vl_X11_271 (c_J0_length X.2.2.2.2.2.2.1 ht1) rfl rfl rfl hl.1 ⟨Nat.le_of_ble_eq_true rfl, Nat.le_of_ble_eq_true rfl⟩ (Nat.le_of_ble_eq_true rfl) dX11_isWord_18 ⟨Nat.zero_le _, Nat.zero_le _⟩) (fun H locs hU hS => ?_)
    refine lv_icmp_ne (tgt := 28) X.1 X.2.1 dX11_isWord_21 (by decide) (fun c21 => ?_) (fun c21 => ?_)
    · replace hf := k_ifN hf c21
      exact J28 _ _ _ hU hS (lv_sub hl [0, 1] rfl) hf
    · replace hf := k_ifP hf c21
      refine lv_iconst (v := 1) X.1 X.2.1 dX11_isWord_24 (by decide) ?_
      refine lv_goto (tgt := 29) X.1 X.2.1 dX11_isWord_25 (by decide) ?_
      exact J29 _ _ _ 1 hU hS (lv_sub hl [0, 1] rfl) hf
def rm_X11_fails : Room := { frames := 0, cells := 0, slots := 0, locals := 0 }
set_option maxRecDepth 100000 in
set_option maxHeartbeats 4000000 in
theorem c_X11_fails {l : Launch} {D : va_G} {G : Nat → ClassId} {ad : Nat → Nat → Nat} {u : k_U} (hI : k_ok ad) {w : k_M} (hw : u 5 = w) {a1 : Int32} {sz : Nat} {r : (k_M × Int32)} (hf : f_X11_fails w a1 = some r) : Met l yX11_fails (.code yX11_fails cX11_fails 2 (some .boolean) :: lw_g) rm_X11_fails (k_Pre D G ad u sz [.ref (ad 5 0), .int a1]) (k_Qi D G ad (k_uc u 5 r.1) r.2 sz) 0 0 (k_A ad sz) := by
  refine k_ofW (by decide +kernel) hI (Nat.le_of_ble_eq_true rfl) ?_
  intro p e s m args below meth c X hr hlk hU hS ls hl
  have hl : lv_has ls 2 [(0, .ref (ad 5 0)), (1, .int a1)] := hl
  have hU : k_Uv D G ad (k_uc u 5 w) s.heap := by rw [← hw, k_uc_id]; exact hU
  unfold f_X11_fails at hf
  refine lv_aload_n X.1 X.2.1 dX11_fails_0 rfl (lv_at hl 0 rfl) ?_
  refine k_getw (v := .int (w 0 15)) X hU sh_5_0 fl_X11_279 rfl dX11_fails_1 ?_
  refine lv_if_ne (tgt := 20) X.1 X.2.1 dX11_fails_4 (by decide) (fun c4 => ?_) (fun c4 => ?_)
  · replace hf := k_ifN hf c4
    refine lv_iconst (v := 0) X.1 X.2.1 dX11_fails_20 (by decide) ?_
    have hz := Option.some.inj hf
    subst hz
    exact k_iret (v := 0) X hU hS hr hlk rfl rfl dX11_fails_21
  · replace hf := k_ifP hf c4
    refine lv_aload_n X.1 X.2.1 dX11_fails_7 rfl (lv_at hl 0 rfl) ?_
    refine lv_iload_n X.1 X.2.1 dX11_fails_8 rfl (lv_at hl 1 rfl) ?_
    obtain ⟨w9, e9, hf⟩ := k_ltE hf
    refine k_putw X hU hS sh_5_0 fp_X11_279 rfl e9 rfl rfl dX11_fails_9 (fun H locs hU hS => ?_)
    refine lv_aload_n X.1 X.2.1 dX11_fails_12 rfl (lv_at hl 0 rfl) ?_
    refine lv_aload_n X.1 X.2.1 dX11_fails_13 rfl (lv_at hl 0 rfl) ?_
    refine k_getw (v := .int (w9 0 11)) X hU sh_5_0 fl_X11_255 rfl dX11_fails_14 ?_
    obtain ⟨w17, e17, hf⟩ := k_ltE hf
    refine k_putw X hU hS sh_5_0 fp_X11_36 rfl e17 rfl rfl dX11_fails_17 (fun H locs hU hS => ?_)
    refine lv_iconst (v := 0) X.1 X.2.1 dX11_fails_20 (by decide) ?_
    have hz := Option.some.inj hf
    subst hz
    exact k_iret (v := 0) X hU hS hr hlk rfl rfl dX11_fails_21
def rm_X11_goesOn : Room := { frames := 3, cells := 0, slots := 0, locals := 63 }
set_option maxRecDepth 100000 in
set_option maxHeartbeats 4000000 in
theorem c_X11_goesOn {l : Launch} {D : va_G} {G : Nat → ClassId} {ad : Nat → Nat → Nat} {u : k_U} (hI : k_ok ad) {w : k_M} (hw : u 5 = w) {a1 : Int32} {a2 : Int32} {sz : Nat} {r : (k_M × Int32)} (hf : f_X11_goesOn w a1 a2 = some r) : Met l yX11_goesOn (.code yX11_goesOn cX11_goesOn 3 (some .boolean) :: lw_g) rm_X11_goesOn (k_Pre D G ad u sz [.ref (ad 5 0), .int a1, .int a2]) (k_Qi D G ad (k_uc u 5 r.1) r.2 sz) 0 0 (k_A ad sz) := by
  refine k_ofW (by decide +kernel) hI (Nat.le_of_ble_eq_true rfl) ?_
  intro p e s m args below meth c X hr hlk hU hS ls hl
  have hl : lv_has ls 3 [(0, .ref (ad 5 0)), (1, .int a1), (2, .int a2)] := hl
  have hU : k_Uv D G ad (k_uc u 5 w) s.heap := by rw [← hw, k_uc_id]; exact hU
  unfold f_X11_goesOn at hf
  refine lv_iload_n X.1 X.2.1 dX11_goesOn_0 rfl (lv_at hl 2 rfl) ?_
  refine lv_if_ne (tgt := 10) X.1 X.2.1 dX11_goesOn_1 (by decide) (fun c1 => ?_) (fun c1 => ?_)
  · replace hf := k_ifN hf c1
    refine lv_aload_n X.1 X.2.1 dX11_goesOn_10 rfl (lv_at hl 0 rfl) ?_
    obtain ⟨r11, hr11, hf⟩ := k_bdE hf
    refine k_backv X hS (k_runV (As := []) (rest := []) X hS hU sh_5_0 (by decide) rfl vl_X11_285 (c_X11_advance X.2.2.2.2.2.2.1 (k_uc_s _ _ _) hr11) rfl rfl rfl hl.1 ⟨Nat.le_of_ble_eq_true rfl, Nat.le_of_ble_eq_true rfl⟩ (Nat.le_of_ble_eq_true rfl) dX11_goesOn_11 ⟨Nat.zero_le _, Nat.zero_le _⟩) (fun H locs hU hS => ?_)
    rw [k_uc_uc] at hU
    refine lv_iconst (v := 1) X.1 X.2.1 dX11_goesOn_14 (by decide) ?_
    have hz := Option.some.inj hf
    subst hz
    exact k_iret (v := 1) X hU hS hr hlk rfl rfl dX11_goesOn_15
  · replace hf := k_ifP hf c1
    refine lv_aload_n X.1 X.2.1 dX11_goesOn_4 rfl (lv_at hl 0 rfl) ?_
    refine lv_iload_n X.1 X.2.1 dX11_goesOn_5 rfl (lv_at hl 1 rfl) ?_
    obtain ⟨r6, hr6, hf⟩ := k_bdE hf
    refine k_backi X hS (k_runV (As := [.int a1]) (rest := []) X hS hU sh_5_0 (by decide) rfl vl_X11_282 (c_X11_fails X.2.2.2.2.2.2.1 (k_uc_s _ _ _) hr6) rfl rfl rfl hl.1 ⟨Nat.le_of_ble_eq_true rfl, Nat.le_of_ble_eq_true rfl⟩ (Nat.le_of_ble_eq_true rfl) dX11_goesOn_6 ⟨Nat.zero_le _, Nat.zero_le _⟩) (fun H locs hU hS => ?_)
    rw [k_uc_uc] at hU
    obtain ⟨hi9, hf⟩ := k_ckE hf
    have hz := Option.some.inj hf
    subst hz
    exact k_iret (v := r6.2) X hU hS hr hlk (k_nb hi9) rfl dX11_goesOn_9
def rm_X11_stands : Room := { frames := 1, cells := 0, slots := 0, locals := 22 }
set_option maxRecDepth 100000 in
set_option maxHeartbeats 4000000 in
theorem c_X11_stands {l : Launch} {D : va_G} {G : Nat → ClassId} {ad : Nat → Nat → Nat} {u : k_U} (hI : k_ok ad) {w : k_M} (hw : u 5 = w) {a1 : Int32} {a2 : Int32} {sz : Nat} {r : (k_M × Int32)} (hf : f_X11_stands w a1 a2 = some r) : Met l yX11_stands (.code yX11_stands cX11_stands 3 (some .boolean) :: lw_g) rm_X11_stands (k_Pre D G ad u sz [.ref (ad 5 0), .int a1, .int a2]) (k_Qi D G ad (k_uc u 5 r.1) r.2 sz) 0 0 (k_A ad sz) := by
  refine k_ofW (by decide +kernel) hI (Nat.le_of_ble_eq_true rfl) ?_
  intro p e s m args below meth c X hr hlk hU hS ls hl
  have hl : lv_has ls 3 [(0, .ref (ad 5 0)), (1, .int a1), (2, .int a2)] := hl
  have hU : k_Uv D G ad (k_uc u 5 w) s.heap := by rw [← hw, k_uc_id]; exact hU
  unfold f_X11_stands at hf
  refine lv_aload_n X.1 X.2.1 dX11_stands_0 rfl (lv_at hl 0 rfl) ?_
  refine k_getw (v := .int (w 0 13)) X hU sh_5_0 fl_X11_261 rfl dX11_stands_1 ?_
  refine lv_iconst (v := 2) X.1 X.2.1 dX11_stands_4 (by decide) ?_
  refine lv_icmp_eq (tgt := 14) X.1 X.2.1 dX11_stands_5 (by decide) (fun c5 => ?_) (fun c5 => ?_)
  · replace hf := k_ifP hf c5
    refine lv_aload_n X.1 X.2.1 dX11_stands_14 rfl (lv_at hl 0 rfl) ?_
    refine lv_aload_n X.1 X.2.1 dX11_stands_15 rfl (lv_at hl 0 rfl) ?_
    refine k_getw (v := .int (w 0 14)) X hU sh_5_0 fl_X11_258 rfl dX11_stands_16 ?_
    obtain ⟨w19, e19, hf⟩ := k_ltE hf
    refine k_putw X hU hS sh_5_0 fp_X11_288 rfl e19 rfl rfl dX11_stands_19 (fun H locs hU hS => ?_)
    refine lv_aload_n X.1 X.2.1 dX11_stands_22 rfl (lv_at hl 0 rfl) ?_
    refine k_getw (v := .int (w19 0 14)) X hU sh_5_0 fl_X11_258 rfl dX11_stands_23 ?_
    refine lv_iload_n X.1 X.2.1 dX11_stands_26 rfl (lv_at hl 1 rfl) ?_
    refine lv_iload_n X.1 X.2.1 dX11_stands_27 rfl (lv_at hl 2 rfl) ?_
    obtain ⟨r28, hr28, hf⟩ := k_bdE hf
    refine k_backi X hS (k_runS (As := [.int (w19 0 14), .int a1, .int a2]) (rest := []) X hS hU sl_X11_57 (c_X11_within X.2.2.2.2.2.2.1 hr28) rfl rfl rfl hl.1 ⟨Nat.le_of_ble_eq_true rfl, Nat.le_of_ble_eq_true rfl⟩ (Nat.le_of_ble_eq_true rfl) dX11_stands_28 ⟨Nat.zero_le _, Nat.zero_le _⟩) (fun H locs hU hS => ?_)
    refine lv_if_ne (tgt := 42) X.1 X.2.1 dX11_stands_31 (by decide) (fun c31 => ?_) (fun c31 => ?_)
    · replace hf := k_ifN hf c31
      refine lv_iconst (v := 1) X.1 X.2.1 dX11_stands_42 (by decide) ?_
      refine lv_goto (tgt := 47) X.1 X.2.1 dX11_stands_43 (by decide) ?_
      have hz := Option.some.inj hf
      subst hz
      exact k_iret (v := 1) X hU hS hr hlk rfl rfl dX11_stands_47
    · replace hf := k_ifP hf c31
      refine lv_aload_n X.1 X.2.1 dX11_stands_34 rfl (lv_at hl 0 rfl) ?_
      refine lv_iconst (v := 2) X.1 X.2.1 dX11_stands_35 (by decide) ?_
      obtain ⟨r36, hr36, hf⟩ := k_bdE hf
      refine k_backi X hS (k_runV (As := [.int 2]) (rest := []) X hS hU sh_5_0 (by decide) rfl vl_X11_282 (c_X11_fails X.2.2.2.2.2.2.1 (k_uc_s _ _ _) hr36) rfl rfl rfl hl.1 ⟨Nat.le_of_ble_eq_true rfl, Nat.le_of_ble_eq_true rfl⟩ (Nat.le_of_ble_eq_true rfl) dX11_stands_36 ⟨Nat.zero_le _, Nat.zero_le _⟩) (fun H locs hU hS => ?_)
      rw [k_uc_uc] at hU
      refine lv_if_eq (tgt := 46) X.1 X.2.1 dX11_stands_39 (by decide) (fun c39 => ?_) (fun c39 => ?_)
      · replace hf := k_ifP hf c39
        refine lv_iconst (v := 0) X.1 X.2.1 dX11_stands_46 (by decide) ?_
        have hz := Option.some.inj hf
        subst hz
        exact k_iret (v := 0) X hU hS hr hlk rfl rfl dX11_stands_47
      · replace hf := k_ifN hf c39
        refine lv_iconst (v := 1) X.1 X.2.1 dX11_stands_42 (by decide) ?_
        refine lv_goto (tgt := 47) X.1 X.2.1 dX11_stands_43 (by decide) ?_
        have hz := Option.some.inj hf
        subst hz
        exact k_iret (v := 1) X hU hS hr hlk rfl rfl dX11_stands_47
  · replace hf := k_ifN hf c5
    refine lv_aload_n X.1 X.2.1 dX11_stands_8 rfl (lv_at hl 0 rfl) ?_
    refine lv_iconst (v := 1) X.1 X.2.1 dX11_stands_9 (by decide) ?_
    obtain ⟨r10, hr10, hf⟩ := k_bdE hf
    refine k_backi X hS (k_runV (As := [.int 1]) (rest := []) X hS hU sh_5_0 (by decide) rfl vl_X11_282 (c_X11_fails X.2.2.2.2.2.2.1 (k_uc_s _ _ _) hr10) rfl rfl rfl hl.1 ⟨Nat.le_of_ble_eq_true rfl, Nat.le_of_ble_eq_true rfl⟩ (Nat.le_of_ble_eq_true rfl) dX11_stands_10 ⟨Nat.zero_le _, Nat.zero_le _⟩) (fun H locs hU hS => ?_)
    rw [k_uc_uc] at hU
    obtain ⟨hi13, hf⟩ := k_ckE hf
    have hz := Option.some.inj hf
    subst hz
    exact k_iret (v := r10.2) X hU hS hr hlk (k_nb hi13) rfl dX11_stands_13
def rm_X11_takes : Room := { frames := 4, cells := 0, slots := 0, locals := 85 }
set_option maxRecDepth 100000 in
set_option maxHeartbeats 4000000 in
theorem c_X11_takes {l : Launch} {D : va_G} {G : Nat → ClassId} {ad : Nat → Nat → Nat} {u : k_U} (hI : k_ok ad) {w : k_M} (hw : u 5 = w) {a1 : Int32} {a2 : Int32} {sz : Nat} {r : (k_M × Int32)} (hf : f_X11_takes w a1 a2 = some r) : Met l yX11_takes (.code yX11_takes cX11_takes 3 (some .boolean) :: lw_g) rm_X11_takes (k_Pre D G ad u sz [.ref (ad 5 0), .int a1, .int a2]) (k_Qi D G ad (k_uc u 5 r.1) r.2 sz) 0 0 (k_A ad sz) := by
  refine k_ofW (by decide +kernel) hI (Nat.le_of_ble_eq_true rfl) ?_
  intro p e s m args below meth c X hr hlk hU hS ls hl
  have hl : lv_has ls 3 [(0, .ref (ad 5 0)), (1, .int a1), (2, .int a2)] := hl
  have hU : k_Uv D G ad (k_uc u 5 w) s.heap := by rw [← hw, k_uc_id]; exact hU
  unfold f_X11_takes at hf
  refine lv_aload_n X.1 X.2.1 dX11_takes_0 rfl (lv_at hl 0 rfl) ?_
  refine lv_iload_n X.1 X.2.1 dX11_takes_1 rfl (lv_at hl 1 rfl) ?_
  refine lv_iload_n X.1 X.2.1 dX11_takes_2 rfl (lv_at hl 2 rfl) ?_
  obtain ⟨r3, hr3, hf⟩ := k_bdE hf
  refine k_backi X hS (k_runV (As := [.int a1, .int a2]) (rest := []) X hS hU sh_5_0 (by decide) rfl vl_X11_291 (c_X11_stands X.2.2.2.2.2.2.1 (k_uc_s _ _ _) hr3) rfl rfl rfl hl.1 ⟨Nat.le_of_ble_eq_true rfl, Nat.le_of_ble_eq_true rfl⟩ (Nat.le_of_ble_eq_true rfl) dX11_takes_3 ⟨Nat.zero_le _, Nat.zero_le _⟩) (fun H locs hU hS => ?_)
  rw [k_uc_uc] at hU
  refine lv_if_eq (tgt := 22) X.1 X.2.1 dX11_takes_6 (by decide) (fun c6 => ?_) (fun c6 => ?_)
  · replace hf := k_ifP hf c6
    refine lv_iconst (v := 0) X.1 X.2.1 dX11_takes_22 (by decide) ?_
    have hz := Option.some.inj hf
    subst hz
    exact k_iret (v := 0) X hU hS hr hlk rfl rfl dX11_takes_23
  · replace hf := k_ifN hf c6
    refine lv_aload_n X.1 X.2.1 dX11_takes_9 rfl (lv_at hl 0 rfl) ?_
    refine lv_iconst (v := 1) X.1 X.2.1 dX11_takes_10 (by decide) ?_
    refine lv_iconst (v := 1) X.1 X.2.1 dX11_takes_11 (by decide) ?_
    obtain ⟨r12, hr12, hf⟩ := k_bdE hf
    refine k_backi X hS (k_runV (As := [.int 1, .int 1]) (rest := []) X hS hU sh_5_0 (by decide) rfl vl_X11_294 (c_X11_goesOn X.2.2.2.2.2.2.1 (k_uc_s _ _ _) hr12) rfl rfl rfl hl.1 ⟨Nat.le_of_ble_eq_true rfl, Nat.le_of_ble_eq_true rfl⟩ (Nat.le_of_ble_eq_true rfl) dX11_takes_12 ⟨Nat.zero_le _, Nat.zero_le _⟩) (fun H locs hU hS => ?_)
    rw [k_uc_uc] at hU
    refine lv_if_eq (tgt := 22) X.1 X.2.1 dX11_takes_15 (by decide) (fun c15 => ?_) (fun c15 => ?_)
    · replace hf := k_ifP hf c15
      refine lv_iconst (v := 0) X.1 X.2.1 dX11_takes_22 (by decide) ?_
      have hz := Option.some.inj hf
      subst hz
      exact k_iret (v := 0) X hU hS hr hlk rfl rfl dX11_takes_23
    · replace hf := k_ifN hf c15
      refine lv_iconst (v := 1) X.1 X.2.1 dX11_takes_18 (by decide) ?_
      refine lv_goto (tgt := 23) X.1 X.2.1 dX11_takes_19 (by decide) ?_
      have hz := Option.some.inj hf
      subst hz
      exact k_iret (v := 1) X hU hS hr hlk rfl rfl dX11_takes_23
def rm_X11_standsSigned : Room := { frames := 3, cells := 0, slots := 0, locals := 63 }
set_option maxRecDepth 100000 in
set_option maxHeartbeats 4000000 in
theorem c_X11_standsSigned {l : Launch} {D : va_G} {G : Nat → ClassId} {ad : Nat → Nat → Nat} {u : k_U} (hI : k_ok ad) {w : k_M} (hw : u 5 = w) {a1 : Int32} {sz : Nat} {r : (k_M × Int32)} (hf : f_X11_standsSigned w a1 = some r) : Met l yX11_standsSigned (.code yX11_standsSigned cX11_standsSigned 3 (some .boolean) :: lw_g) rm_X11_standsSigned (k_Pre D G ad u sz [.ref (ad 5 0), .int a1]) (k_Qi D G ad (k_uc u 5 r.1) r.2 sz) 0 0 (k_A ad sz) := by
  refine k_ofW (by decide +kernel) hI (Nat.le_of_ble_eq_true rfl) ?_
  intro p e s m args below meth c X hr hlk hU hS ls hl
  have hl : lv_has ls 3 [(0, .ref (ad 5 0)), (1, .int a1)] := hl
  have hU : k_Uv D G ad (k_uc u 5 w) s.heap := by rw [← hw, k_uc_id]; exact hU
  have J50 : ∀ (H : Heap) (locs : List Loc) (ls : Array Slot) (w : k_M) (as0 : Int32), k_Uv D G ad (k_uc u 5 w) H → va_S (k_A ad sz) s.heap H locs → lv_has ls 3 [] → f_X11_standsSigned_50 w a1 as0 = some r → W p l e rm_X11_standsSigned s m args below meth c H locs 0 0 (MQ below (k_Qi D G ad (k_uc u 5 r.1) r.2 sz) args s 0 0 (k_A ad sz)) (F0 m 50 ls [.int as0, .ref (ad 5 0)]) := by
    intro H locs ls w as0 hU hS hl hf
    unfold f_X11_standsSigned_50 at hf
    obtain ⟨w50, e50, hf⟩ := k_ltE hf
    refine k_putw X hU hS sh_5_0 fp_X11_288 rfl e50 rfl rfl dX11_standsSigned_50 (fun H locs hU hS => ?_)
    refine lv_iconst (v := 1) X.1 X.2.1 dX11_standsSigned_53 (by decide) ?_
    have hz := Option.some.inj hf
    subst hz
    exact k_iret (v := 1) X hU hS hr hlk rfl rfl dX11_standsSigned_54
  have J22 : ∀ (H : Heap) (locs : List Loc) (ls : Array Slot) (w : k_M) (a1 : Int32) (a2 : Int32), k_Uv D G ad (k_uc u 5 w) H → va_S (k_A ad sz) s.heap H locs → lv_has ls 3 [(0, .ref (ad 5 0)), (1, .int a1), (2, .int a2)] → f_X11_standsSigned_22 w a1 a2 = some r → W p l e rm_X11_standsSigned s m args below meth c H locs 0 0 (MQ below (k_Qi D G ad (k_uc u 5 r.1) r.2 sz) args s 0 0 (k_A ad sz)) (F0 m 22 ls []) := by
    intro H locs ls w a1 a2 hU hS hl hf
    unfold f_X11_standsSigned_22 at hf
    refine lv_aload_n X.1 X.2.1 dX11_standsSigned_22 rfl (lv_at hl 0 rfl) ?_
    refine lv_iconst (v := 0) X.1 X.2.1 dX11_standsSigned_23 (by decide) ?_
    refine lv_iload_n X.1 X.2.1 dX11_standsSigned_24 rfl (lv_at hl 1 rfl) ?_
    obtain ⟨r25, hr25, hf⟩ := k_bdE hf
    refine k_backi X hS (k_runV (As := [.int 0, .int a1]) (rest := []) X hS hU sh_5_0 (by decide) rfl vl_X11_291 (c_X11_stands X.2.2.2.2.2.2.1 (k_uc_s _ _ _) hr25) rfl rfl rfl hl.1 ⟨Nat.le_of_ble_eq_true rfl, Nat.le_of_ble_eq_true rfl⟩ (Nat.le_of_ble_eq_true rfl) dX11_standsSigned_25 ⟨Nat.zero_le _, Nat.zero_le _⟩) (fun H locs hU hS => ?_)
    rw [k_uc_uc] at hU
    refine lv_if_ne (tgt := 33) X.1 X.2.1 dX11_standsSigned_28 (by decide) (fun c28 => ?_) (fun c28 => ?_)
    · replace hf := k_ifN hf c28
      refine lv_aload_n X.1 X.2.1 dX11_standsSigned_33 rfl (lv_at hl 0 rfl) ?_
      refine lv_iload_n X.1 X.2.1 dX11_standsSigned_34 rfl (lv_at hl 2 rfl) ?_
      refine lv_if_eq (tgt := 46) X.1 X.2.1 dX11_standsSigned_35 (by decide) (fun c35 => ?_) (fun c35 => ?_)
      · replace hf := k_ifP hf c35
        refine lv_aload_n X.1 X.2.1 dX11_standsSigned_46 rfl (lv_at hl 0 rfl) ?_
        refine k_getw (v := .int (r25.1 0 17)) X hU sh_5_0 fl_X11_288 rfl dX11_standsSigned_47 ?_
        exact J50 _ _ _ r25.1 (r25.1 0 17) hU hS (lv_sub hl [] rfl) hf
      · replace hf := k_ifN hf c35
        refine lv_aload_n X.1 X.2.1 dX11_standsSigned_38 rfl (lv_at hl 0 rfl) ?_
        refine k_getw (v := .int (r25.1 0 17)) X hU sh_5_0 fl_X11_288 rfl dX11_standsSigned_39 ?_
        refine lv_ineg X.1 X.2.1 dX11_standsSigned_42 ?_
        refine lv_goto (tgt := 50) X.1 X.2.1 dX11_standsSigned_43 (by decide) ?_
        exact J50 _ _ _ r25.1 (-(r25.1 0 17)) hU hS (lv_sub hl [] rfl) hf
    · replace hf := k_ifP hf c28
      refine lv_iconst (v := 0) X.1 X.2.1 dX11_standsSigned_31 (by decide) ?_
      have hz := Option.some.inj hf
      subst hz
      exact k_iret (v := 0) X hU hS hr hlk rfl rfl dX11_standsSigned_32
  have J13 : ∀ (H : Heap) (locs : List Loc) (ls : Array Slot) (w : k_M) (a1 : Int32) (as0 : Int32), k_Uv D G ad (k_uc u 5 w) H → va_S (k_A ad sz) s.heap H locs → lv_has ls 3 [(0, .ref (ad 5 0)), (1, .int a1)] → f_X11_standsSigned_13 w a1 as0 = some r → W p l e rm_X11_standsSigned s m args below meth c H locs 0 0 (MQ below (k_Qi D G ad (k_uc u 5 r.1) r.2 sz) args s 0 0 (k_A ad sz)) (F0 m 13 ls [.int as0]) := by
    intro H locs ls w a1 as0 hU hS hl hf
    unfold f_X11_standsSigned_13 at hf
    refine lv_istore_n (lv' := [(2, .int as0), (0, .ref (ad 5 0)), (1, .int a1)]) X.1 X.2.1 dX11_standsSigned_13 rfl hl (by decide) rfl (fun ls hl => ?_)
    refine lv_iload_n X.1 X.2.1 dX11_standsSigned_14 rfl (lv_at hl 0 rfl) ?_
    refine lv_if_eq (tgt := 22) X.1 X.2.1 dX11_standsSigned_15 (by decide) (fun c15 => ?_) (fun c15 => ?_)
    · replace hf := k_ifP hf c15
      exact J22 _ _ _ w a1 as0 hU hS (lv_sub hl [1, 2, 0] rfl) hf
    · replace hf := k_ifN hf c15
      refine lv_aload_n X.1 X.2.1 dX11_standsSigned_18 rfl (lv_at hl 1 rfl) ?_
      obtain ⟨r19, hr19, hf⟩ := k_bdE hf
      refine k_backv X hS (k_runV (As := []) (rest := []) X hS hU sh_5_0 (by decide) rfl vl_X11_285 (c_X11_advance X.2.2.2.2.2.2.1 (k_uc_s _ _ _) hr19) rfl rfl rfl hl.1 ⟨Nat.le_of_ble_eq_true rfl, Nat.le_of_ble_eq_true rfl⟩ (Nat.le_of_ble_eq_true rfl) dX11_standsSigned_19 ⟨Nat.zero_le _, Nat.zero_le _⟩) (fun H locs hU hS => ?_)
      rw [k_uc_uc] at hU
      exact J22 _ _ _ r19 a1 as0 hU hS (lv_sub hl [1, 2, 0] rfl) hf
  unfold f_X11_standsSigned at hf
  refine lv_aload_n X.1 X.2.1 dX11_standsSigned_0 rfl (lv_at hl 0 rfl) ?_
  refine k_getw (v := .int (w 0 13)) X hU sh_5_0 fl_X11_261 rfl dX11_standsSigned_1 ?_
  refine lv_iconst (v := 3) X.1 X.2.1 dX11_standsSigned_4 (by decide) ?_
  refine lv_icmp_ne (tgt := 12) X.1 X.2.1 dX11_standsSigned_5 (by decide) (fun c5 => ?_) (fun c5 => ?_)
  · replace hf := k_ifN hf c5
    refine lv_iconst (v := 0) X.1 X.2.1 dX11_standsSigned_12 (by decide) ?_
    exact J13 _ _ _ w a1 0 hU hS (lv_sub hl [0, 1] rfl) hf
  · replace hf := k_ifP hf c5
    refine lv_iconst (v := 1) X.1 X.2.1 dX11_standsSigned_8 (by decide) ?_
    refine lv_goto (tgt := 13) X.1 X.2.1 dX11_standsSigned_9 (by decide) ?_
    exact J13 _ _ _ w a1 1 hU hS (lv_sub hl [0, 1] rfl) hf
def rm_X11_takesSigned : Room := { frames := 4, cells := 0, slots := 0, locals := 85 }
set_option maxRecDepth 100000 in
set_option maxHeartbeats 4000000 in
theorem c_X11_takesSigned {l : Launch} {D : va_G} {G : Nat → ClassId} {ad : Nat → Nat → Nat} {u : k_U} (hI : k_ok ad) {w : k_M} (hw : u 5 = w) {a1 : Int32} {sz : Nat} {r : (k_M × Int32)} (hf : f_X11_takesSigned w a1 = some r) : Met l yX11_takesSigned (.code yX11_takesSigned cX11_takesSigned 2 (some .boolean) :: lw_g) rm_X11_takesSigned (k_Pre D G ad u sz [.ref (ad 5 0), .int a1]) (k_Qi D G ad (k_uc u 5 r.1) r.2 sz) 0 0 (k_A ad sz) := by
  refine k_ofW (by decide +kernel) hI (Nat.le_of_ble_eq_true rfl) ?_
  intro p e s m args below meth c X hr hlk hU hS ls hl
  have hl : lv_has ls 2 [(0, .ref (ad 5 0)), (1, .int a1)] := hl
  have hU : k_Uv D G ad (k_uc u 5 w) s.heap := by rw [← hw, k_uc_id]; exact hU
  unfold f_X11_takesSigned at hf
  refine lv_aload_n X.1 X.2.1 dX11_takesSigned_0 rfl (lv_at hl 0 rfl) ?_
  refine lv_iload_n X.1 X.2.1 dX11_takesSigned_1 rfl (lv_at hl 1 rfl) ?_
  obtain ⟨r2, hr2, hf⟩ := k_bdE hf
  refine k_backi X hS (k_runV (As := [.int a1]) (rest := []) X hS hU sh_5_0 (by decide) rfl vl_X11_298 (c_X11_standsSigned X.2.2.2.2.2.2.1 (k_uc_s _ _ _) hr2) rfl rfl rfl hl.1 ⟨Nat.le_of_ble_eq_true rfl, Nat.le_of_ble_eq_true rfl⟩ (Nat.le_of_ble_eq_true rfl) dX11_takesSigned_2 ⟨Nat.zero_le _, Nat.zero_le _⟩) (fun H locs hU hS => ?_)
  rw [k_uc_uc] at hU
  refine lv_if_eq (tgt := 21) X.1 X.2.1 dX11_takesSigned_5 (by decide) (fun c5 => ?_) (fun c5 => ?_)
  · replace hf := k_ifP hf c5
    refine lv_iconst (v := 0) X.1 X.2.1 dX11_takesSigned_21 (by decide) ?_
    have hz := Option.some.inj hf
    subst hz
    exact k_iret (v := 0) X hU hS hr hlk rfl rfl dX11_takesSigned_22
  · replace hf := k_ifN hf c5
    refine lv_aload_n X.1 X.2.1 dX11_takesSigned_8 rfl (lv_at hl 0 rfl) ?_
    refine lv_iconst (v := 1) X.1 X.2.1 dX11_takesSigned_9 (by decide) ?_
    refine lv_iconst (v := 1) X.1 X.2.1 dX11_takesSigned_10 (by decide) ?_
    obtain ⟨r11, hr11, hf⟩ := k_bdE hf
    refine k_backi X hS (k_runV (As := [.int 1, .int 1]) (rest := []) X hS hU sh_5_0 (by decide) rfl vl_X11_294 (c_X11_goesOn X.2.2.2.2.2.2.1 (k_uc_s _ _ _) hr11) rfl rfl rfl hl.1 ⟨Nat.le_of_ble_eq_true rfl, Nat.le_of_ble_eq_true rfl⟩ (Nat.le_of_ble_eq_true rfl) dX11_takesSigned_11 ⟨Nat.zero_le _, Nat.zero_le _⟩) (fun H locs hU hS => ?_)
    rw [k_uc_uc] at hU
    refine lv_if_eq (tgt := 21) X.1 X.2.1 dX11_takesSigned_14 (by decide) (fun c14 => ?_) (fun c14 => ?_)
    · replace hf := k_ifP hf c14
      refine lv_iconst (v := 0) X.1 X.2.1 dX11_takesSigned_21 (by decide) ?_
      have hz := Option.some.inj hf
      subst hz
      exact k_iret (v := 0) X hU hS hr hlk rfl rfl dX11_takesSigned_22
    · replace hf := k_ifN hf c14
      refine lv_iconst (v := 1) X.1 X.2.1 dX11_takesSigned_17 (by decide) ?_
      refine lv_goto (tgt := 22) X.1 X.2.1 dX11_takesSigned_18 (by decide) ?_
      have hz := Option.some.inj hf
      subst hz
      exact k_iret (v := 1) X hU hS hr hlk rfl rfl dX11_takesSigned_22
def rm_X11_takesWord : Room := { frames := 5, cells := 0, slots := 0, locals := 124 }
set_option maxRecDepth 100000 in
set_option maxHeartbeats 4000000 in
theorem c_X11_takesWord {l : Launch} {D : va_G} {G : Nat → ClassId} {ad : Nat → Nat → Nat} {u : k_U} (hI : k_ok ad) {w : k_M} (hw : u 5 = w) {t1 : Nat} (ht1 : t1 < 33) {sz : Nat} {r : (k_M × Int32)} (hf : f_X11_takesWord w t1 = some r) : Met l yX11_takesWord (.code yX11_takesWord cX11_takesWord 2 (some .boolean) :: lw_g) rm_X11_takesWord (k_Pre D G ad u sz [.ref (ad 5 0), .ref (ad 30 t1)]) (k_Qi D G ad (k_uc u 5 r.1) r.2 sz) 0 0 (k_A ad sz) := by
  refine k_ofW (by decide +kernel) hI (Nat.le_of_ble_eq_true rfl) ?_
  intro p e s m args below meth c X hr hlk hU hS ls hl
  have hl : lv_has ls 2 [(0, .ref (ad 5 0)), (1, .ref (ad 30 t1))] := hl
  have hU : k_Uv D G ad (k_uc u 5 w) s.heap := by rw [← hw, k_uc_id]; exact hU
  unfold f_X11_takesWord at hf
  refine lv_aload_n X.1 X.2.1 dX11_takesWord_0 rfl (lv_at hl 0 rfl) ?_
  refine lv_iconst (v := 1) X.1 X.2.1 dX11_takesWord_1 (by decide) ?_
  refine lv_aload_n X.1 X.2.1 dX11_takesWord_2 rfl (lv_at hl 0 rfl) ?_
  refine lv_aload_n X.1 X.2.1 dX11_takesWord_3 rfl (lv_at hl 1 rfl) ?_
  obtain ⟨r4, hr4, hf⟩ := k_bdE hf
  refine k_backi X hS (k_runV (As := [.ref (ad 30 t1)]) (rest := [.int 1, .ref (ad 5 0)]) X hS hU sh_5_0 (by decide) rfl vl_X11_301 (c_X11_isWord X.2.2.2.2.2.2.1 (k_uc_s _ _ _) ht1 hr4) rfl rfl rfl hl.1 ⟨Nat.le_of_ble_eq_true rfl, Nat.le_of_ble_eq_true rfl⟩ (Nat.le_of_ble_eq_true rfl) dX11_takesWord_4 ⟨Nat.zero_le _, Nat.zero_le _⟩) (fun H locs hU hS => ?_)
  obtain ⟨r7, hr7, hf⟩ := k_bdE hf
  refine k_backi X hS (k_runV (As := [.int 1, .int r4]) (rest := []) X hS hU sh_5_0 (by decide) rfl vl_X11_294 (c_X11_goesOn X.2.2.2.2.2.2.1 (k_uc_s _ _ _) hr7) rfl rfl rfl hl.1 ⟨Nat.le_of_ble_eq_true rfl, Nat.le_of_ble_eq_true rfl⟩ (Nat.le_of_ble_eq_true rfl) dX11_takesWord_7 ⟨Nat.zero_le _, Nat.zero_le _⟩) (fun H locs hU hS => ?_)
  rw [k_uc_uc] at hU
  obtain ⟨hi10, hf⟩ := k_ckE hf
  have hz := Option.some.inj hf
  subst hz
  exact k_iret (v := r7.2) X hU hS hr hlk (k_nb hi10) rfl dX11_takesWord_10
def rm_X11_stop : Room := { frames := 4, cells := 0, slots := 0, locals := 85 }
set_option maxRecDepth 100000 in
set_option maxHeartbeats 4000000 in
theorem c_X11_stop {l : Launch} {D : va_G} {G : Nat → ClassId} {ad : Nat → Nat → Nat} {u : k_U} (hI : k_ok ad) {w : k_M} (hw : u 5 = w) {sz : Nat} {r : (k_M × Int32)} (hf : f_X11_stop w = some r) : Met l yX11_stop (.code yX11_stop cX11_stop 1 (some .boolean) :: lw_g) rm_X11_stop (k_Pre D G ad u sz [.ref (ad 5 0)]) (k_Qi D G ad (k_uc u 5 r.1) r.2 sz) 0 0 (k_A ad sz) := by
  refine k_ofW (by decide +kernel) hI (Nat.le_of_ble_eq_true rfl) ?_
  intro p e s m args below meth c X hr hlk hU hS ls hl
  have hl : lv_has ls 1 [(0, .ref (ad 5 0))] := hl
  have hU : k_Uv D G ad (k_uc u 5 w) s.heap := by rw [← hw, k_uc_id]; exact hU
  have J15 : ∀ (H : Heap) (locs : List Loc) (ls : Array Slot) (w : k_M) (as0 : Int32) (as1 : Int32), k_Uv D G ad (k_uc u 5 w) H → va_S (k_A ad sz) s.heap H locs → lv_has ls 1 [] → f_X11_stop_15 w as0 as1 = some r → W p l e rm_X11_stop s m args below meth c H locs 0 0 (MQ below (k_Qi D G ad (k_uc u 5 r.1) r.2 sz) args s 0 0 (k_A ad sz)) (F0 m 15 ls [.int as0, .int as1, .ref (ad 5 0)]) := by
    intro H locs ls w as0 as1 hU hS hl hf
    unfold f_X11_stop_15 at hf
    obtain ⟨r15, hr15, hf⟩ := k_bdE hf
    refine k_backi X hS (k_runV (As := [.int as1, .int as0]) (rest := []) X hS hU sh_5_0 (by decide) rfl vl_X11_294 (c_X11_goesOn X.2.2.2.2.2.2.1 (k_uc_s _ _ _) hr15) rfl rfl rfl hl.1 ⟨Nat.le_of_ble_eq_true rfl, Nat.le_of_ble_eq_true rfl⟩ (Nat.le_of_ble_eq_true rfl) dX11_stop_15 ⟨Nat.zero_le _, Nat.zero_le _⟩) (fun H locs hU hS => ?_)
    rw [k_uc_uc] at hU
    obtain ⟨hi18, hf⟩ := k_ckE hf
    have hz := Option.some.inj hf
    subst hz
    exact k_iret (v := r15.2) X hU hS hr hlk (k_nb hi18) rfl dX11_stop_18
  unfold f_X11_stop at hf
  refine lv_aload_n X.1 X.2.1 dX11_stop_0 rfl (lv_at hl 0 rfl) ?_
  refine lv_iconst (v := 1) X.1 X.2.1 dX11_stop_1 (by decide) ?_
  refine lv_aload_n X.1 X.2.1 dX11_stop_2 rfl (lv_at hl 0 rfl) ?_
  refine k_getw (v := .int (w 0 13)) X hU sh_5_0 fl_X11_261 rfl dX11_stop_3 ?_
  refine lv_iconst (v := 4) X.1 X.2.1 dX11_stop_6 (by decide) ?_
  refine lv_icmp_ne (tgt := 14) X.1 X.2.1 dX11_stop_7 (by decide) (fun c7 => ?_) (fun c7 => ?_)
  · replace hf := k_ifN hf c7
    refine lv_iconst (v := 0) X.1 X.2.1 dX11_stop_14 (by decide) ?_
    exact J15 _ _ _ w 0 1 hU hS (lv_sub hl [] rfl) hf
  · replace hf := k_ifP hf c7
    refine lv_iconst (v := 1) X.1 X.2.1 dX11_stop_10 (by decide) ?_
    refine lv_goto (tgt := 15) X.1 X.2.1 dX11_stop_11 (by decide) ?_
    exact J15 _ _ _ w 1 1 hU hS (lv_sub hl [] rfl) hf
def rm_X11_begins : Room := { frames := 3, cells := 0, slots := 0, locals := 63 }
set_option maxRecDepth 100000 in
set_option maxHeartbeats 4000000 in
theorem c_X11_begins {l : Launch} {D : va_G} {G : Nat → ClassId} {ad : Nat → Nat → Nat} {u : k_U} (hI : k_ok ad) {w : k_M} (hw : u 5 = w) {sz : Nat} {r : k_M} (hf : f_X11_begins w = some r) : Met l yX11_begins (.code yX11_begins cX11_begins 1 none :: lw_g) rm_X11_begins (k_Pre D G ad u sz [.ref (ad 5 0)]) (k_Qv D G ad (k_uc u 5 r) sz) 0 0 (k_A ad sz) := by
  refine k_ofW (by decide +kernel) hI (Nat.le_of_ble_eq_true rfl) ?_
  intro p e s m args below meth c X hr hlk hU hS ls hl
  have hl : lv_has ls 1 [(0, .ref (ad 5 0))] := hl
  have hU : k_Uv D G ad (k_uc u 5 w) s.heap := by rw [← hw, k_uc_id]; exact hU
  unfold f_X11_begins at hf
  refine lv_aload_n X.1 X.2.1 dX11_begins_0 rfl (lv_at hl 0 rfl) ?_
  refine lv_iconst (v := 0) X.1 X.2.1 dX11_begins_1 (by decide) ?_
  obtain ⟨w2, e2, hf⟩ := k_ltE hf
  refine k_putw X hU hS sh_5_0 fp_X11_249 rfl e2 rfl rfl dX11_begins_2 (fun H locs hU hS => ?_)
  refine lv_aload_n X.1 X.2.1 dX11_begins_5 rfl (lv_at hl 0 rfl) ?_
  refine lv_iconst (v := 0) X.1 X.2.1 dX11_begins_6 (by decide) ?_
  obtain ⟨w7, e7, hf⟩ := k_ltE hf
  refine k_putw X hU hS sh_5_0 fp_X11_279 rfl e7 rfl rfl dX11_begins_7 (fun H locs hU hS => ?_)
  refine lv_aload_n X.1 X.2.1 dX11_begins_10 rfl (lv_at hl 0 rfl) ?_
  refine lv_iconst (v := (-1)) X.1 X.2.1 dX11_begins_11 (by decide) ?_
  obtain ⟨w12, e12, hf⟩ := k_ltE hf
  refine k_putw X hU hS sh_5_0 fp_X11_36 rfl e12 rfl rfl dX11_begins_12 (fun H locs hU hS => ?_)
  refine lv_aload_n X.1 X.2.1 dX11_begins_15 rfl (lv_at hl 0 rfl) ?_
  obtain ⟨r16, hr16, hf⟩ := k_bdE hf
  refine k_backv X hS (k_runV (As := []) (rest := []) X hS hU sh_5_0 (by decide) rfl vl_X11_285 (c_X11_advance X.2.2.2.2.2.2.1 (k_uc_s _ _ _) hr16) rfl rfl rfl hl.1 ⟨Nat.le_of_ble_eq_true rfl, Nat.le_of_ble_eq_true rfl⟩ (Nat.le_of_ble_eq_true rfl) dX11_begins_16 ⟨Nat.zero_le _, Nat.zero_le _⟩) (fun H locs hU hS => ?_)
  rw [k_uc_uc] at hU
  have hz := Option.some.inj hf
  subst hz
  exact k_vret X hU hS hr hlk dX11_begins_19
def rm_X11_errorCode : Room := { frames := 0, cells := 0, slots := 0, locals := 0 }
set_option maxRecDepth 100000 in
set_option maxHeartbeats 4000000 in
theorem c_X11_errorCode {l : Launch} {D : va_G} {G : Nat → ClassId} {ad : Nat → Nat → Nat} {u : k_U} (hI : k_ok ad) {w : k_M} (hw : u 5 = w) {sz : Nat} {r : (k_M × Int32)} (hf : f_X11_errorCode w = some r) : Met l yX11_errorCode (.code yX11_errorCode cX11_errorCode 1 (some .int) :: lw_g) rm_X11_errorCode (k_Pre D G ad u sz [.ref (ad 5 0)]) (k_Qi D G ad (k_uc u 5 r.1) r.2 sz) 0 0 (k_A ad sz) := by
  refine k_ofW (by decide +kernel) hI (Nat.le_of_ble_eq_true rfl) ?_
  intro p e s m args below meth c X hr hlk hU hS ls hl
  have hl : lv_has ls 1 [(0, .ref (ad 5 0))] := hl
  have hU : k_Uv D G ad (k_uc u 5 w) s.heap := by rw [← hw, k_uc_id]; exact hU
  unfold f_X11_errorCode at hf
  refine lv_aload_n X.1 X.2.1 dX11_errorCode_0 rfl (lv_at hl 0 rfl) ?_
  refine lv_iconst (v := 0) X.1 X.2.1 dX11_errorCode_1 (by decide) ?_
  obtain ⟨w2, e2, hf⟩ := k_ltE hf
  refine k_putw X hU hS sh_5_0 fp_X11_50 rfl e2 rfl rfl dX11_errorCode_2 (fun H locs hU hS => ?_)
  refine lv_aload_n X.1 X.2.1 dX11_errorCode_5 rfl (lv_at hl 0 rfl) ?_
  refine k_getw (v := .int (w2 0 15)) X hU sh_5_0 fl_X11_279 rfl dX11_errorCode_6 ?_
  have hz := Option.some.inj hf
  subst hz
  exact k_iret (v := w2 0 15) X hU hS hr hlk rfl rfl dX11_errorCode_9
def rm_X11_errorPosition : Room := { frames := 0, cells := 0, slots := 0, locals := 0 }
set_option maxRecDepth 100000 in
set_option maxHeartbeats 4000000 in
theorem c_X11_errorPosition {l : Launch} {D : va_G} {G : Nat → ClassId} {ad : Nat → Nat → Nat} {u : k_U} (hI : k_ok ad) {w : k_M} (hw : u 5 = w) {sz : Nat} {r : (k_M × Int32)} (hf : f_X11_errorPosition w = some r) : Met l yX11_errorPosition (.code yX11_errorPosition cX11_errorPosition 1 (some .int) :: lw_g) rm_X11_errorPosition (k_Pre D G ad u sz [.ref (ad 5 0)]) (k_Qi D G ad (k_uc u 5 r.1) r.2 sz) 0 0 (k_A ad sz) := by
  refine k_ofW (by decide +kernel) hI (Nat.le_of_ble_eq_true rfl) ?_
  intro p e s m args below meth c X hr hlk hU hS ls hl
  have hl : lv_has ls 1 [(0, .ref (ad 5 0))] := hl
  have hU : k_Uv D G ad (k_uc u 5 w) s.heap := by rw [← hw, k_uc_id]; exact hU
  unfold f_X11_errorPosition at hf
  refine lv_aload_n X.1 X.2.1 dX11_errorPosition_0 rfl (lv_at hl 0 rfl) ?_
  refine lv_iconst (v := 0) X.1 X.2.1 dX11_errorPosition_1 (by decide) ?_
  obtain ⟨w2, e2, hf⟩ := k_ltE hf
  refine k_putw X hU hS sh_5_0 fp_X11_50 rfl e2 rfl rfl dX11_errorPosition_2 (fun H locs hU hS => ?_)
  refine lv_aload_n X.1 X.2.1 dX11_errorPosition_5 rfl (lv_at hl 0 rfl) ?_
  refine k_getw (v := .int (w2 0 16)) X hU sh_5_0 fl_X11_36 rfl dX11_errorPosition_6 ?_
  have hz := Option.some.inj hf
  subst hz
  exact k_iret (v := w2 0 16) X hU hS hr hlk rfl rfl dX11_errorPosition_9
def rm_X11_takesInto : Room := { frames := 5, cells := 0, slots := 0, locals := 107 }
set_option maxRecDepth 100000 in
set_option maxHeartbeats 4000000 in
theorem c_X11_takesInto {l : Launch} {D : va_G} {G : Nat → ClassId} {ad : Nat → Nat → Nat} {u : k_U} (hI : k_ok ad) {w : k_M} (hw : u 5 = w) {a1 : Int32} {a2 : Int32} {a3 : Int32} {sz : Nat} {r : (k_M × Int32)} (hf : f_X11_takesInto w a1 a2 a3 = some r) : Met l yX11_takesInto (.code yX11_takesInto cX11_takesInto 4 (some .boolean) :: lw_g) rm_X11_takesInto (k_Pre D G ad u sz [.ref (ad 5 0), .int a1, .int a2, .int a3]) (k_Qi D G ad (k_uc u 5 r.1) r.2 sz) 0 0 (k_A ad sz) := by
  refine k_ofW (by decide +kernel) hI (Nat.le_of_ble_eq_true rfl) ?_
  intro p e s m args below meth c X hr hlk hU hS ls hl
  have hl : lv_has ls 4 [(0, .ref (ad 5 0)), (1, .int a1), (2, .int a2), (3, .int a3)] := hl
  have hU : k_Uv D G ad (k_uc u 5 w) s.heap := by rw [← hw, k_uc_id]; exact hU
  unfold f_X11_takesInto at hf
  refine lv_aload_n X.1 X.2.1 dX11_takesInto_0 rfl (lv_at hl 0 rfl) ?_
  refine lv_iload_n X.1 X.2.1 dX11_takesInto_1 rfl (lv_at hl 2 rfl) ?_
  refine lv_iload_n X.1 X.2.1 dX11_takesInto_2 rfl (lv_at hl 3 rfl) ?_
  obtain ⟨r3, hr3, hf⟩ := k_bdE hf
  refine k_backi X hS (k_runV (As := [.int a2, .int a3]) (rest := []) X hS hU sh_5_0 (by decide) rfl vl_X11_305 (c_X11_takes X.2.2.2.2.2.2.1 (k_uc_s _ _ _) hr3) rfl rfl rfl hl.1 ⟨Nat.le_of_ble_eq_true rfl, Nat.le_of_ble_eq_true rfl⟩ (Nat.le_of_ble_eq_true rfl) dX11_takesInto_3 ⟨Nat.zero_le _, Nat.zero_le _⟩) (fun H locs hU hS => ?_)
  rw [k_uc_uc] at hU
  refine lv_if_ne (tgt := 11) X.1 X.2.1 dX11_takesInto_6 (by decide) (fun c6 => ?_) (fun c6 => ?_)
  · replace hf := k_ifN hf c6
    refine lv_aload_n X.1 X.2.1 dX11_takesInto_11 rfl (lv_at hl 0 rfl) ?_
    refine k_getw (v := .ref (ad 5 2)) X hU sh_5_0 fl_X11_13 rfl dX11_takesInto_12 ?_
    refine lv_iload_n X.1 X.2.1 dX11_takesInto_15 rfl (lv_at hl 1 rfl) ?_
    refine lv_aload_n X.1 X.2.1 dX11_takesInto_16 rfl (lv_at hl 0 rfl) ?_
    refine k_getw (v := .int (r3.1 0 17)) X hU sh_5_0 fl_X11_288 rfl dX11_takesInto_17 ?_
    obtain ⟨hi20, hf⟩ := k_ckE hf
    obtain ⟨w20, e20, hf⟩ := k_ltE hf
    refine k_istw X hU hS sh_5_2 e20 (k_vin (n := 268) hi20 (by decide)) rfl dX11_takesInto_20 (fun H locs hU hS => ?_)
    refine lv_iconst (v := 1) X.1 X.2.1 dX11_takesInto_21 (by decide) ?_
    have hz := Option.some.inj hf
    subst hz
    exact k_iret (v := 1) X hU hS hr hlk rfl rfl dX11_takesInto_22
  · replace hf := k_ifP hf c6
    refine lv_iconst (v := 0) X.1 X.2.1 dX11_takesInto_9 (by decide) ?_
    have hz := Option.some.inj hf
    subst hz
    exact k_iret (v := 0) X hU hS hr hlk rfl rfl dX11_takesInto_10
def rm_X11_readChute : Room := { frames := 6, cells := 0, slots := 0, locals := 145 }
set_option maxRecDepth 100000 in
set_option maxHeartbeats 4000000 in
theorem c_X11_readChute {l : Launch} {D : va_G} {G : Nat → ClassId} {ad : Nat → Nat → Nat} {u : k_U} (hI : k_ok ad) {w : k_M} (hw : u 5 = w) {a1 : Int32} {sz : Nat} {r : (k_M × Int32)} (hf : f_X11_readChute w a1 = some r) : Met l yX11_readChute (.code yX11_readChute cX11_readChute 2 (some .boolean) :: lw_g) rm_X11_readChute (k_Pre D G ad u sz [.ref (ad 5 0), .int a1]) (k_Qi D G ad (k_uc u 5 r.1) r.2 sz) 0 0 (k_A ad sz) := by
  refine k_ofW (by decide +kernel) hI (Nat.le_of_ble_eq_true rfl) ?_
  intro p e s m args below meth c X hr hlk hU hS ls hl
  have hl : lv_has ls 2 [(0, .ref (ad 5 0)), (1, .int a1)] := hl
  have hU : k_Uv D G ad (k_uc u 5 w) s.heap := by rw [← hw, k_uc_id]; exact hU
  unfold f_X11_readChute at hf
  refine lv_aload_n X.1 X.2.1 dX11_readChute_0 rfl (lv_at hl 0 rfl) ?_
  refine lv_bipush (v := 20) X.1 X.2.1 dX11_readChute_1 (by decide) ?_
  refine lv_iload_n X.1 X.2.1 dX11_readChute_3 rfl (lv_at hl 1 rfl) ?_
  refine lv_iadd X.1 X.2.1 dX11_readChute_4 ?_
  refine lv_iconst (v := 1) X.1 X.2.1 dX11_readChute_5 (by decide) ?_
  refine lv_bipush (v := 99) X.1 X.2.1 dX11_readChute_6 (by decide) ?_
  obtain ⟨r8, hr8, hf⟩ := k_bdE hf
  refine k_backi X hS (k_runV (As := [.int (20 + a1), .int 1, .int 99]) (rest := []) X hS hU sh_5_0 (by decide) rfl vl_X11_308 (c_X11_takesInto X.2.2.2.2.2.2.1 (k_uc_s _ _ _) hr8) rfl rfl rfl hl.1 ⟨Nat.le_of_ble_eq_true rfl, Nat.le_of_ble_eq_true rfl⟩ (Nat.le_of_ble_eq_true rfl) dX11_readChute_8 ⟨Nat.zero_le _, Nat.zero_le _⟩) (fun H locs hU hS => ?_)
  rw [k_uc_uc] at hU
  refine lv_if_eq (tgt := 68) X.1 X.2.1 dX11_readChute_11 (by decide) (fun c11 => ?_) (fun c11 => ?_)
  · replace hf := k_ifP hf c11
    refine lv_iconst (v := 0) X.1 X.2.1 dX11_readChute_68 (by decide) ?_
    have hz := Option.some.inj hf
    subst hz
    exact k_iret (v := 0) X hU hS hr hlk rfl rfl dX11_readChute_69
  · replace hf := k_ifN hf c11
    refine lv_aload_n X.1 X.2.1 dX11_readChute_14 rfl (lv_at hl 0 rfl) ?_
    refine lv_bipush (v := 29) X.1 X.2.1 dX11_readChute_15 (by decide) ?_
    refine lv_iload_n X.1 X.2.1 dX11_readChute_17 rfl (lv_at hl 1 rfl) ?_
    refine lv_iadd X.1 X.2.1 dX11_readChute_18 ?_
    refine lv_iconst (v := 1) X.1 X.2.1 dX11_readChute_19 (by decide) ?_
    refine lv_bipush (v := 12) X.1 X.2.1 dX11_readChute_20 (by decide) ?_
    obtain ⟨r22, hr22, hf⟩ := k_bdE hf
    refine k_backi X hS (k_runV (As := [.int (29 + a1), .int 1, .int 12]) (rest := []) X hS hU sh_5_0 (by decide) rfl vl_X11_308 (c_X11_takesInto X.2.2.2.2.2.2.1 (k_uc_s _ _ _) hr22) rfl rfl rfl hl.1 ⟨Nat.le_of_ble_eq_true rfl, Nat.le_of_ble_eq_true rfl⟩ (Nat.le_of_ble_eq_true rfl) dX11_readChute_22 ⟨Nat.zero_le _, Nat.zero_le _⟩) (fun H locs hU hS => ?_)
    rw [k_uc_uc] at hU
    refine lv_if_eq (tgt := 68) X.1 X.2.1 dX11_readChute_25 (by decide) (fun c25 => ?_) (fun c25 => ?_)
    · replace hf := k_ifP hf c25
      refine lv_iconst (v := 0) X.1 X.2.1 dX11_readChute_68 (by decide) ?_
      have hz := Option.some.inj hf
      subst hz
      exact k_iret (v := 0) X hU hS hr hlk rfl rfl dX11_readChute_69
    · replace hf := k_ifN hf c25
      refine lv_aload_n X.1 X.2.1 dX11_readChute_28 rfl (lv_at hl 0 rfl) ?_
      refine lv_bipush (v := 38) X.1 X.2.1 dX11_readChute_29 (by decide) ?_
      refine lv_iload_n X.1 X.2.1 dX11_readChute_31 rfl (lv_at hl 1 rfl) ?_
      refine lv_iadd X.1 X.2.1 dX11_readChute_32 ?_
      refine lv_iconst (v := 1) X.1 X.2.1 dX11_readChute_33 (by decide) ?_
      refine lv_sipush (v := 9999) X.1 X.2.1 dX11_readChute_34 (by decide) ?_
      obtain ⟨r37, hr37, hf⟩ := k_bdE hf
      refine k_backi X hS (k_runV (As := [.int (38 + a1), .int 1, .int 9999]) (rest := []) X hS hU sh_5_0 (by decide) rfl vl_X11_308 (c_X11_takesInto X.2.2.2.2.2.2.1 (k_uc_s _ _ _) hr37) rfl rfl rfl hl.1 ⟨Nat.le_of_ble_eq_true rfl, Nat.le_of_ble_eq_true rfl⟩ (Nat.le_of_ble_eq_true rfl) dX11_readChute_37 ⟨Nat.zero_le _, Nat.zero_le _⟩) (fun H locs hU hS => ?_)
      rw [k_uc_uc] at hU
      refine lv_if_eq (tgt := 68) X.1 X.2.1 dX11_readChute_40 (by decide) (fun c40 => ?_) (fun c40 => ?_)
      · replace hf := k_ifP hf c40
        refine lv_iconst (v := 0) X.1 X.2.1 dX11_readChute_68 (by decide) ?_
        have hz := Option.some.inj hf
        subst hz
        exact k_iret (v := 0) X hU hS hr hlk rfl rfl dX11_readChute_69
      · replace hf := k_ifN hf c40
        refine lv_aload_n X.1 X.2.1 dX11_readChute_43 rfl (lv_at hl 0 rfl) ?_
        refine k_ldcSW (i := 17) (tx := "below") X rfl dX11_readChute_44 ?_
        obtain ⟨r47, hr47, hf⟩ := k_bdE hf
        refine k_backi X hS (k_runV (As := [.ref (ad 30 17)]) (rest := []) X hS hU sh_5_0 (by decide) rfl vl_X11_313 (c_X11_takesWord X.2.2.2.2.2.2.1 (k_uc_s _ _ _) (by decide) hr47) rfl rfl rfl hl.1 ⟨Nat.le_of_ble_eq_true rfl, Nat.le_of_ble_eq_true rfl⟩ (Nat.le_of_ble_eq_true rfl) dX11_readChute_47 ⟨Nat.zero_le _, Nat.zero_le _⟩) (fun H locs hU hS => ?_)
        rw [k_uc_uc] at hU
        refine lv_if_eq (tgt := 68) X.1 X.2.1 dX11_readChute_50 (by decide) (fun c50 => ?_) (fun c50 => ?_)
        · replace hf := k_ifP hf c50
          refine lv_iconst (v := 0) X.1 X.2.1 dX11_readChute_68 (by decide) ?_
          have hz := Option.some.inj hf
          subst hz
          exact k_iret (v := 0) X hU hS hr hlk rfl rfl dX11_readChute_69
        · replace hf := k_ifN hf c50
          refine lv_aload_n X.1 X.2.1 dX11_readChute_53 rfl (lv_at hl 0 rfl) ?_
          refine lv_bipush (v := 47) X.1 X.2.1 dX11_readChute_54 (by decide) ?_
          refine lv_iload_n X.1 X.2.1 dX11_readChute_56 rfl (lv_at hl 1 rfl) ?_
          refine lv_iadd X.1 X.2.1 dX11_readChute_57 ?_
          refine lv_iconst (v := 1) X.1 X.2.1 dX11_readChute_58 (by decide) ?_
          refine lv_sipush (v := 30000) X.1 X.2.1 dX11_readChute_59 (by decide) ?_
          obtain ⟨r62, hr62, hf⟩ := k_bdE hf
          refine k_backi X hS (k_runV (As := [.int (47 + a1), .int 1, .int 30000]) (rest := []) X hS hU sh_5_0 (by decide) rfl vl_X11_308 (c_X11_takesInto X.2.2.2.2.2.2.1 (k_uc_s _ _ _) hr62) rfl rfl rfl hl.1 ⟨Nat.le_of_ble_eq_true rfl, Nat.le_of_ble_eq_true rfl⟩ (Nat.le_of_ble_eq_true rfl) dX11_readChute_62 ⟨Nat.zero_le _, Nat.zero_le _⟩) (fun H locs hU hS => ?_)
          rw [k_uc_uc] at hU
          refine lv_if_ne (tgt := 70) X.1 X.2.1 dX11_readChute_65 (by decide) (fun c65 => ?_) (fun c65 => ?_)
          · replace hf := k_ifN hf c65
            refine lv_aload_n X.1 X.2.1 dX11_readChute_70 rfl (lv_at hl 0 rfl) ?_
            refine k_getw (v := .ref (ad 5 2)) X hU sh_5_0 fl_X11_13 rfl dX11_readChute_71 ?_
            refine lv_bipush (v := 74) X.1 X.2.1 dX11_readChute_74 (by decide) ?_
            refine lv_iload_n X.1 X.2.1 dX11_readChute_76 rfl (lv_at hl 1 rfl) ?_
            refine lv_iadd X.1 X.2.1 dX11_readChute_77 ?_
            refine lv_iconst (v := 1) X.1 X.2.1 dX11_readChute_78 (by decide) ?_
            refine lv_aload_n X.1 X.2.1 dX11_readChute_79 rfl (lv_at hl 0 rfl) ?_
            refine k_getw (v := .ref (ad 5 2)) X hU sh_5_0 fl_X11_13 rfl dX11_readChute_80 ?_
            refine lv_bipush (v := 29) X.1 X.2.1 dX11_readChute_83 (by decide) ?_
            refine lv_iload_n X.1 X.2.1 dX11_readChute_85 rfl (lv_at hl 1 rfl) ?_
            refine lv_iadd X.1 X.2.1 dX11_readChute_86 ?_
            obtain ⟨hi87, hf⟩ := k_ckE hf
            refine k_ildw (j0 := (29 + a1).toNatClampNeg) X hU sh_5_2 (k_vin (n := 268) hi87 (by decide)) rfl dX11_readChute_87 ?_
            refine lv_ishl X.1 X.2.1 dX11_readChute_88 ?_
            refine lv_iconst (v := 1) X.1 X.2.1 dX11_readChute_89 (by decide) ?_
            refine lv_isub X.1 X.2.1 dX11_readChute_90 ?_
            obtain ⟨hi91, hf⟩ := k_ckE hf
            obtain ⟨w91, e91, hf⟩ := k_ltE hf
            refine k_istw X hU hS sh_5_2 e91 (k_vin (n := 268) hi91 (by decide)) rfl dX11_readChute_91 (fun H locs hU hS => ?_)
            refine lv_iconst (v := 1) X.1 X.2.1 dX11_readChute_92 (by decide) ?_
            have hz := Option.some.inj hf
            subst hz
            exact k_iret (v := 1) X hU hS hr hlk rfl rfl dX11_readChute_93
          · replace hf := k_ifP hf c65
            refine lv_iconst (v := 0) X.1 X.2.1 dX11_readChute_68 (by decide) ?_
            have hz := Option.some.inj hf
            subst hz
            exact k_iret (v := 0) X hU hS hr hlk rfl rfl dX11_readChute_69
def rm_X11_readLayer : Room := { frames := 7, cells := 0, slots := 0, locals := 166 }
set_option maxRecDepth 100000 in
set_option maxHeartbeats 4000000 in
theorem c_X11_readLayer {l : Launch} {D : va_G} {G : Nat → ClassId} {ad : Nat → Nat → Nat} {u : k_U} (hI : k_ok ad) {w : k_M} (hw : u 5 = w) {sz : Nat} {r : (k_M × Int32)} (hf : f_X11_readLayer w = some r) : Met l yX11_readLayer (.code yX11_readLayer cX11_readLayer 2 (some .boolean) :: lw_g) rm_X11_readLayer (k_Pre D G ad u sz [.ref (ad 5 0)]) (k_Qi D G ad (k_uc u 5 r.1) r.2 sz) 0 0 (k_A ad sz) := by
  refine k_ofW (by decide +kernel) hI (Nat.le_of_ble_eq_true rfl) ?_
  intro p e s m args below meth c X hr hlk hU hS ls hl
  have hl : lv_has ls 2 [(0, .ref (ad 5 0))] := hl
  have hU : k_Uv D G ad (k_uc u 5 w) s.heap := by rw [← hw, k_uc_id]; exact hU
  have J100 : ∀ (H : Heap) (locs : List Loc) (ls : Array Slot) (w : k_M), k_Uv D G ad (k_uc u 5 w) H → va_S (k_A ad sz) s.heap H locs → lv_has ls 2 [(0, .ref (ad 5 0))] → f_X11_readLayer_100 w = some r → W p l e rm_X11_readLayer s m args below meth c H locs 0 0 (MQ below (k_Qi D G ad (k_uc u 5 r.1) r.2 sz) args s 0 0 (k_A ad sz)) (F0 m 100 ls []) := by
    intro H locs ls w hU hS hl hf
    unfold f_X11_readLayer_100 at hf
    refine lv_aload_n X.1 X.2.1 dX11_readLayer_100 rfl (lv_at hl 0 rfl) ?_
    refine k_getw (v := .ref (ad 5 2)) X hU sh_5_0 fl_X11_13 rfl dX11_readLayer_101 ?_
    refine lv_bipush (v := 8) X.1 X.2.1 dX11_readLayer_104 (by decide) ?_
    refine lv_dup2_11 X.1 X.2.1 dX11_readLayer_106 rfl rfl ?_
    refine k_ildw (j0 := 8) X hU sh_5_2 (k_vin (N := 268) (by decide) (by decide)) (by decide) dX11_readLayer_107 ?_
    refine lv_iconst (v := 1) X.1 X.2.1 dX11_readLayer_108 (by decide) ?_
    refine lv_iadd X.1 X.2.1 dX11_readLayer_109 ?_
    obtain ⟨w110, e110, hf⟩ := k_ltE hf
    refine k_istw X hU hS sh_5_2 e110 (k_vin (N := 268) (by decide) (by decide)) (by decide) dX11_readLayer_110 (fun H locs hU hS => ?_)
    refine lv_iconst (v := 1) X.1 X.2.1 dX11_readLayer_111 (by decide) ?_
    have hz := Option.some.inj hf
    subst hz
    exact k_iret (v := 1) X hU hS hr hlk rfl rfl dX11_readLayer_112
  have J85 : ∀ (H : Heap) (locs : List Loc) (ls : Array Slot) (w : k_M) (as0 : Int32) (as1 : Int32), k_Uv D G ad (k_uc u 5 w) H → va_S (k_A ad sz) s.heap H locs → lv_has ls 2 [(0, .ref (ad 5 0))] → f_X11_readLayer_85 w as0 as1 = some r → W p l e rm_X11_readLayer s m args below meth c H locs 0 0 (MQ below (k_Qi D G ad (k_uc u 5 r.1) r.2 sz) args s 0 0 (k_A ad sz)) (F0 m 85 ls [.int as0, .int as1, .ref (ad 5 2)]) := by
    intro H locs ls w as0 as1 hU hS hl hf
    unfold f_X11_readLayer_85 at hf
    obtain ⟨hi85, hf⟩ := k_ckE hf
    obtain ⟨w85, e85, hf⟩ := k_ltE hf
    refine k_istw X hU hS sh_5_2 e85 (k_vin (n := 268) hi85 (by decide)) rfl dX11_readLayer_85 (fun H locs hU hS => ?_)
    refine lv_aload_n X.1 X.2.1 dX11_readLayer_86 rfl (lv_at hl 0 rfl) ?_
    refine k_ldcSW (i := 19) (tx := "jammed") X rfl dX11_readLayer_87 ?_
    obtain ⟨r90, hr90, hf⟩ := k_bdE hf
    refine k_backi X hS (k_runV (As := [.ref (ad 30 19)]) (rest := []) X hS hU sh_5_0 (by decide) rfl vl_X11_301 (c_X11_isWord X.2.2.2.2.2.2.1 (k_uc_s _ _ _) (by decide) hr90) rfl rfl rfl hl.1 ⟨Nat.le_of_ble_eq_true rfl, Nat.le_of_ble_eq_true rfl⟩ (Nat.le_of_ble_eq_true rfl) dX11_readLayer_90 ⟨Nat.zero_le _, Nat.zero_le _⟩) (fun H locs hU hS => ?_)
    refine lv_if_eq (tgt := 100) X.1 X.2.1 dX11_readLayer_93 (by decide) (fun c93 => ?_) (fun c93 => ?_)
    · replace hf := k_ifP hf c93
      exact J100 _ _ _ w85 hU hS (lv_sub hl [0] rfl) hf
    · replace hf := k_ifN hf c93
      refine lv_aload_n X.1 X.2.1 dX11_readLayer_96 rfl (lv_at hl 0 rfl) ?_
      obtain ⟨r97, hr97, hf⟩ := k_bdE hf
      refine k_backv X hS (k_runV (As := []) (rest := []) X hS hU sh_5_0 (by decide) rfl vl_X11_285 (c_X11_advance X.2.2.2.2.2.2.1 (k_uc_s _ _ _) hr97) rfl rfl rfl hl.1 ⟨Nat.le_of_ble_eq_true rfl, Nat.le_of_ble_eq_true rfl⟩ (Nat.le_of_ble_eq_true rfl) dX11_readLayer_97 ⟨Nat.zero_le _, Nat.zero_le _⟩) (fun H locs hU hS => ?_)
      rw [k_uc_uc] at hU
      exact J100 _ _ _ r97 hU hS (lv_sub hl [0] rfl) hf
  have J21 : ∀ (H : Heap) (locs : List Loc) (ls : Array Slot) (w : k_M) (a1 : Int32) (as0 : Int32) (as1 : Int32), k_Uv D G ad (k_uc u 5 w) H → va_S (k_A ad sz) s.heap H locs → lv_has ls 2 [(0, .ref (ad 5 0)), (1, .int a1)] → f_X11_readLayer_21 w a1 as0 as1 = some r → W p l e rm_X11_readLayer s m args below meth c H locs 0 0 (MQ below (k_Qi D G ad (k_uc u 5 r.1) r.2 sz) args s 0 0 (k_A ad sz)) (F0 m 21 ls [.int as0, .int as1, .ref (ad 5 0)]) := by
    intro H locs ls w a1 as0 as1 hU hS hl hf
    unfold f_X11_readLayer_21 at hf
    obtain ⟨r21, hr21, hf⟩ := k_bdE hf
    refine k_backi X hS (k_runV (As := [.int as1, .int as0]) (rest := []) X hS hU sh_5_0 (by decide) rfl vl_X11_294 (c_X11_goesOn X.2.2.2.2.2.2.1 (k_uc_s _ _ _) hr21) rfl rfl rfl hl.1 ⟨Nat.le_of_ble_eq_true rfl, Nat.le_of_ble_eq_true rfl⟩ (Nat.le_of_ble_eq_true rfl) dX11_readLayer_21 ⟨Nat.zero_le _, Nat.zero_le _⟩) (fun H locs hU hS => ?_)
    rw [k_uc_uc] at hU
    refine lv_if_eq (tgt := 60) X.1 X.2.1 dX11_readLayer_24 (by decide) (fun c24 => ?_) (fun c24 => ?_)
    · replace hf := k_ifP hf c24
      refine lv_iconst (v := 0) X.1 X.2.1 dX11_readLayer_60 (by decide) ?_
      have hz := Option.some.inj hf
      subst hz
      exact k_iret (v := 0) X hU hS hr hlk rfl rfl dX11_readLayer_61
    · replace hf := k_ifN hf c24
      refine lv_aload_n X.1 X.2.1 dX11_readLayer_27 rfl (lv_at hl 0 rfl) ?_
      refine lv_iload_n X.1 X.2.1 dX11_readLayer_28 rfl (lv_at hl 1 rfl) ?_
      obtain ⟨r29, hr29, hf⟩ := k_bdE hf
      refine k_backi X hS (k_runV (As := [.int a1]) (rest := []) X hS hU sh_5_0 (by decide) rfl vl_X11_316 (c_X11_readChute X.2.2.2.2.2.2.1 (k_uc_s _ _ _) hr29) rfl rfl rfl hl.1 ⟨Nat.le_of_ble_eq_true rfl, Nat.le_of_ble_eq_true rfl⟩ (Nat.le_of_ble_eq_true rfl) dX11_readLayer_29 ⟨Nat.zero_le _, Nat.zero_le _⟩) (fun H locs hU hS => ?_)
      rw [k_uc_uc] at hU
      refine lv_if_eq (tgt := 60) X.1 X.2.1 dX11_readLayer_32 (by decide) (fun c32 => ?_) (fun c32 => ?_)
      · replace hf := k_ifP hf c32
        refine lv_iconst (v := 0) X.1 X.2.1 dX11_readLayer_60 (by decide) ?_
        have hz := Option.some.inj hf
        subst hz
        exact k_iret (v := 0) X hU hS hr hlk rfl rfl dX11_readLayer_61
      · replace hf := k_ifN hf c32
        refine lv_aload_n X.1 X.2.1 dX11_readLayer_35 rfl (lv_at hl 0 rfl) ?_
        refine k_ldcSW (i := 18) (tx := "under") X rfl dX11_readLayer_36 ?_
        obtain ⟨r39, hr39, hf⟩ := k_bdE hf
        refine k_backi X hS (k_runV (As := [.ref (ad 30 18)]) (rest := []) X hS hU sh_5_0 (by decide) rfl vl_X11_313 (c_X11_takesWord X.2.2.2.2.2.2.1 (k_uc_s _ _ _) (by decide) hr39) rfl rfl rfl hl.1 ⟨Nat.le_of_ble_eq_true rfl, Nat.le_of_ble_eq_true rfl⟩ (Nat.le_of_ble_eq_true rfl) dX11_readLayer_39 ⟨Nat.zero_le _, Nat.zero_le _⟩) (fun H locs hU hS => ?_)
        rw [k_uc_uc] at hU
        refine lv_if_eq (tgt := 60) X.1 X.2.1 dX11_readLayer_42 (by decide) (fun c42 => ?_) (fun c42 => ?_)
        · replace hf := k_ifP hf c42
          refine lv_iconst (v := 0) X.1 X.2.1 dX11_readLayer_60 (by decide) ?_
          have hz := Option.some.inj hf
          subst hz
          exact k_iret (v := 0) X hU hS hr hlk rfl rfl dX11_readLayer_61
        · replace hf := k_ifN hf c42
          refine lv_aload_n X.1 X.2.1 dX11_readLayer_45 rfl (lv_at hl 0 rfl) ?_
          refine lv_bipush (v := 56) X.1 X.2.1 dX11_readLayer_46 (by decide) ?_
          refine lv_iload_n X.1 X.2.1 dX11_readLayer_48 rfl (lv_at hl 1 rfl) ?_
          refine lv_iadd X.1 X.2.1 dX11_readLayer_49 ?_
          refine lv_iconst (v := 1) X.1 X.2.1 dX11_readLayer_50 (by decide) ?_
          refine lv_sipush (v := 400) X.1 X.2.1 dX11_readLayer_51 (by decide) ?_
          obtain ⟨r54, hr54, hf⟩ := k_bdE hf
          refine k_backi X hS (k_runV (As := [.int (56 + a1), .int 1, .int 400]) (rest := []) X hS hU sh_5_0 (by decide) rfl vl_X11_308 (c_X11_takesInto X.2.2.2.2.2.2.1 (k_uc_s _ _ _) hr54) rfl rfl rfl hl.1 ⟨Nat.le_of_ble_eq_true rfl, Nat.le_of_ble_eq_true rfl⟩ (Nat.le_of_ble_eq_true rfl) dX11_readLayer_54 ⟨Nat.zero_le _, Nat.zero_le _⟩) (fun H locs hU hS => ?_)
          rw [k_uc_uc] at hU
          refine lv_if_ne (tgt := 62) X.1 X.2.1 dX11_readLayer_57 (by decide) (fun c57 => ?_) (fun c57 => ?_)
          · replace hf := k_ifN hf c57
            refine lv_aload_n X.1 X.2.1 dX11_readLayer_62 rfl (lv_at hl 0 rfl) ?_
            refine k_getw (v := .ref (ad 5 2)) X hU sh_5_0 fl_X11_13 rfl dX11_readLayer_63 ?_
            refine lv_bipush (v := 83) X.1 X.2.1 dX11_readLayer_66 (by decide) ?_
            refine lv_iload_n X.1 X.2.1 dX11_readLayer_68 rfl (lv_at hl 1 rfl) ?_
            refine lv_iadd X.1 X.2.1 dX11_readLayer_69 ?_
            refine lv_aload_n X.1 X.2.1 dX11_readLayer_70 rfl (lv_at hl 0 rfl) ?_
            refine k_ldcSW (i := 19) (tx := "jammed") X rfl dX11_readLayer_71 ?_
            obtain ⟨r74, hr74, hf⟩ := k_bdE hf
            refine k_backi X hS (k_runV (As := [.ref (ad 30 19)]) (rest := [.int (83 + a1), .ref (ad 5 2)]) X hS hU sh_5_0 (by decide) rfl vl_X11_301 (c_X11_isWord X.2.2.2.2.2.2.1 (k_uc_s _ _ _) (by decide) hr74) rfl rfl rfl hl.1 ⟨Nat.le_of_ble_eq_true rfl, Nat.le_of_ble_eq_true rfl⟩ (Nat.le_of_ble_eq_true rfl) dX11_readLayer_74 ⟨Nat.zero_le _, Nat.zero_le _⟩) (fun H locs hU hS => ?_)
            refine lv_if_eq (tgt := 84) X.1 X.2.1 dX11_readLayer_77 (by decide) (fun c77 => ?_) (fun c77 => ?_)
            · replace hf := k_ifP hf c77
              refine lv_iconst (v := 0) X.1 X.2.1 dX11_readLayer_84 (by decide) ?_
              exact J85 _ _ _ r54.1 0 (83 + a1) hU hS (lv_sub hl [0] rfl) hf
            · replace hf := k_ifN hf c77
              refine lv_iconst (v := 1) X.1 X.2.1 dX11_readLayer_80 (by decide) ?_
              refine lv_goto (tgt := 85) X.1 X.2.1 dX11_readLayer_81 (by decide) ?_
              exact J85 _ _ _ r54.1 1 (83 + a1) hU hS (lv_sub hl [0] rfl) hf
          · replace hf := k_ifP hf c57
            refine lv_iconst (v := 0) X.1 X.2.1 dX11_readLayer_60 (by decide) ?_
            have hz := Option.some.inj hf
            subst hz
            exact k_iret (v := 0) X hU hS hr hlk rfl rfl dX11_readLayer_61
  unfold f_X11_readLayer at hf
  refine lv_aload_n X.1 X.2.1 dX11_readLayer_0 rfl (lv_at hl 0 rfl) ?_
  refine k_getw (v := .ref (ad 5 2)) X hU sh_5_0 fl_X11_13 rfl dX11_readLayer_1 ?_
  refine lv_bipush (v := 8) X.1 X.2.1 dX11_readLayer_4 (by decide) ?_
  refine k_ildw (j0 := 8) X hU sh_5_2 (k_vin (N := 268) (by decide) (by decide)) (by decide) dX11_readLayer_6 ?_
  obtain ⟨x7, e7, hf⟩ := k_ltE hf
  refine k_nmi e7 ?_
  refine lv_istore_n (lv' := [(1, .int x7), (0, .ref (ad 5 0))]) X.1 X.2.1 dX11_readLayer_7 rfl hl (by decide) rfl (fun ls hl => ?_)
  refine lv_aload_n X.1 X.2.1 dX11_readLayer_8 rfl (lv_at hl 1 rfl) ?_
  refine lv_iconst (v := 4) X.1 X.2.1 dX11_readLayer_9 (by decide) ?_
  refine lv_iload_n X.1 X.2.1 dX11_readLayer_10 rfl (lv_at hl 0 rfl) ?_
  refine lv_bipush (v := 8) X.1 X.2.1 dX11_readLayer_11 (by decide) ?_
  refine lv_icmp_ge (tgt := 20) X.1 X.2.1 dX11_readLayer_13 (by decide) (fun c13 => ?_) (fun c13 => ?_)
  · replace hf := k_ifP hf c13
    refine lv_iconst (v := 0) X.1 X.2.1 dX11_readLayer_20 (by decide) ?_
    exact J21 _ _ _ w x7 0 4 hU hS (lv_sub hl [1, 0] rfl) hf
  · replace hf := k_ifN hf c13
    refine lv_iconst (v := 1) X.1 X.2.1 dX11_readLayer_16 (by decide) ?_
    refine lv_goto (tgt := 21) X.1 X.2.1 dX11_readLayer_17 (by decide) ?_
    exact J21 _ _ _ w x7 1 4 hU hS (lv_sub hl [1, 0] rfl) hf
def rm_X11_readReserve : Room := { frames := 7, cells := 0, slots := 0, locals := 166 }
set_option maxRecDepth 100000 in
set_option maxHeartbeats 4000000 in
theorem c_X11_readReserve {l : Launch} {D : va_G} {G : Nat → ClassId} {ad : Nat → Nat → Nat} {u : k_U} (hI : k_ok ad) {w : k_M} (hw : u 5 = w) {sz : Nat} {r : (k_M × Int32)} (hf : f_X11_readReserve w = some r) : Met l yX11_readReserve (.code yX11_readReserve cX11_readReserve 1 (some .boolean) :: lw_g) rm_X11_readReserve (k_Pre D G ad u sz [.ref (ad 5 0)]) (k_Qi D G ad (k_uc u 5 r.1) r.2 sz) 0 0 (k_A ad sz) := by
  refine k_ofW (by decide +kernel) hI (Nat.le_of_ble_eq_true rfl) ?_
  intro p e s m args below meth c X hr hlk hU hS ls hl
  have hl : lv_has ls 1 [(0, .ref (ad 5 0))] := hl
  have hU : k_Uv D G ad (k_uc u 5 w) s.heap := by rw [← hw, k_uc_id]; exact hU
  have J17 : ∀ (H : Heap) (locs : List Loc) (ls : Array Slot) (w : k_M) (as0 : Int32) (as1 : Int32), k_Uv D G ad (k_uc u 5 w) H → va_S (k_A ad sz) s.heap H locs → lv_has ls 1 [(0, .ref (ad 5 0))] → f_X11_readReserve_17 w as0 as1 = some r → W p l e rm_X11_readReserve s m args below meth c H locs 0 0 (MQ below (k_Qi D G ad (k_uc u 5 r.1) r.2 sz) args s 0 0 (k_A ad sz)) (F0 m 17 ls [.int as0, .int as1, .ref (ad 5 0)]) := by
    intro H locs ls w as0 as1 hU hS hl hf
    unfold f_X11_readReserve_17 at hf
    obtain ⟨r17, hr17, hf⟩ := k_bdE hf
    refine k_backi X hS (k_runV (As := [.int as1, .int as0]) (rest := []) X hS hU sh_5_0 (by decide) rfl vl_X11_294 (c_X11_goesOn X.2.2.2.2.2.2.1 (k_uc_s _ _ _) hr17) rfl rfl rfl hl.1 ⟨Nat.le_of_ble_eq_true rfl, Nat.le_of_ble_eq_true rfl⟩ (Nat.le_of_ble_eq_true rfl) dX11_readReserve_17 ⟨Nat.zero_le _, Nat.zero_le _⟩) (fun H locs hU hS => ?_)
    rw [k_uc_uc] at hU
    refine lv_if_eq (tgt := 54) X.1 X.2.1 dX11_readReserve_20 (by decide) (fun c20 => ?_) (fun c20 => ?_)
    · replace hf := k_ifP hf c20
      refine lv_iconst (v := 0) X.1 X.2.1 dX11_readReserve_54 (by decide) ?_
      have hz := Option.some.inj hf
      subst hz
      exact k_iret (v := 0) X hU hS hr hlk rfl rfl dX11_readReserve_55
    · replace hf := k_ifN hf c20
      refine lv_aload_n X.1 X.2.1 dX11_readReserve_23 rfl (lv_at hl 0 rfl) ?_
      refine lv_bipush (v := 8) X.1 X.2.1 dX11_readReserve_24 (by decide) ?_
      obtain ⟨r26, hr26, hf⟩ := k_bdE hf
      refine k_backi X hS (k_runV (As := [.int 8]) (rest := []) X hS hU sh_5_0 (by decide) rfl vl_X11_316 (c_X11_readChute X.2.2.2.2.2.2.1 (k_uc_s _ _ _) hr26) rfl rfl rfl hl.1 ⟨Nat.le_of_ble_eq_true rfl, Nat.le_of_ble_eq_true rfl⟩ (Nat.le_of_ble_eq_true rfl) dX11_readReserve_26 ⟨Nat.zero_le _, Nat.zero_le _⟩) (fun H locs hU hS => ?_)
      rw [k_uc_uc] at hU
      refine lv_if_eq (tgt := 54) X.1 X.2.1 dX11_readReserve_29 (by decide) (fun c29 => ?_) (fun c29 => ?_)
      · replace hf := k_ifP hf c29
        refine lv_iconst (v := 0) X.1 X.2.1 dX11_readReserve_54 (by decide) ?_
        have hz := Option.some.inj hf
        subst hz
        exact k_iret (v := 0) X hU hS hr hlk rfl rfl dX11_readReserve_55
      · replace hf := k_ifN hf c29
        refine lv_aload_n X.1 X.2.1 dX11_readReserve_32 rfl (lv_at hl 0 rfl) ?_
        refine k_ldcSW (i := 20) (tx := "after") X rfl dX11_readReserve_33 ?_
        obtain ⟨r36, hr36, hf⟩ := k_bdE hf
        refine k_backi X hS (k_runV (As := [.ref (ad 30 20)]) (rest := []) X hS hU sh_5_0 (by decide) rfl vl_X11_313 (c_X11_takesWord X.2.2.2.2.2.2.1 (k_uc_s _ _ _) (by decide) hr36) rfl rfl rfl hl.1 ⟨Nat.le_of_ble_eq_true rfl, Nat.le_of_ble_eq_true rfl⟩ (Nat.le_of_ble_eq_true rfl) dX11_readReserve_36 ⟨Nat.zero_le _, Nat.zero_le _⟩) (fun H locs hU hS => ?_)
        rw [k_uc_uc] at hU
        refine lv_if_eq (tgt := 54) X.1 X.2.1 dX11_readReserve_39 (by decide) (fun c39 => ?_) (fun c39 => ?_)
        · replace hf := k_ifP hf c39
          refine lv_iconst (v := 0) X.1 X.2.1 dX11_readReserve_54 (by decide) ?_
          have hz := Option.some.inj hf
          subst hz
          exact k_iret (v := 0) X hU hS hr hlk rfl rfl dX11_readReserve_55
        · replace hf := k_ifN hf c39
          refine lv_aload_n X.1 X.2.1 dX11_readReserve_42 rfl (lv_at hl 0 rfl) ?_
          refine lv_bipush (v := 64) X.1 X.2.1 dX11_readReserve_43 (by decide) ?_
          refine lv_iconst (v := 1) X.1 X.2.1 dX11_readReserve_45 (by decide) ?_
          refine lv_bipush (v := 8) X.1 X.2.1 dX11_readReserve_46 (by decide) ?_
          obtain ⟨r48, hr48, hf⟩ := k_bdE hf
          refine k_backi X hS (k_runV (As := [.int 64, .int 1, .int 8]) (rest := []) X hS hU sh_5_0 (by decide) rfl vl_X11_308 (c_X11_takesInto X.2.2.2.2.2.2.1 (k_uc_s _ _ _) hr48) rfl rfl rfl hl.1 ⟨Nat.le_of_ble_eq_true rfl, Nat.le_of_ble_eq_true rfl⟩ (Nat.le_of_ble_eq_true rfl) dX11_readReserve_48 ⟨Nat.zero_le _, Nat.zero_le _⟩) (fun H locs hU hS => ?_)
          rw [k_uc_uc] at hU
          refine lv_if_ne (tgt := 56) X.1 X.2.1 dX11_readReserve_51 (by decide) (fun c51 => ?_) (fun c51 => ?_)
          · replace hf := k_ifN hf c51
            refine lv_aload_n X.1 X.2.1 dX11_readReserve_56 rfl (lv_at hl 0 rfl) ?_
            refine k_getw (v := .ref (ad 5 2)) X hU sh_5_0 fl_X11_13 rfl dX11_readReserve_57 ?_
            refine lv_bipush (v := 9) X.1 X.2.1 dX11_readReserve_60 (by decide) ?_
            refine lv_iconst (v := 1) X.1 X.2.1 dX11_readReserve_62 (by decide) ?_
            obtain ⟨w63, e63, hf⟩ := k_ltE hf
            refine k_istw X hU hS sh_5_2 e63 (k_vin (N := 268) (by decide) (by decide)) (by decide) dX11_readReserve_63 (fun H locs hU hS => ?_)
            refine lv_iconst (v := 1) X.1 X.2.1 dX11_readReserve_64 (by decide) ?_
            have hz := Option.some.inj hf
            subst hz
            exact k_iret (v := 1) X hU hS hr hlk rfl rfl dX11_readReserve_65
          · replace hf := k_ifP hf c51
            refine lv_iconst (v := 0) X.1 X.2.1 dX11_readReserve_54 (by decide) ?_
            have hz := Option.some.inj hf
            subst hz
            exact k_iret (v := 0) X hU hS hr hlk rfl rfl dX11_readReserve_55
  unfold f_X11_readReserve at hf
  refine lv_aload_n X.1 X.2.1 dX11_readReserve_0 rfl (lv_at hl 0 rfl) ?_
  refine lv_iconst (v := 3) X.1 X.2.1 dX11_readReserve_1 (by decide) ?_
  refine lv_aload_n X.1 X.2.1 dX11_readReserve_2 rfl (lv_at hl 0 rfl) ?_
  refine k_getw (v := .ref (ad 5 2)) X hU sh_5_0 fl_X11_13 rfl dX11_readReserve_3 ?_
  refine lv_bipush (v := 9) X.1 X.2.1 dX11_readReserve_6 (by decide) ?_
  refine k_ildw (j0 := 9) X hU sh_5_2 (k_vin (N := 268) (by decide) (by decide)) (by decide) dX11_readReserve_8 ?_
  refine lv_if_ne (tgt := 16) X.1 X.2.1 dX11_readReserve_9 (by decide) (fun c9 => ?_) (fun c9 => ?_)
  · replace hf := k_ifN hf c9
    refine lv_iconst (v := 0) X.1 X.2.1 dX11_readReserve_16 (by decide) ?_
    exact J17 _ _ _ w 0 3 hU hS (lv_sub hl [0] rfl) hf
  · replace hf := k_ifP hf c9
    refine lv_iconst (v := 1) X.1 X.2.1 dX11_readReserve_12 (by decide) ?_
    refine lv_goto (tgt := 17) X.1 X.2.1 dX11_readReserve_13 (by decide) ?_
    exact J17 _ _ _ w 1 3 hU hS (lv_sub hl [0] rfl) hf
def rm_X11_takesHeight : Room := { frames := 4, cells := 0, slots := 0, locals := 85 }
set_option maxRecDepth 100000 in
set_option maxHeartbeats 4000000 in
theorem c_X11_takesHeight {l : Launch} {D : va_G} {G : Nat → ClassId} {ad : Nat → Nat → Nat} {u : k_U} (hI : k_ok ad) {w : k_M} (hw : u 5 = w) {a1 : Int32} {a2 : Int32} {a3 : Int32} {sz : Nat} {r : (k_M × Int32)} (hf : f_X11_takesHeight w a1 a2 a3 = some r) : Met l yX11_takesHeight (.code yX11_takesHeight cX11_takesHeight 5 (some .boolean) :: lw_g) rm_X11_takesHeight (k_Pre D G ad u sz [.ref (ad 5 0), .int a1, .int a2, .int a3]) (k_Qi D G ad (k_uc u 5 r.1) r.2 sz) 0 0 (k_A ad sz) := by
  refine k_ofW (by decide +kernel) hI (Nat.le_of_ble_eq_true rfl) ?_
  intro p e s m args below meth c X hr hlk hU hS ls hl
  have hl : lv_has ls 5 [(0, .ref (ad 5 0)), (1, .int a1), (2, .int a2), (3, .int a3)] := hl
  have hU : k_Uv D G ad (k_uc u 5 w) s.heap := by rw [← hw, k_uc_id]; exact hU
  have L40 : ∀ (n40 : Nat) (H : Heap) (locs : List Loc) (ls : Array Slot) (w : k_M) (a1 : Int32) (a2 : Int32) (a4 : Int32), k_Uv D G ad (k_uc u 5 w) H → va_S (k_A ad sz) s.heap H locs → lv_has ls 5 [(0, .ref (ad 5 0)), (1, .int a1), (2, .int a2), (4, .int a4)] → f_X11_takesHeight_40 n40 w a3 a1 a2 a4 = some r → W p l e rm_X11_takesHeight s m args below meth c H locs 0 0 (MQ below (k_Qi D G ad (k_uc u 5 r.1) r.2 sz) args s 0 0 (k_A ad sz)) (F0 m 40 ls []) := by
    intro n40
    induction n40 with
    | zero =>
      intro H locs ls w a1 a2 a4 hU hS hl hf
      cases (show none = some r from hf)
    | succ n40 ih40 =>
      intro H locs ls w a1 a2 a4 hU hS hl hf
      replace hf : f_X11_takesHeight_40_b (f_X11_takesHeight_40 n40) w a3 a1 a2 a4 = some r := hf
      unfold f_X11_takesHeight_40_b at hf
      refine lv_iload X.1 X.2.1 dX11_takesHeight_40 (lv_at hl 3 rfl) ?_
      refine lv_aload_n X.1 X.2.1 dX11_takesHeight_42 rfl (lv_at hl 0 rfl) ?_
      refine k_getw (v := .ref (ad 5 2)) X hU sh_5_0 fl_X11_13 rfl dX11_takesHeight_43 ?_
      refine lv_iload_n X.1 X.2.1 dX11_takesHeight_46 rfl (lv_at hl 2 rfl) ?_
      obtain ⟨hi47, hf⟩ := k_ckE hf
      refine k_ildw (j0 := a2.toNatClampNeg) X hU sh_5_2 (k_vin (n := 268) hi47 (by decide)) rfl dX11_takesHeight_47 ?_
      refine lv_icmp_ge (tgt := 81) X.1 X.2.1 dX11_takesHeight_48 (by decide) (fun c48 => ?_) (fun c48 => ?_)
      · replace hf := k_ifP hf c48
        refine lv_aload_n X.1 X.2.1 dX11_takesHeight_81 rfl (lv_at hl 0 rfl) ?_
        refine k_getw (v := .ref (ad 5 2)) X hU sh_5_0 fl_X11_13 rfl dX11_takesHeight_82 ?_
        refine lv_iload_n X.1 X.2.1 dX11_takesHeight_85 rfl (lv_at hl 1 rfl) ?_
        refine lv_iconst (v := 2) X.1 X.2.1 dX11_takesHeight_86 (by decide) ?_
        refine lv_aload_n X.1 X.2.1 dX11_takesHeight_87 rfl (lv_at hl 0 rfl) ?_
        refine k_getw (v := .ref (ad 5 2)) X hU sh_5_0 fl_X11_13 rfl dX11_takesHeight_88 ?_
        refine lv_iload_n X.1 X.2.1 dX11_takesHeight_91 rfl (lv_at hl 2 rfl) ?_
        obtain ⟨hi92, hf⟩ := k_ckE hf
        refine k_ildw (j0 := a2.toNatClampNeg) X hU sh_5_2 (k_vin (n := 268) hi92 (by decide)) rfl dX11_takesHeight_92 ?_
        refine lv_imul X.1 X.2.1 dX11_takesHeight_93 ?_
        refine lv_iadd X.1 X.2.1 dX11_takesHeight_94 ?_
        refine lv_aload_n X.1 X.2.1 dX11_takesHeight_95 rfl (lv_at hl 0 rfl) ?_
        refine k_getw (v := .int (w 0 17)) X hU sh_5_0 fl_X11_288 rfl dX11_takesHeight_96 ?_
        obtain ⟨hi99, hf⟩ := k_ckE hf
        obtain ⟨w99, e99, hf⟩ := k_ltE hf
        refine k_istw X hU hS sh_5_2 e99 (k_vin (n := 268) hi99 (by decide)) rfl dX11_takesHeight_99 (fun H locs hU hS => ?_)
        refine lv_aload_n X.1 X.2.1 dX11_takesHeight_100 rfl (lv_at hl 0 rfl) ?_
        obtain ⟨r101, hr101, hf⟩ := k_bdE hf
        refine k_backv X hS (k_runV (As := []) (rest := []) X hS hU sh_5_0 (by decide) rfl vl_X11_285 (c_X11_advance X.2.2.2.2.2.2.1 (k_uc_s _ _ _) hr101) rfl rfl rfl hl.1 ⟨Nat.le_of_ble_eq_true rfl, Nat.le_of_ble_eq_true rfl⟩ (Nat.le_of_ble_eq_true rfl) dX11_takesHeight_101 ⟨Nat.zero_le _, Nat.zero_le _⟩) (fun H locs hU hS => ?_)
        rw [k_uc_uc] at hU
        refine lv_iconst (v := 1) X.1 X.2.1 dX11_takesHeight_104 (by decide) ?_
        have hz := Option.some.inj hf
        subst hz
        exact k_iret (v := 1) X hU hS hr hlk rfl rfl dX11_takesHeight_105
      · replace hf := k_ifN hf c48
        refine lv_aload_n X.1 X.2.1 dX11_takesHeight_51 rfl (lv_at hl 0 rfl) ?_
        refine k_getw (v := .ref (ad 5 2)) X hU sh_5_0 fl_X11_13 rfl dX11_takesHeight_52 ?_
        refine lv_iload_n X.1 X.2.1 dX11_takesHeight_55 rfl (lv_at hl 1 rfl) ?_
        refine lv_iconst (v := 2) X.1 X.2.1 dX11_takesHeight_56 (by decide) ?_
        refine lv_iload X.1 X.2.1 dX11_takesHeight_57 (lv_at hl 3 rfl) ?_
        refine lv_imul X.1 X.2.1 dX11_takesHeight_59 ?_
        refine lv_iadd X.1 X.2.1 dX11_takesHeight_60 ?_
        obtain ⟨hi61, hf⟩ := k_ckE hf
        refine k_ildw (j0 := (a1 + (2 * a4)).toNatClampNeg) X hU sh_5_2 (k_vin (n := 268) hi61 (by decide)) rfl dX11_takesHeight_61 ?_
        refine lv_aload_n X.1 X.2.1 dX11_takesHeight_62 rfl (lv_at hl 0 rfl) ?_
        refine k_getw (v := .int (w 0 17)) X hU sh_5_0 fl_X11_288 rfl dX11_takesHeight_63 ?_
        refine lv_icmp_ne (tgt := 75) X.1 X.2.1 dX11_takesHeight_66 (by decide) (fun c66 => ?_) (fun c66 => ?_)
        · replace hf := k_ifN hf c66
          obtain ⟨x75, e75, hf⟩ := k_ltE hf
          refine lv_iinc (v := x75) (lv' := [(4, .int x75), (0, .ref (ad 5 0)), (1, .int a1), (2, .int a2)]) X.1 X.2.1 dX11_takesHeight_75 hl (k := 3) rfl (by rw [e75]; rfl) (by decide) rfl (fun ls hl => ?_)
          refine lv_goto (tgt := 40) X.1 X.2.1 dX11_takesHeight_78 (by decide) ?_
          exact ih40 _ _ _ w a1 a2 x75 hU hS (lv_sub hl [1, 2, 3, 0] rfl) hf
        · replace hf := k_ifP hf c66
          refine lv_aload_n X.1 X.2.1 dX11_takesHeight_69 rfl (lv_at hl 0 rfl) ?_
          refine lv_iconst (v := 3) X.1 X.2.1 dX11_takesHeight_70 (by decide) ?_
          obtain ⟨r71, hr71, hf⟩ := k_bdE hf
          refine k_backi X hS (k_runV (As := [.int 3]) (rest := []) X hS hU sh_5_0 (by decide) rfl vl_X11_282 (c_X11_fails X.2.2.2.2.2.2.1 (k_uc_s _ _ _) hr71) rfl rfl rfl hl.1 ⟨Nat.le_of_ble_eq_true rfl, Nat.le_of_ble_eq_true rfl⟩ (Nat.le_of_ble_eq_true rfl) dX11_takesHeight_71 ⟨Nat.zero_le _, Nat.zero_le _⟩) (fun H locs hU hS => ?_)
          rw [k_uc_uc] at hU
          obtain ⟨hi74, hf⟩ := k_ckE hf
          have hz := Option.some.inj hf
          subst hz
          exact k_iret (v := r71.2) X hU hS hr hlk (k_nb hi74) rfl dX11_takesHeight_74
  have J18 : ∀ (H : Heap) (locs : List Loc) (ls : Array Slot) (w : k_M) (a1 : Int32) (a2 : Int32) (a3 : Int32) (as0 : Int32) (as1 : Int32), k_Uv D G ad (k_uc u 5 w) H → va_S (k_A ad sz) s.heap H locs → lv_has ls 5 [(0, .ref (ad 5 0)), (1, .int a1), (2, .int a2), (3, .int a3)] → f_X11_takesHeight_18 w a1 a2 a3 as0 as1 = some r → W p l e rm_X11_takesHeight s m args below meth c H locs 0 0 (MQ below (k_Qi D G ad (k_uc u 5 r.1) r.2 sz) args s 0 0 (k_A ad sz)) (F0 m 18 ls [.int as0, .int as1, .ref (ad 5 0)]) := by
    intro H locs ls w a1 a2 a3 as0 as1 hU hS hl hf
    unfold f_X11_takesHeight_18 at hf
    obtain ⟨r18, hr18, hf⟩ := k_bdE hf
    refine k_backi X hS (k_runV (As := [.int as1, .int as0]) (rest := []) X hS hU sh_5_0 (by decide) rfl vl_X11_294 (c_X11_goesOn X.2.2.2.2.2.2.1 (k_uc_s _ _ _) hr18) rfl rfl rfl hl.1 ⟨Nat.le_of_ble_eq_true rfl, Nat.le_of_ble_eq_true rfl⟩ (Nat.le_of_ble_eq_true rfl) dX11_takesHeight_18 ⟨Nat.zero_le _, Nat.zero_le _⟩) (fun H locs hU hS => ?_)
    rw [k_uc_uc] at hU
    refine lv_if_eq (tgt := 35) X.1 X.2.1 dX11_takesHeight_21 (by decide) (fun c21 => ?_) (fun c21 => ?_)
    · replace hf := k_ifP hf c21
      refine lv_iconst (v := 0) X.1 X.2.1 dX11_takesHeight_35 (by decide) ?_
      have hz := Option.some.inj hf
      subst hz
      exact k_iret (v := 0) X hU hS hr hlk rfl rfl dX11_takesHeight_36
    · replace hf := k_ifN hf c21
      refine lv_aload_n X.1 X.2.1 dX11_takesHeight_24 rfl (lv_at hl 0 rfl) ?_
      refine lv_iload_n X.1 X.2.1 dX11_takesHeight_25 rfl (lv_at hl 3 rfl) ?_
      refine lv_sipush (v := 30000) X.1 X.2.1 dX11_takesHeight_26 (by decide) ?_
      obtain ⟨r29, hr29, hf⟩ := k_bdE hf
      refine k_backi X hS (k_runV (As := [.int a3, .int 30000]) (rest := []) X hS hU sh_5_0 (by decide) rfl vl_X11_291 (c_X11_stands X.2.2.2.2.2.2.1 (k_uc_s _ _ _) hr29) rfl rfl rfl hl.1 ⟨Nat.le_of_ble_eq_true rfl, Nat.le_of_ble_eq_true rfl⟩ (Nat.le_of_ble_eq_true rfl) dX11_takesHeight_29 ⟨Nat.zero_le _, Nat.zero_le _⟩) (fun H locs hU hS => ?_)
      rw [k_uc_uc] at hU
      refine lv_if_ne (tgt := 37) X.1 X.2.1 dX11_takesHeight_32 (by decide) (fun c32 => ?_) (fun c32 => ?_)
      · replace hf := k_ifN hf c32
        refine lv_iconst (v := 0) X.1 X.2.1 dX11_takesHeight_37 (by decide) ?_
        refine lv_istore (lv' := [(4, .int 0), (0, .ref (ad 5 0)), (1, .int a1), (2, .int a2), (3, .int a3)]) X.1 X.2.1 dX11_takesHeight_38 hl (by decide) rfl (fun ls hl => ?_)
        exact L40 k_N _ _ _ r29.1 a1 a2 0 hU hS (lv_sub hl [1, 2, 3, 0] rfl) hf
      · replace hf := k_ifP hf c32
        refine lv_iconst (v := 0) X.1 X.2.1 dX11_takesHeight_35 (by decide) ?_
        have hz := Option.some.inj hf
        subst hz
        exact k_iret (v := 0) X hU hS hr hlk rfl rfl dX11_takesHeight_36
  unfold f_X11_takesHeight at hf
  refine lv_aload_n X.1 X.2.1 dX11_takesHeight_0 rfl (lv_at hl 0 rfl) ?_
  refine lv_iconst (v := 4) X.1 X.2.1 dX11_takesHeight_1 (by decide) ?_
  refine lv_aload_n X.1 X.2.1 dX11_takesHeight_2 rfl (lv_at hl 0 rfl) ?_
  refine k_getw (v := .ref (ad 5 2)) X hU sh_5_0 fl_X11_13 rfl dX11_takesHeight_3 ?_
  refine lv_iload_n X.1 X.2.1 dX11_takesHeight_6 rfl (lv_at hl 2 rfl) ?_
  obtain ⟨hi7, hf⟩ := k_ckE hf
  refine k_ildw (j0 := a2.toNatClampNeg) X hU sh_5_2 (k_vin (n := 268) hi7 (by decide)) rfl dX11_takesHeight_7 ?_
  refine lv_bipush (v := 8) X.1 X.2.1 dX11_takesHeight_8 (by decide) ?_
  refine lv_icmp_ge (tgt := 17) X.1 X.2.1 dX11_takesHeight_10 (by decide) (fun c10 => ?_) (fun c10 => ?_)
  · replace hf := k_ifP hf c10
    refine lv_iconst (v := 0) X.1 X.2.1 dX11_takesHeight_17 (by decide) ?_
    exact J18 _ _ _ w a1 a2 a3 0 4 hU hS (lv_sub hl [0, 1, 2, 3] rfl) hf
  · replace hf := k_ifN hf c10
    refine lv_iconst (v := 1) X.1 X.2.1 dX11_takesHeight_13 (by decide) ?_
    refine lv_goto (tgt := 18) X.1 X.2.1 dX11_takesHeight_14 (by decide) ?_
    exact J18 _ _ _ w a1 a2 a3 1 4 hU hS (lv_sub hl [0, 1, 2, 3] rfl) hf
def rm_X11_readTarget : Room := { frames := 6, cells := 0, slots := 0, locals := 130 }
set_option maxRecDepth 100000 in
set_option maxHeartbeats 4000000 in
theorem c_X11_readTarget {l : Launch} {D : va_G} {G : Nat → ClassId} {ad : Nat → Nat → Nat} {u : k_U} (hI : k_ok ad) {w : k_M} (hw : u 5 = w) {sz : Nat} {r : (k_M × Int32)} (hf : f_X11_readTarget w = some r) : Met l yX11_readTarget (.code yX11_readTarget cX11_readTarget 1 (some .boolean) :: lw_g) rm_X11_readTarget (k_Pre D G ad u sz [.ref (ad 5 0)]) (k_Qi D G ad (k_uc u 5 r.1) r.2 sz) 0 0 (k_A ad sz) := by
  refine k_ofW (by decide +kernel) hI (Nat.le_of_ble_eq_true rfl) ?_
  intro p e s m args below meth c X hr hlk hU hS ls hl
  have hl : lv_has ls 1 [(0, .ref (ad 5 0))] := hl
  have hU : k_Uv D G ad (k_uc u 5 w) s.heap := by rw [← hw, k_uc_id]; exact hU
  unfold f_X11_readTarget at hf
  refine lv_aload_n X.1 X.2.1 dX11_readTarget_0 rfl (lv_at hl 0 rfl) ?_
  refine lv_bipush (v := 92) X.1 X.2.1 dX11_readTarget_1 (by decide) ?_
  refine lv_bipush (v := 10) X.1 X.2.1 dX11_readTarget_3 (by decide) ?_
  refine lv_iconst (v := 1) X.1 X.2.1 dX11_readTarget_5 (by decide) ?_
  obtain ⟨r6, hr6, hf⟩ := k_bdE hf
  refine k_backi X hS (k_runV (As := [.int 92, .int 10, .int 1]) (rest := []) X hS hU sh_5_0 (by decide) rfl vl_X11_325 (c_X11_takesHeight X.2.2.2.2.2.2.1 (k_uc_s _ _ _) hr6) rfl rfl rfl hl.1 ⟨Nat.le_of_ble_eq_true rfl, Nat.le_of_ble_eq_true rfl⟩ (Nat.le_of_ble_eq_true rfl) dX11_readTarget_6 ⟨Nat.zero_le _, Nat.zero_le _⟩) (fun H locs hU hS => ?_)
  rw [k_uc_uc] at hU
  refine lv_if_eq (tgt := 37) X.1 X.2.1 dX11_readTarget_9 (by decide) (fun c9 => ?_) (fun c9 => ?_)
  · replace hf := k_ifP hf c9
    refine lv_iconst (v := 0) X.1 X.2.1 dX11_readTarget_37 (by decide) ?_
    have hz := Option.some.inj hf
    subst hz
    exact k_iret (v := 0) X hU hS hr hlk rfl rfl dX11_readTarget_38
  · replace hf := k_ifN hf c9
    refine lv_aload_n X.1 X.2.1 dX11_readTarget_12 rfl (lv_at hl 0 rfl) ?_
    refine lv_bipush (v := 92) X.1 X.2.1 dX11_readTarget_13 (by decide) ?_
    refine lv_iconst (v := 2) X.1 X.2.1 dX11_readTarget_15 (by decide) ?_
    refine lv_aload_n X.1 X.2.1 dX11_readTarget_16 rfl (lv_at hl 0 rfl) ?_
    refine k_getw (v := .ref (ad 5 2)) X hU sh_5_0 fl_X11_13 rfl dX11_readTarget_17 ?_
    refine lv_bipush (v := 10) X.1 X.2.1 dX11_readTarget_20 (by decide) ?_
    refine k_ildw (j0 := 10) X hU sh_5_2 (k_vin (N := 268) (by decide) (by decide)) (by decide) dX11_readTarget_22 ?_
    refine lv_imul X.1 X.2.1 dX11_readTarget_23 ?_
    refine lv_iadd X.1 X.2.1 dX11_readTarget_24 ?_
    refine lv_iconst (v := 1) X.1 X.2.1 dX11_readTarget_25 (by decide) ?_
    refine lv_iadd X.1 X.2.1 dX11_readTarget_26 ?_
    refine lv_iconst (v := 1) X.1 X.2.1 dX11_readTarget_27 (by decide) ?_
    refine lv_sipush (v := 400) X.1 X.2.1 dX11_readTarget_28 (by decide) ?_
    obtain ⟨r31, hr31, hf⟩ := k_bdE hf
    refine k_backi X hS (k_runV (As := [.int ((92 + (2 * (r6.1 2 10))) + 1), .int 1, .int 400]) (rest := []) X hS hU sh_5_0 (by decide) rfl vl_X11_308 (c_X11_takesInto X.2.2.2.2.2.2.1 (k_uc_s _ _ _) hr31) rfl rfl rfl hl.1 ⟨Nat.le_of_ble_eq_true rfl, Nat.le_of_ble_eq_true rfl⟩ (Nat.le_of_ble_eq_true rfl) dX11_readTarget_31 ⟨Nat.zero_le _, Nat.zero_le _⟩) (fun H locs hU hS => ?_)
    rw [k_uc_uc] at hU
    refine lv_if_ne (tgt := 39) X.1 X.2.1 dX11_readTarget_34 (by decide) (fun c34 => ?_) (fun c34 => ?_)
    · replace hf := k_ifN hf c34
      refine lv_aload_n X.1 X.2.1 dX11_readTarget_39 rfl (lv_at hl 0 rfl) ?_
      refine k_getw (v := .ref (ad 5 2)) X hU sh_5_0 fl_X11_13 rfl dX11_readTarget_40 ?_
      refine lv_bipush (v := 10) X.1 X.2.1 dX11_readTarget_43 (by decide) ?_
      refine lv_dup2_11 X.1 X.2.1 dX11_readTarget_45 rfl rfl ?_
      refine k_ildw (j0 := 10) X hU sh_5_2 (k_vin (N := 268) (by decide) (by decide)) (by decide) dX11_readTarget_46 ?_
      refine lv_iconst (v := 1) X.1 X.2.1 dX11_readTarget_47 (by decide) ?_
      refine lv_iadd X.1 X.2.1 dX11_readTarget_48 ?_
      obtain ⟨w49, e49, hf⟩ := k_ltE hf
      refine k_istw X hU hS sh_5_2 e49 (k_vin (N := 268) (by decide) (by decide)) (by decide) dX11_readTarget_49 (fun H locs hU hS => ?_)
      refine lv_iconst (v := 1) X.1 X.2.1 dX11_readTarget_50 (by decide) ?_
      have hz := Option.some.inj hf
      subst hz
      exact k_iret (v := 1) X hU hS hr hlk rfl rfl dX11_readTarget_51
    · replace hf := k_ifP hf c34
      refine lv_iconst (v := 0) X.1 X.2.1 dX11_readTarget_37 (by decide) ?_
      have hz := Option.some.inj hf
      subst hz
      exact k_iret (v := 0) X hU hS hr hlk rfl rfl dX11_readTarget_38
def rm_X11_readWind : Room := { frames := 5, cells := 0, slots := 0, locals := 109 }
set_option maxRecDepth 100000 in
set_option maxHeartbeats 4000000 in
theorem c_X11_readWind {l : Launch} {D : va_G} {G : Nat → ClassId} {ad : Nat → Nat → Nat} {u : k_U} (hI : k_ok ad) {w : k_M} (hw : u 5 = w) {sz : Nat} {r : (k_M × Int32)} (hf : f_X11_readWind w = some r) : Met l yX11_readWind (.code yX11_readWind cX11_readWind 1 (some .boolean) :: lw_g) rm_X11_readWind (k_Pre D G ad u sz [.ref (ad 5 0)]) (k_Qi D G ad (k_uc u 5 r.1) r.2 sz) 0 0 (k_A ad sz) := by
  refine k_ofW (by decide +kernel) hI (Nat.le_of_ble_eq_true rfl) ?_
  intro p e s m args below meth c X hr hlk hU hS ls hl
  have hl : lv_has ls 1 [(0, .ref (ad 5 0))] := hl
  have hU : k_Uv D G ad (k_uc u 5 w) s.heap := by rw [← hw, k_uc_id]; exact hU
  unfold f_X11_readWind at hf
  refine lv_aload_n X.1 X.2.1 dX11_readWind_0 rfl (lv_at hl 0 rfl) ?_
  refine lv_bipush (v := 108) X.1 X.2.1 dX11_readWind_1 (by decide) ?_
  refine lv_bipush (v := 11) X.1 X.2.1 dX11_readWind_3 (by decide) ?_
  refine lv_iconst (v := 0) X.1 X.2.1 dX11_readWind_5 (by decide) ?_
  obtain ⟨r6, hr6, hf⟩ := k_bdE hf
  refine k_backi X hS (k_runV (As := [.int 108, .int 11, .int 0]) (rest := []) X hS hU sh_5_0 (by decide) rfl vl_X11_325 (c_X11_takesHeight X.2.2.2.2.2.2.1 (k_uc_s _ _ _) hr6) rfl rfl rfl hl.1 ⟨Nat.le_of_ble_eq_true rfl, Nat.le_of_ble_eq_true rfl⟩ (Nat.le_of_ble_eq_true rfl) dX11_readWind_6 ⟨Nat.zero_le _, Nat.zero_le _⟩) (fun H locs hU hS => ?_)
  rw [k_uc_uc] at hU
  refine lv_if_eq (tgt := 21) X.1 X.2.1 dX11_readWind_9 (by decide) (fun c9 => ?_) (fun c9 => ?_)
  · replace hf := k_ifP hf c9
    refine lv_iconst (v := 0) X.1 X.2.1 dX11_readWind_21 (by decide) ?_
    have hz := Option.some.inj hf
    subst hz
    exact k_iret (v := 0) X hU hS hr hlk rfl rfl dX11_readWind_22
  · replace hf := k_ifN hf c9
    refine lv_aload_n X.1 X.2.1 dX11_readWind_12 rfl (lv_at hl 0 rfl) ?_
    refine lv_bipush (v := 40) X.1 X.2.1 dX11_readWind_13 (by decide) ?_
    obtain ⟨r15, hr15, hf⟩ := k_bdE hf
    refine k_backi X hS (k_runV (As := [.int 40]) (rest := []) X hS hU sh_5_0 (by decide) rfl vl_X11_328 (c_X11_takesSigned X.2.2.2.2.2.2.1 (k_uc_s _ _ _) hr15) rfl rfl rfl hl.1 ⟨Nat.le_of_ble_eq_true rfl, Nat.le_of_ble_eq_true rfl⟩ (Nat.le_of_ble_eq_true rfl) dX11_readWind_15 ⟨Nat.zero_le _, Nat.zero_le _⟩) (fun H locs hU hS => ?_)
    rw [k_uc_uc] at hU
    refine lv_if_ne (tgt := 23) X.1 X.2.1 dX11_readWind_18 (by decide) (fun c18 => ?_) (fun c18 => ?_)
    · replace hf := k_ifN hf c18
      refine lv_aload_n X.1 X.2.1 dX11_readWind_23 rfl (lv_at hl 0 rfl) ?_
      refine k_getw (v := .ref (ad 5 2)) X hU sh_5_0 fl_X11_13 rfl dX11_readWind_24 ?_
      refine lv_bipush (v := 108) X.1 X.2.1 dX11_readWind_27 (by decide) ?_
      refine lv_iconst (v := 2) X.1 X.2.1 dX11_readWind_29 (by decide) ?_
      refine lv_aload_n X.1 X.2.1 dX11_readWind_30 rfl (lv_at hl 0 rfl) ?_
      refine k_getw (v := .ref (ad 5 2)) X hU sh_5_0 fl_X11_13 rfl dX11_readWind_31 ?_
      refine lv_bipush (v := 11) X.1 X.2.1 dX11_readWind_34 (by decide) ?_
      refine k_ildw (j0 := 11) X hU sh_5_2 (k_vin (N := 268) (by decide) (by decide)) (by decide) dX11_readWind_36 ?_
      refine lv_imul X.1 X.2.1 dX11_readWind_37 ?_
      refine lv_iadd X.1 X.2.1 dX11_readWind_38 ?_
      refine lv_iconst (v := 1) X.1 X.2.1 dX11_readWind_39 (by decide) ?_
      refine lv_iadd X.1 X.2.1 dX11_readWind_40 ?_
      refine lv_aload_n X.1 X.2.1 dX11_readWind_41 rfl (lv_at hl 0 rfl) ?_
      refine k_getw (v := .int (r15.1 0 17)) X hU sh_5_0 fl_X11_288 rfl dX11_readWind_42 ?_
      obtain ⟨hi45, hf⟩ := k_ckE hf
      obtain ⟨w45, e45, hf⟩ := k_ltE hf
      refine k_istw X hU hS sh_5_2 e45 (k_vin (n := 268) hi45 (by decide)) rfl dX11_readWind_45 (fun H locs hU hS => ?_)
      refine lv_aload_n X.1 X.2.1 dX11_readWind_46 rfl (lv_at hl 0 rfl) ?_
      refine k_getw (v := .ref (ad 5 2)) X hU sh_5_0 fl_X11_13 rfl dX11_readWind_47 ?_
      refine lv_bipush (v := 11) X.1 X.2.1 dX11_readWind_50 (by decide) ?_
      refine lv_dup2_11 X.1 X.2.1 dX11_readWind_52 rfl rfl ?_
      refine k_ildw (j0 := 11) X hU sh_5_2 (k_vin (N := 268) (by decide) (by decide)) (by decide) dX11_readWind_53 ?_
      refine lv_iconst (v := 1) X.1 X.2.1 dX11_readWind_54 (by decide) ?_
      refine lv_iadd X.1 X.2.1 dX11_readWind_55 ?_
      obtain ⟨w56, e56, hf⟩ := k_ltE hf
      refine k_istw X hU hS sh_5_2 e56 (k_vin (N := 268) (by decide) (by decide)) (by decide) dX11_readWind_56 (fun H locs hU hS => ?_)
      refine lv_iconst (v := 1) X.1 X.2.1 dX11_readWind_57 (by decide) ?_
      have hz := Option.some.inj hf
      subst hz
      exact k_iret (v := 1) X hU hS hr hlk rfl rfl dX11_readWind_58
    · replace hf := k_ifP hf c18
      refine lv_iconst (v := 0) X.1 X.2.1 dX11_readWind_21 (by decide) ?_
      have hz := Option.some.inj hf
      subst hz
      exact k_iret (v := 0) X hU hS hr hlk rfl rfl dX11_readWind_22
def rm_X11_readSpot : Room := { frames := 6, cells := 0, slots := 0, locals := 130 }
set_option maxRecDepth 100000 in
set_option maxHeartbeats 4000000 in
theorem c_X11_readSpot {l : Launch} {D : va_G} {G : Nat → ClassId} {ad : Nat → Nat → Nat} {u : k_U} (hI : k_ok ad) {w : k_M} (hw : u 5 = w) {sz : Nat} {r : (k_M × Int32)} (hf : f_X11_readSpot w = some r) : Met l yX11_readSpot (.code yX11_readSpot cX11_readSpot 2 (some .boolean) :: lw_g) rm_X11_readSpot (k_Pre D G ad u sz [.ref (ad 5 0)]) (k_Qi D G ad (k_uc u 5 r.1) r.2 sz) 0 0 (k_A ad sz) := by
  refine k_ofW (by decide +kernel) hI (Nat.le_of_ble_eq_true rfl) ?_
  intro p e s m args below meth c X hr hlk hU hS ls hl
  have hl : lv_has ls 2 [(0, .ref (ad 5 0))] := hl
  have hU : k_Uv D G ad (k_uc u 5 w) s.heap := by rw [← hw, k_uc_id]; exact hU
  have J32 : ∀ (H : Heap) (locs : List Loc) (ls : Array Slot) (w : k_M) (a1 : Int32) (as0 : Int32) (as1 : Int32), k_Uv D G ad (k_uc u 5 w) H → va_S (k_A ad sz) s.heap H locs → lv_has ls 2 [(0, .ref (ad 5 0)), (1, .int a1)] → f_X11_readSpot_32 w a1 as0 as1 = some r → W p l e rm_X11_readSpot s m args below meth c H locs 0 0 (MQ below (k_Qi D G ad (k_uc u 5 r.1) r.2 sz) args s 0 0 (k_A ad sz)) (F0 m 32 ls [.int as0, .int as1, .ref (ad 5 0)]) := by
    intro H locs ls w a1 as0 as1 hU hS hl hf
    unfold f_X11_readSpot_32 at hf
    obtain ⟨r32, hr32, hf⟩ := k_bdE hf
    refine k_backi X hS (k_runV (As := [.int as1, .int as0]) (rest := []) X hS hU sh_5_0 (by decide) rfl vl_X11_294 (c_X11_goesOn X.2.2.2.2.2.2.1 (k_uc_s _ _ _) hr32) rfl rfl rfl hl.1 ⟨Nat.le_of_ble_eq_true rfl, Nat.le_of_ble_eq_true rfl⟩ (Nat.le_of_ble_eq_true rfl) dX11_readSpot_32 ⟨Nat.zero_le _, Nat.zero_le _⟩) (fun H locs hU hS => ?_)
    rw [k_uc_uc] at hU
    refine lv_if_eq (tgt := 48) X.1 X.2.1 dX11_readSpot_35 (by decide) (fun c35 => ?_) (fun c35 => ?_)
    · replace hf := k_ifP hf c35
      refine lv_iconst (v := 0) X.1 X.2.1 dX11_readSpot_48 (by decide) ?_
      have hz := Option.some.inj hf
      subst hz
      exact k_iret (v := 0) X hU hS hr hlk rfl rfl dX11_readSpot_49
    · replace hf := k_ifN hf c35
      refine lv_aload_n X.1 X.2.1 dX11_readSpot_38 rfl (lv_at hl 0 rfl) ?_
      refine lv_sipush (v := 9999) X.1 X.2.1 dX11_readSpot_39 (by decide) ?_
      obtain ⟨r42, hr42, hf⟩ := k_bdE hf
      refine k_backi X hS (k_runV (As := [.int 9999]) (rest := []) X hS hU sh_5_0 (by decide) rfl vl_X11_328 (c_X11_takesSigned X.2.2.2.2.2.2.1 (k_uc_s _ _ _) hr42) rfl rfl rfl hl.1 ⟨Nat.le_of_ble_eq_true rfl, Nat.le_of_ble_eq_true rfl⟩ (Nat.le_of_ble_eq_true rfl) dX11_readSpot_42 ⟨Nat.zero_le _, Nat.zero_le _⟩) (fun H locs hU hS => ?_)
      rw [k_uc_uc] at hU
      refine lv_if_ne (tgt := 50) X.1 X.2.1 dX11_readSpot_45 (by decide) (fun c45 => ?_) (fun c45 => ?_)
      · replace hf := k_ifN hf c45
        refine lv_aload_n X.1 X.2.1 dX11_readSpot_50 rfl (lv_at hl 0 rfl) ?_
        refine k_getw (v := .ref (ad 5 2)) X hU sh_5_0 fl_X11_13 rfl dX11_readSpot_51 ?_
        refine lv_iload_n X.1 X.2.1 dX11_readSpot_54 rfl (lv_at hl 1 rfl) ?_
        refine lv_aload_n X.1 X.2.1 dX11_readSpot_55 rfl (lv_at hl 0 rfl) ?_
        refine k_getw (v := .int (r42.1 0 17)) X hU sh_5_0 fl_X11_288 rfl dX11_readSpot_56 ?_
        obtain ⟨hi59, hf⟩ := k_ckE hf
        obtain ⟨w59, e59, hf⟩ := k_ltE hf
        refine k_istw X hU hS sh_5_2 e59 (k_vin (n := 268) hi59 (by decide)) rfl dX11_readSpot_59 (fun H locs hU hS => ?_)
        refine lv_aload_n X.1 X.2.1 dX11_readSpot_60 rfl (lv_at hl 0 rfl) ?_
        refine lv_sipush (v := 9999) X.1 X.2.1 dX11_readSpot_61 (by decide) ?_
        obtain ⟨r64, hr64, hf⟩ := k_bdE hf
        refine k_backi X hS (k_runV (As := [.int 9999]) (rest := []) X hS hU sh_5_0 (by decide) rfl vl_X11_298 (c_X11_standsSigned X.2.2.2.2.2.2.1 (k_uc_s _ _ _) hr64) rfl rfl rfl hl.1 ⟨Nat.le_of_ble_eq_true rfl, Nat.le_of_ble_eq_true rfl⟩ (Nat.le_of_ble_eq_true rfl) dX11_readSpot_64 ⟨Nat.zero_le _, Nat.zero_le _⟩) (fun H locs hU hS => ?_)
        rw [k_uc_uc] at hU
        refine lv_if_ne (tgt := 72) X.1 X.2.1 dX11_readSpot_67 (by decide) (fun c67 => ?_) (fun c67 => ?_)
        · replace hf := k_ifN hf c67
          refine lv_aload_n X.1 X.2.1 dX11_readSpot_72 rfl (lv_at hl 0 rfl) ?_
          refine k_getw (v := .int (r64.1 0 17)) X hU sh_5_0 fl_X11_288 rfl dX11_readSpot_73 ?_
          refine lv_aload_n X.1 X.2.1 dX11_readSpot_76 rfl (lv_at hl 0 rfl) ?_
          refine k_getw (v := .ref (ad 5 2)) X hU sh_5_0 fl_X11_13 rfl dX11_readSpot_77 ?_
          refine lv_iload_n X.1 X.2.1 dX11_readSpot_80 rfl (lv_at hl 1 rfl) ?_
          obtain ⟨hi81, hf⟩ := k_ckE hf
          refine k_ildw (j0 := a1.toNatClampNeg) X hU sh_5_2 (k_vin (n := 268) hi81 (by decide)) rfl dX11_readSpot_81 ?_
          refine lv_icmp_ge (tgt := 91) X.1 X.2.1 dX11_readSpot_82 (by decide) (fun c82 => ?_) (fun c82 => ?_)
          · replace hf := k_ifP hf c82
            refine lv_aload_n X.1 X.2.1 dX11_readSpot_91 rfl (lv_at hl 0 rfl) ?_
            refine k_getw (v := .ref (ad 5 2)) X hU sh_5_0 fl_X11_13 rfl dX11_readSpot_92 ?_
            refine lv_iload_n X.1 X.2.1 dX11_readSpot_95 rfl (lv_at hl 1 rfl) ?_
            refine lv_iconst (v := 1) X.1 X.2.1 dX11_readSpot_96 (by decide) ?_
            refine lv_iadd X.1 X.2.1 dX11_readSpot_97 ?_
            refine lv_aload_n X.1 X.2.1 dX11_readSpot_98 rfl (lv_at hl 0 rfl) ?_
            refine k_getw (v := .int (r64.1 0 17)) X hU sh_5_0 fl_X11_288 rfl dX11_readSpot_99 ?_
            obtain ⟨hi102, hf⟩ := k_ckE hf
            obtain ⟨w102, e102, hf⟩ := k_ltE hf
            refine k_istw X hU hS sh_5_2 e102 (k_vin (n := 268) hi102 (by decide)) rfl dX11_readSpot_102 (fun H locs hU hS => ?_)
            refine lv_aload_n X.1 X.2.1 dX11_readSpot_103 rfl (lv_at hl 0 rfl) ?_
            obtain ⟨r104, hr104, hf⟩ := k_bdE hf
            refine k_backv X hS (k_runV (As := []) (rest := []) X hS hU sh_5_0 (by decide) rfl vl_X11_285 (c_X11_advance X.2.2.2.2.2.2.1 (k_uc_s _ _ _) hr104) rfl rfl rfl hl.1 ⟨Nat.le_of_ble_eq_true rfl, Nat.le_of_ble_eq_true rfl⟩ (Nat.le_of_ble_eq_true rfl) dX11_readSpot_104 ⟨Nat.zero_le _, Nat.zero_le _⟩) (fun H locs hU hS => ?_)
            rw [k_uc_uc] at hU
            refine lv_aload_n X.1 X.2.1 dX11_readSpot_107 rfl (lv_at hl 0 rfl) ?_
            refine lv_iload_n X.1 X.2.1 dX11_readSpot_108 rfl (lv_at hl 1 rfl) ?_
            refine lv_iconst (v := 2) X.1 X.2.1 dX11_readSpot_109 (by decide) ?_
            refine lv_iadd X.1 X.2.1 dX11_readSpot_110 ?_
            refine lv_iconst (v := 1) X.1 X.2.1 dX11_readSpot_111 (by decide) ?_
            refine lv_bipush (v := 99) X.1 X.2.1 dX11_readSpot_112 (by decide) ?_
            obtain ⟨r114, hr114, hf⟩ := k_bdE hf
            refine k_backi X hS (k_runV (As := [.int (a1 + 2), .int 1, .int 99]) (rest := []) X hS hU sh_5_0 (by decide) rfl vl_X11_308 (c_X11_takesInto X.2.2.2.2.2.2.1 (k_uc_s _ _ _) hr114) rfl rfl rfl hl.1 ⟨Nat.le_of_ble_eq_true rfl, Nat.le_of_ble_eq_true rfl⟩ (Nat.le_of_ble_eq_true rfl) dX11_readSpot_114 ⟨Nat.zero_le _, Nat.zero_le _⟩) (fun H locs hU hS => ?_)
            rw [k_uc_uc] at hU
            refine lv_if_ne (tgt := 122) X.1 X.2.1 dX11_readSpot_117 (by decide) (fun c117 => ?_) (fun c117 => ?_)
            · replace hf := k_ifN hf c117
              refine lv_aload_n X.1 X.2.1 dX11_readSpot_122 rfl (lv_at hl 0 rfl) ?_
              refine k_getw (v := .ref (ad 5 2)) X hU sh_5_0 fl_X11_13 rfl dX11_readSpot_123 ?_
              refine lv_bipush (v := 12) X.1 X.2.1 dX11_readSpot_126 (by decide) ?_
              refine lv_dup2_11 X.1 X.2.1 dX11_readSpot_128 rfl rfl ?_
              refine k_ildw (j0 := 12) X hU sh_5_2 (k_vin (N := 268) (by decide) (by decide)) (by decide) dX11_readSpot_129 ?_
              refine lv_iconst (v := 1) X.1 X.2.1 dX11_readSpot_130 (by decide) ?_
              refine lv_iadd X.1 X.2.1 dX11_readSpot_131 ?_
              obtain ⟨w132, e132, hf⟩ := k_ltE hf
              refine k_istw X hU hS sh_5_2 e132 (k_vin (N := 268) (by decide) (by decide)) (by decide) dX11_readSpot_132 (fun H locs hU hS => ?_)
              refine lv_iconst (v := 1) X.1 X.2.1 dX11_readSpot_133 (by decide) ?_
              have hz := Option.some.inj hf
              subst hz
              exact k_iret (v := 1) X hU hS hr hlk rfl rfl dX11_readSpot_134
            · replace hf := k_ifP hf c117
              refine lv_iconst (v := 0) X.1 X.2.1 dX11_readSpot_120 (by decide) ?_
              have hz := Option.some.inj hf
              subst hz
              exact k_iret (v := 0) X hU hS hr hlk rfl rfl dX11_readSpot_121
          · replace hf := k_ifN hf c82
            refine lv_aload_n X.1 X.2.1 dX11_readSpot_85 rfl (lv_at hl 0 rfl) ?_
            refine lv_iconst (v := 3) X.1 X.2.1 dX11_readSpot_86 (by decide) ?_
            obtain ⟨r87, hr87, hf⟩ := k_bdE hf
            refine k_backi X hS (k_runV (As := [.int 3]) (rest := []) X hS hU sh_5_0 (by decide) rfl vl_X11_282 (c_X11_fails X.2.2.2.2.2.2.1 (k_uc_s _ _ _) hr87) rfl rfl rfl hl.1 ⟨Nat.le_of_ble_eq_true rfl, Nat.le_of_ble_eq_true rfl⟩ (Nat.le_of_ble_eq_true rfl) dX11_readSpot_87 ⟨Nat.zero_le _, Nat.zero_le _⟩) (fun H locs hU hS => ?_)
            rw [k_uc_uc] at hU
            obtain ⟨hi90, hf⟩ := k_ckE hf
            have hz := Option.some.inj hf
            subst hz
            exact k_iret (v := r87.2) X hU hS hr hlk (k_nb hi90) rfl dX11_readSpot_90
        · replace hf := k_ifP hf c67
          refine lv_iconst (v := 0) X.1 X.2.1 dX11_readSpot_70 (by decide) ?_
          have hz := Option.some.inj hf
          subst hz
          exact k_iret (v := 0) X hU hS hr hlk rfl rfl dX11_readSpot_71
      · replace hf := k_ifP hf c45
        refine lv_iconst (v := 0) X.1 X.2.1 dX11_readSpot_48 (by decide) ?_
        have hz := Option.some.inj hf
        subst hz
        exact k_iret (v := 0) X hU hS hr hlk rfl rfl dX11_readSpot_49
  unfold f_X11_readSpot at hf
  refine lv_bipush (v := 124) X.1 X.2.1 dX11_readSpot_0 (by decide) ?_
  refine lv_iconst (v := 3) X.1 X.2.1 dX11_readSpot_2 (by decide) ?_
  refine lv_aload_n X.1 X.2.1 dX11_readSpot_3 rfl (lv_at hl 0 rfl) ?_
  refine k_getw (v := .ref (ad 5 2)) X hU sh_5_0 fl_X11_13 rfl dX11_readSpot_4 ?_
  refine lv_bipush (v := 12) X.1 X.2.1 dX11_readSpot_7 (by decide) ?_
  refine k_ildw (j0 := 12) X hU sh_5_2 (k_vin (N := 268) (by decide) (by decide)) (by decide) dX11_readSpot_9 ?_
  refine lv_imul X.1 X.2.1 dX11_readSpot_10 ?_
  refine lv_iadd X.1 X.2.1 dX11_readSpot_11 ?_
  obtain ⟨x12, e12, hf⟩ := k_ltE hf
  refine k_nmi e12 ?_
  refine lv_istore_n (lv' := [(1, .int x12), (0, .ref (ad 5 0))]) X.1 X.2.1 dX11_readSpot_12 rfl hl (by decide) rfl (fun ls hl => ?_)
  refine lv_aload_n X.1 X.2.1 dX11_readSpot_13 rfl (lv_at hl 1 rfl) ?_
  refine lv_iconst (v := 4) X.1 X.2.1 dX11_readSpot_14 (by decide) ?_
  refine lv_aload_n X.1 X.2.1 dX11_readSpot_15 rfl (lv_at hl 1 rfl) ?_
  refine k_getw (v := .ref (ad 5 2)) X hU sh_5_0 fl_X11_13 rfl dX11_readSpot_16 ?_
  refine lv_bipush (v := 12) X.1 X.2.1 dX11_readSpot_19 (by decide) ?_
  refine k_ildw (j0 := 12) X hU sh_5_2 (k_vin (N := 268) (by decide) (by decide)) (by decide) dX11_readSpot_21 ?_
  refine lv_bipush (v := 8) X.1 X.2.1 dX11_readSpot_22 (by decide) ?_
  refine lv_icmp_ge (tgt := 31) X.1 X.2.1 dX11_readSpot_24 (by decide) (fun c24 => ?_) (fun c24 => ?_)
  · replace hf := k_ifP hf c24
    refine lv_iconst (v := 0) X.1 X.2.1 dX11_readSpot_31 (by decide) ?_
    exact J32 _ _ _ w x12 0 4 hU hS (lv_sub hl [1, 0] rfl) hf
  · replace hf := k_ifN hf c24
    refine lv_iconst (v := 1) X.1 X.2.1 dX11_readSpot_27 (by decide) ?_
    refine lv_goto (tgt := 32) X.1 X.2.1 dX11_readSpot_28 (by decide) ?_
    exact J32 _ _ _ w x12 1 4 hU hS (lv_sub hl [1, 0] rfl) hf
def rm_X11_readStatement : Room := { frames := 8, cells := 0, slots := 0, locals := 187 }
set_option maxRecDepth 100000 in
set_option maxHeartbeats 4000000 in
theorem c_X11_readStatement {l : Launch} {D : va_G} {G : Nat → ClassId} {ad : Nat → Nat → Nat} {u : k_U} (hI : k_ok ad) {w : k_M} (hw : u 5 = w) {sz : Nat} {r : (k_M × Int32)} (hf : f_X11_readStatement w = some r) : Met l yX11_readStatement (.code yX11_readStatement cX11_readStatement 1 (some .boolean) :: lw_g) rm_X11_readStatement (k_Pre D G ad u sz [.ref (ad 5 0)]) (k_Qi D G ad (k_uc u 5 r.1) r.2 sz) 0 0 (k_A ad sz) := by
  refine k_ofW (by decide +kernel) hI (Nat.le_of_ble_eq_true rfl) ?_
  intro p e s m args below meth c X hr hlk hU hS ls hl
  have hl : lv_has ls 1 [(0, .ref (ad 5 0))] := hl
  have hU : k_Uv D G ad (k_uc u 5 w) s.heap := by rw [← hw, k_uc_id]; exact hU
  unfold f_X11_readStatement at hf
  refine lv_aload_n X.1 X.2.1 dX11_readStatement_0 rfl (lv_at hl 0 rfl) ?_
  refine k_ldcSW (i := 21) (tx := "layer") X rfl dX11_readStatement_1 ?_
  obtain ⟨r4, hr4, hf⟩ := k_bdE hf
  refine k_backi X hS (k_runV (As := [.ref (ad 30 21)]) (rest := []) X hS hU sh_5_0 (by decide) rfl vl_X11_301 (c_X11_isWord X.2.2.2.2.2.2.1 (k_uc_s _ _ _) (by decide) hr4) rfl rfl rfl hl.1 ⟨Nat.le_of_ble_eq_true rfl, Nat.le_of_ble_eq_true rfl⟩ (Nat.le_of_ble_eq_true rfl) dX11_readStatement_4 ⟨Nat.zero_le _, Nat.zero_le _⟩) (fun H locs hU hS => ?_)
  refine lv_if_eq (tgt := 15) X.1 X.2.1 dX11_readStatement_7 (by decide) (fun c7 => ?_) (fun c7 => ?_)
  · replace hf := k_ifP hf c7
    refine lv_aload_n X.1 X.2.1 dX11_readStatement_15 rfl (lv_at hl 0 rfl) ?_
    refine k_ldcSW (i := 22) (tx := "reserve") X rfl dX11_readStatement_16 ?_
    obtain ⟨r19, hr19, hf⟩ := k_bdE hf
    refine k_backi X hS (k_runV (As := [.ref (ad 30 22)]) (rest := []) X hS hU sh_5_0 (by decide) rfl vl_X11_301 (c_X11_isWord X.2.2.2.2.2.2.1 (k_uc_s _ _ _) (by decide) hr19) rfl rfl rfl hl.1 ⟨Nat.le_of_ble_eq_true rfl, Nat.le_of_ble_eq_true rfl⟩ (Nat.le_of_ble_eq_true rfl) dX11_readStatement_19 ⟨Nat.zero_le _, Nat.zero_le _⟩) (fun H locs hU hS => ?_)
    refine lv_if_eq (tgt := 30) X.1 X.2.1 dX11_readStatement_22 (by decide) (fun c22 => ?_) (fun c22 => ?_)
    · replace hf := k_ifP hf c22
      refine lv_aload_n X.1 X.2.1 dX11_readStatement_30 rfl (lv_at hl 0 rfl) ?_
      refine k_ldcSW (i := 23) (tx := "target") X rfl dX11_readStatement_31 ?_
      obtain ⟨r34, hr34, hf⟩ := k_bdE hf
      refine k_backi X hS (k_runV (As := [.ref (ad 30 23)]) (rest := []) X hS hU sh_5_0 (by decide) rfl vl_X11_301 (c_X11_isWord X.2.2.2.2.2.2.1 (k_uc_s _ _ _) (by decide) hr34) rfl rfl rfl hl.1 ⟨Nat.le_of_ble_eq_true rfl, Nat.le_of_ble_eq_true rfl⟩ (Nat.le_of_ble_eq_true rfl) dX11_readStatement_34 ⟨Nat.zero_le _, Nat.zero_le _⟩) (fun H locs hU hS => ?_)
      refine lv_if_eq (tgt := 45) X.1 X.2.1 dX11_readStatement_37 (by decide) (fun c37 => ?_) (fun c37 => ?_)
      · replace hf := k_ifP hf c37
        refine lv_aload_n X.1 X.2.1 dX11_readStatement_45 rfl (lv_at hl 0 rfl) ?_
        refine k_ldcSW (i := 24) (tx := "wind") X rfl dX11_readStatement_46 ?_
        obtain ⟨r49, hr49, hf⟩ := k_bdE hf
        refine k_backi X hS (k_runV (As := [.ref (ad 30 24)]) (rest := []) X hS hU sh_5_0 (by decide) rfl vl_X11_301 (c_X11_isWord X.2.2.2.2.2.2.1 (k_uc_s _ _ _) (by decide) hr49) rfl rfl rfl hl.1 ⟨Nat.le_of_ble_eq_true rfl, Nat.le_of_ble_eq_true rfl⟩ (Nat.le_of_ble_eq_true rfl) dX11_readStatement_49 ⟨Nat.zero_le _, Nat.zero_le _⟩) (fun H locs hU hS => ?_)
        refine lv_if_eq (tgt := 60) X.1 X.2.1 dX11_readStatement_52 (by decide) (fun c52 => ?_) (fun c52 => ?_)
        · replace hf := k_ifP hf c52
          refine lv_aload_n X.1 X.2.1 dX11_readStatement_60 rfl (lv_at hl 0 rfl) ?_
          refine k_ldcSW (i := 25) (tx := "spot") X rfl dX11_readStatement_61 ?_
          obtain ⟨r64, hr64, hf⟩ := k_bdE hf
          refine k_backi X hS (k_runV (As := [.ref (ad 30 25)]) (rest := []) X hS hU sh_5_0 (by decide) rfl vl_X11_301 (c_X11_isWord X.2.2.2.2.2.2.1 (k_uc_s _ _ _) (by decide) hr64) rfl rfl rfl hl.1 ⟨Nat.le_of_ble_eq_true rfl, Nat.le_of_ble_eq_true rfl⟩ (Nat.le_of_ble_eq_true rfl) dX11_readStatement_64 ⟨Nat.zero_le _, Nat.zero_le _⟩) (fun H locs hU hS => ?_)
          refine lv_if_eq (tgt := 75) X.1 X.2.1 dX11_readStatement_67 (by decide) (fun c67 => ?_) (fun c67 => ?_)
          · replace hf := k_ifP hf c67
            refine lv_aload_n X.1 X.2.1 dX11_readStatement_75 rfl (lv_at hl 0 rfl) ?_
            refine k_ldcSW (i := 26) (tx := "cool") X rfl dX11_readStatement_76 ?_
            obtain ⟨r79, hr79, hf⟩ := k_bdE hf
            refine k_backi X hS (k_runV (As := [.ref (ad 30 26)]) (rest := []) X hS hU sh_5_0 (by decide) rfl vl_X11_313 (c_X11_takesWord X.2.2.2.2.2.2.1 (k_uc_s _ _ _) (by decide) hr79) rfl rfl rfl hl.1 ⟨Nat.le_of_ble_eq_true rfl, Nat.le_of_ble_eq_true rfl⟩ (Nat.le_of_ble_eq_true rfl) dX11_readStatement_79 ⟨Nat.zero_le _, Nat.zero_le _⟩) (fun H locs hU hS => ?_)
            rw [k_uc_uc] at hU
            refine lv_if_eq (tgt := 101) X.1 X.2.1 dX11_readStatement_82 (by decide) (fun c82 => ?_) (fun c82 => ?_)
            · replace hf := k_ifP hf c82
              refine lv_iconst (v := 0) X.1 X.2.1 dX11_readStatement_101 (by decide) ?_
              have hz := Option.some.inj hf
              subst hz
              exact k_iret (v := 0) X hU hS hr hlk rfl rfl dX11_readStatement_102
            · replace hf := k_ifN hf c82
              refine lv_aload_n X.1 X.2.1 dX11_readStatement_85 rfl (lv_at hl 0 rfl) ?_
              refine lv_bipush (v := 7) X.1 X.2.1 dX11_readStatement_86 (by decide) ?_
              refine lv_iconst (v := 0) X.1 X.2.1 dX11_readStatement_88 (by decide) ?_
              refine lv_bipush (v := 99) X.1 X.2.1 dX11_readStatement_89 (by decide) ?_
              obtain ⟨r91, hr91, hf⟩ := k_bdE hf
              refine k_backi X hS (k_runV (As := [.int 7, .int 0, .int 99]) (rest := []) X hS hU sh_5_0 (by decide) rfl vl_X11_308 (c_X11_takesInto X.2.2.2.2.2.2.1 (k_uc_s _ _ _) hr91) rfl rfl rfl hl.1 ⟨Nat.le_of_ble_eq_true rfl, Nat.le_of_ble_eq_true rfl⟩ (Nat.le_of_ble_eq_true rfl) dX11_readStatement_91 ⟨Nat.zero_le _, Nat.zero_le _⟩) (fun H locs hU hS => ?_)
              rw [k_uc_uc] at hU
              refine lv_if_eq (tgt := 101) X.1 X.2.1 dX11_readStatement_94 (by decide) (fun c94 => ?_) (fun c94 => ?_)
              · replace hf := k_ifP hf c94
                refine lv_iconst (v := 0) X.1 X.2.1 dX11_readStatement_101 (by decide) ?_
                have hz := Option.some.inj hf
                subst hz
                exact k_iret (v := 0) X hU hS hr hlk rfl rfl dX11_readStatement_102
              · replace hf := k_ifN hf c94
                refine lv_iconst (v := 1) X.1 X.2.1 dX11_readStatement_97 (by decide) ?_
                refine lv_goto (tgt := 102) X.1 X.2.1 dX11_readStatement_98 (by decide) ?_
                have hz := Option.some.inj hf
                subst hz
                exact k_iret (v := 1) X hU hS hr hlk rfl rfl dX11_readStatement_102
          · replace hf := k_ifN hf c67
            refine lv_aload_n X.1 X.2.1 dX11_readStatement_70 rfl (lv_at hl 0 rfl) ?_
            obtain ⟨r71, hr71, hf⟩ := k_bdE hf
            refine k_backi X hS (k_runV (As := []) (rest := []) X hS hU sh_5_0 (by decide) rfl vl_X11_353 (c_X11_readSpot X.2.2.2.2.2.2.1 (k_uc_s _ _ _) hr71) rfl rfl rfl hl.1 ⟨Nat.le_of_ble_eq_true rfl, Nat.le_of_ble_eq_true rfl⟩ (Nat.le_of_ble_eq_true rfl) dX11_readStatement_71 ⟨Nat.zero_le _, Nat.zero_le _⟩) (fun H locs hU hS => ?_)
            rw [k_uc_uc] at hU
            obtain ⟨hi74, hf⟩ := k_ckE hf
            have hz := Option.some.inj hf
            subst hz
            exact k_iret (v := r71.2) X hU hS hr hlk (k_nb hi74) rfl dX11_readStatement_74
        · replace hf := k_ifN hf c52
          refine lv_aload_n X.1 X.2.1 dX11_readStatement_55 rfl (lv_at hl 0 rfl) ?_
          obtain ⟨r56, hr56, hf⟩ := k_bdE hf
          refine k_backi X hS (k_runV (As := []) (rest := []) X hS hU sh_5_0 (by decide) rfl vl_X11_348 (c_X11_readWind X.2.2.2.2.2.2.1 (k_uc_s _ _ _) hr56) rfl rfl rfl hl.1 ⟨Nat.le_of_ble_eq_true rfl, Nat.le_of_ble_eq_true rfl⟩ (Nat.le_of_ble_eq_true rfl) dX11_readStatement_56 ⟨Nat.zero_le _, Nat.zero_le _⟩) (fun H locs hU hS => ?_)
          rw [k_uc_uc] at hU
          obtain ⟨hi59, hf⟩ := k_ckE hf
          have hz := Option.some.inj hf
          subst hz
          exact k_iret (v := r56.2) X hU hS hr hlk (k_nb hi59) rfl dX11_readStatement_59
      · replace hf := k_ifN hf c37
        refine lv_aload_n X.1 X.2.1 dX11_readStatement_40 rfl (lv_at hl 0 rfl) ?_
        obtain ⟨r41, hr41, hf⟩ := k_bdE hf
        refine k_backi X hS (k_runV (As := []) (rest := []) X hS hU sh_5_0 (by decide) rfl vl_X11_343 (c_X11_readTarget X.2.2.2.2.2.2.1 (k_uc_s _ _ _) hr41) rfl rfl rfl hl.1 ⟨Nat.le_of_ble_eq_true rfl, Nat.le_of_ble_eq_true rfl⟩ (Nat.le_of_ble_eq_true rfl) dX11_readStatement_41 ⟨Nat.zero_le _, Nat.zero_le _⟩) (fun H locs hU hS => ?_)
        rw [k_uc_uc] at hU
        obtain ⟨hi44, hf⟩ := k_ckE hf
        have hz := Option.some.inj hf
        subst hz
        exact k_iret (v := r41.2) X hU hS hr hlk (k_nb hi44) rfl dX11_readStatement_44
    · replace hf := k_ifN hf c22
      refine lv_aload_n X.1 X.2.1 dX11_readStatement_25 rfl (lv_at hl 0 rfl) ?_
      obtain ⟨r26, hr26, hf⟩ := k_bdE hf
      refine k_backi X hS (k_runV (As := []) (rest := []) X hS hU sh_5_0 (by decide) rfl vl_X11_338 (c_X11_readReserve X.2.2.2.2.2.2.1 (k_uc_s _ _ _) hr26) rfl rfl rfl hl.1 ⟨Nat.le_of_ble_eq_true rfl, Nat.le_of_ble_eq_true rfl⟩ (Nat.le_of_ble_eq_true rfl) dX11_readStatement_26 ⟨Nat.zero_le _, Nat.zero_le _⟩) (fun H locs hU hS => ?_)
      rw [k_uc_uc] at hU
      obtain ⟨hi29, hf⟩ := k_ckE hf
      have hz := Option.some.inj hf
      subst hz
      exact k_iret (v := r26.2) X hU hS hr hlk (k_nb hi29) rfl dX11_readStatement_29
  · replace hf := k_ifN hf c7
    refine lv_aload_n X.1 X.2.1 dX11_readStatement_10 rfl (lv_at hl 0 rfl) ?_
    obtain ⟨r11, hr11, hf⟩ := k_bdE hf
    refine k_backi X hS (k_runV (As := []) (rest := []) X hS hU sh_5_0 (by decide) rfl vl_X11_333 (c_X11_readLayer X.2.2.2.2.2.2.1 (k_uc_s _ _ _) hr11) rfl rfl rfl hl.1 ⟨Nat.le_of_ble_eq_true rfl, Nat.le_of_ble_eq_true rfl⟩ (Nat.le_of_ble_eq_true rfl) dX11_readStatement_11 ⟨Nat.zero_le _, Nat.zero_le _⟩) (fun H locs hU hS => ?_)
    rw [k_uc_uc] at hU
    obtain ⟨hi14, hf⟩ := k_ckE hf
    have hz := Option.some.inj hf
    subst hz
    exact k_iret (v := r11.2) X hU hS hr hlk (k_nb hi14) rfl dX11_readStatement_14
def rm_X11_load : Room := { frames := 9, cells := 0, slots := 0, locals := 207 }
set_option maxRecDepth 100000 in
set_option maxHeartbeats 4000000 in
theorem c_X11_load {l : Launch} {D : va_G} {G : Nat → ClassId} {ad : Nat → Nat → Nat} {u : k_U} (hI : k_ok ad) {w : k_M} (hw : u 5 = w) {sz : Nat} {r : (k_M × Int32)} (hf : f_X11_load w = some r) : Met l yX11_load (.code yX11_load cX11_load 2 (some .int) :: lw_g) rm_X11_load (k_Pre D G ad u sz [.ref (ad 5 0)]) (k_Qi D G ad (k_uc u 5 r.1) r.2 sz) 0 0 (k_A ad sz) := by
  refine k_ofW (by decide +kernel) hI (Nat.le_of_ble_eq_true rfl) ?_
  intro p e s m args below meth c X hr hlk hU hS ls hl
  have hl : lv_has ls 2 [(0, .ref (ad 5 0))] := hl
  have hU : k_Uv D G ad (k_uc u 5 w) s.heap := by rw [← hw, k_uc_id]; exact hU
  have J108 : ∀ (H : Heap) (locs : List Loc) (ls : Array Slot) (w : k_M) (a1 : Int32), k_Uv D G ad (k_uc u 5 w) H → va_S (k_A ad sz) s.heap H locs → lv_has ls 2 [(0, .ref (ad 5 0)), (1, .int a1)] → f_X11_load_108 w a1 = some r → W p l e rm_X11_load s m args below meth c H locs 0 0 (MQ below (k_Qi D G ad (k_uc u 5 r.1) r.2 sz) args s 0 0 (k_A ad sz)) (F0 m 108 ls []) := by
    intro H locs ls w a1 hU hS hl hf
    unfold f_X11_load_108 at hf
    refine lv_aload_n X.1 X.2.1 dX11_load_108 rfl (lv_at hl 0 rfl) ?_
    refine lv_iconst (v := 0) X.1 X.2.1 dX11_load_109 (by decide) ?_
    obtain ⟨w110, e110, hf⟩ := k_ltE hf
    refine k_putw X hU hS sh_5_0 fp_X11_240 rfl e110 rfl rfl dX11_load_110 (fun H locs hU hS => ?_)
    refine lv_iload_n X.1 X.2.1 dX11_load_113 rfl (lv_at hl 1 rfl) ?_
    refine lv_if_ne (tgt := 119) X.1 X.2.1 dX11_load_114 (by decide) (fun c114 => ?_) (fun c114 => ?_)
    · replace hf := k_ifN hf c114
      refine lv_aload_n X.1 X.2.1 dX11_load_119 rfl (lv_at hl 0 rfl) ?_
      refine k_getw (v := .ref (ad 5 2)) X hU sh_5_0 fl_X11_13 rfl dX11_load_120 ?_
      refine lv_iconst (v := 0) X.1 X.2.1 dX11_load_123 (by decide) ?_
      refine lv_aload_n X.1 X.2.1 dX11_load_124 rfl (lv_at hl 0 rfl) ?_
      refine k_getw (v := .ref (ad 5 1)) X hU sh_5_0 fl_X11_7 rfl dX11_load_125 ?_
      refine lv_iconst (v := 0) X.1 X.2.1 dX11_load_128 (by decide) ?_
      obtain ⟨r129, hr129, hf⟩ := k_bdE hf
      refine k_backv X hS (k_runS (As := [.ref (ad 5 2), .int 0, .ref (ad 5 1), .int 0]) (rest := []) X hS hU sl_X11_200 (c_X11_copies X.2.2.2.2.2.2.1 (k_uc_s _ _ _) sh_5_2 (by decide) sh_5_1 (by decide) hr129) rfl rfl rfl hl.1 ⟨Nat.le_of_ble_eq_true rfl, Nat.le_of_ble_eq_true rfl⟩ (Nat.le_of_ble_eq_true rfl) dX11_load_129 ⟨Nat.zero_le _, Nat.zero_le _⟩) (fun H locs hU hS => ?_)
      rw [k_uc_uc] at hU
      refine lv_aload_n X.1 X.2.1 dX11_load_132 rfl (lv_at hl 0 rfl) ?_
      refine lv_iconst (v := 0) X.1 X.2.1 dX11_load_133 (by decide) ?_
      obtain ⟨w134, e134, hf⟩ := k_ltE hf
      refine k_putw X hU hS sh_5_0 fp_X11_176 rfl e134 rfl rfl dX11_load_134 (fun H locs hU hS => ?_)
      refine lv_aload_n X.1 X.2.1 dX11_load_137 rfl (lv_at hl 0 rfl) ?_
      obtain ⟨r138, hr138, hf⟩ := k_bdE hf
      refine k_backi X hS (k_runV (As := []) (rest := []) X hS hU sh_5_0 (by decide) rfl vl_X11_53 (c_X11_chutes X.2.2.2.2.2.2.1 (k_uc_s _ _ _) hr138) rfl rfl rfl hl.1 ⟨Nat.le_of_ble_eq_true rfl, Nat.le_of_ble_eq_true rfl⟩ (Nat.le_of_ble_eq_true rfl) dX11_load_138 ⟨Nat.zero_le _, Nat.zero_le _⟩) (fun H locs hU hS => ?_)
      have hz := Option.some.inj hf
      subst hz
      exact k_iret (v := r138) X hU hS hr hlk rfl rfl dX11_load_141
    · replace hf := k_ifP hf c114
      refine lv_iconst (v := (-1)) X.1 X.2.1 dX11_load_117 (by decide) ?_
      have hz := Option.some.inj hf
      subst hz
      exact k_iret (v := (-1)) X hU hS hr hlk rfl rfl dX11_load_118
  have L74 : ∀ (n74 : Nat) (H : Heap) (locs : List Loc) (ls : Array Slot) (w : k_M) (a1 : Int32), k_Uv D G ad (k_uc u 5 w) H → va_S (k_A ad sz) s.heap H locs → lv_has ls 2 [(0, .ref (ad 5 0)), (1, .int a1)] → f_X11_load_74 n74 w a1 = some r → W p l e rm_X11_load s m args below meth c H locs 0 0 (MQ below (k_Qi D G ad (k_uc u 5 r.1) r.2 sz) args s 0 0 (k_A ad sz)) (F0 m 74 ls []) := by
    intro n74
    induction n74 with
    | zero =>
      intro H locs ls w a1 hU hS hl hf
      cases (show none = some r from hf)
    | succ n74 ih74 =>
      have J104 : ∀ (H : Heap) (locs : List Loc) (ls : Array Slot) (w : k_M) (as0 : Int32), k_Uv D G ad (k_uc u 5 w) H → va_S (k_A ad sz) s.heap H locs → lv_has ls 2 [(0, .ref (ad 5 0))] → f_X11_load_104 (f_X11_load_74 n74) w as0 = some r → W p l e rm_X11_load s m args below meth c H locs 0 0 (MQ below (k_Qi D G ad (k_uc u 5 r.1) r.2 sz) args s 0 0 (k_A ad sz)) (F0 m 104 ls [.int as0]) := by
        intro H locs ls w as0 hU hS hl hf
        unfold f_X11_load_104 at hf
        refine lv_istore_n (lv' := [(1, .int as0), (0, .ref (ad 5 0))]) X.1 X.2.1 dX11_load_104 rfl hl (by decide) rfl (fun ls hl => ?_)
        refine lv_goto (tgt := 74) X.1 X.2.1 dX11_load_105 (by decide) ?_
        exact ih74 _ _ _ w as0 hU hS (lv_sub hl [1, 0] rfl) hf
      have J103 : ∀ (H : Heap) (locs : List Loc) (ls : Array Slot) (w : k_M), k_Uv D G ad (k_uc u 5 w) H → va_S (k_A ad sz) s.heap H locs → lv_has ls 2 [(0, .ref (ad 5 0))] → f_X11_load_103 (f_X11_load_74 n74) w = some r → W p l e rm_X11_load s m args below meth c H locs 0 0 (MQ below (k_Qi D G ad (k_uc u 5 r.1) r.2 sz) args s 0 0 (k_A ad sz)) (F0 m 103 ls []) := by
        intro H locs ls w hU hS hl hf
        unfold f_X11_load_103 at hf
        refine lv_iconst (v := 0) X.1 X.2.1 dX11_load_103 (by decide) ?_
        exact J104 _ _ _ w 0 hU hS (lv_sub hl [0] rfl) hf
      intro H locs ls w a1 hU hS hl hf
      replace hf : f_X11_load_74_b (f_X11_load_74 n74) w a1 = some r := hf
      unfold f_X11_load_74_b at hf
      refine lv_iload_n X.1 X.2.1 dX11_load_74 rfl (lv_at hl 1 rfl) ?_
      refine lv_if_eq (tgt := 108) X.1 X.2.1 dX11_load_75 (by decide) (fun c75 => ?_) (fun c75 => ?_)
      · replace hf := k_ifP hf c75
        exact J108 _ _ _ w a1 hU hS (lv_sub hl [0, 1] rfl) hf
      · replace hf := k_ifN hf c75
        refine lv_aload_n X.1 X.2.1 dX11_load_78 rfl (lv_at hl 0 rfl) ?_
        refine k_getw (v := .int (w 0 13)) X hU sh_5_0 fl_X11_261 rfl dX11_load_79 ?_
        refine lv_if_eq (tgt := 108) X.1 X.2.1 dX11_load_82 (by decide) (fun c82 => ?_) (fun c82 => ?_)
        · replace hf := k_ifP hf c82
          exact J108 _ _ _ w a1 hU hS (lv_sub hl [0, 1] rfl) hf
        · replace hf := k_ifN hf c82
          refine lv_aload_n X.1 X.2.1 dX11_load_85 rfl (lv_at hl 0 rfl) ?_
          obtain ⟨r86, hr86, hf⟩ := k_bdE hf
          refine k_backi X hS (k_runV (As := []) (rest := []) X hS hU sh_5_0 (by decide) rfl vl_X11_366 (c_X11_readStatement X.2.2.2.2.2.2.1 (k_uc_s _ _ _) hr86) rfl rfl rfl hl.1 ⟨Nat.le_of_ble_eq_true rfl, Nat.le_of_ble_eq_true rfl⟩ (Nat.le_of_ble_eq_true rfl) dX11_load_86 ⟨Nat.zero_le _, Nat.zero_le _⟩) (fun H locs hU hS => ?_)
          rw [k_uc_uc] at hU
          refine lv_if_eq (tgt := 103) X.1 X.2.1 dX11_load_89 (by decide) (fun c89 => ?_) (fun c89 => ?_)
          · replace hf := k_ifP hf c89
            exact J103 _ _ _ r86.1 hU hS (lv_sub hl [0] rfl) hf
          · replace hf := k_ifN hf c89
            refine lv_aload_n X.1 X.2.1 dX11_load_92 rfl (lv_at hl 0 rfl) ?_
            obtain ⟨r93, hr93, hf⟩ := k_bdE hf
            refine k_backi X hS (k_runV (As := []) (rest := []) X hS hU sh_5_0 (by decide) rfl vl_X11_363 (c_X11_stop X.2.2.2.2.2.2.1 (k_uc_s _ _ _) hr93) rfl rfl rfl hl.1 ⟨Nat.le_of_ble_eq_true rfl, Nat.le_of_ble_eq_true rfl⟩ (Nat.le_of_ble_eq_true rfl) dX11_load_93 ⟨Nat.zero_le _, Nat.zero_le _⟩) (fun H locs hU hS => ?_)
            rw [k_uc_uc] at hU
            refine lv_if_eq (tgt := 103) X.1 X.2.1 dX11_load_96 (by decide) (fun c96 => ?_) (fun c96 => ?_)
            · replace hf := k_ifP hf c96
              exact J103 _ _ _ r93.1 hU hS (lv_sub hl [0] rfl) hf
            · replace hf := k_ifN hf c96
              refine lv_iconst (v := 1) X.1 X.2.1 dX11_load_99 (by decide) ?_
              refine lv_goto (tgt := 104) X.1 X.2.1 dX11_load_100 (by decide) ?_
              exact J104 _ _ _ r93.1 1 hU hS (lv_sub hl [0] rfl) hf
  have J73 : ∀ (H : Heap) (locs : List Loc) (ls : Array Slot) (w : k_M) (as0 : Int32), k_Uv D G ad (k_uc u 5 w) H → va_S (k_A ad sz) s.heap H locs → lv_has ls 2 [(0, .ref (ad 5 0))] → f_X11_load_73 w as0 = some r → W p l e rm_X11_load s m args below meth c H locs 0 0 (MQ below (k_Qi D G ad (k_uc u 5 r.1) r.2 sz) args s 0 0 (k_A ad sz)) (F0 m 73 ls [.int as0]) := by
    intro H locs ls w as0 hU hS hl hf
    unfold f_X11_load_73 at hf
    refine lv_istore_n (lv' := [(1, .int as0), (0, .ref (ad 5 0))]) X.1 X.2.1 dX11_load_73 rfl hl (by decide) rfl (fun ls hl => ?_)
    exact L74 k_N _ _ _ w as0 hU hS (lv_sub hl [1, 0] rfl) hf
  have J72 : ∀ (H : Heap) (locs : List Loc) (ls : Array Slot) (w : k_M), k_Uv D G ad (k_uc u 5 w) H → va_S (k_A ad sz) s.heap H locs → lv_has ls 2 [(0, .ref (ad 5 0))] → f_X11_load_72 w = some r → W p l e rm_X11_load s m args below meth c H locs 0 0 (MQ below (k_Qi D G ad (k_uc u 5 r.1) r.2 sz) args s 0 0 (k_A ad sz)) (F0 m 72 ls []) := by
    intro H locs ls w hU hS hl hf
    unfold f_X11_load_72 at hf
    refine lv_iconst (v := 0) X.1 X.2.1 dX11_load_72 (by decide) ?_
    exact J73 _ _ _ w 0 hU hS (lv_sub hl [0] rfl) hf
  unfold f_X11_load at hf
  refine lv_aload_n X.1 X.2.1 dX11_load_0 rfl (lv_at hl 0 rfl) ?_
  refine lv_iconst (v := 0) X.1 X.2.1 dX11_load_1 (by decide) ?_
  obtain ⟨w2, e2, hf⟩ := k_ltE hf
  refine k_putw X hU hS sh_5_0 fp_X11_50 rfl e2 rfl rfl dX11_load_2 (fun H locs hU hS => ?_)
  refine lv_aload_n X.1 X.2.1 dX11_load_5 rfl (lv_at hl 0 rfl) ?_
  obtain ⟨r6, hr6, hf⟩ := k_bdE hf
  refine k_backv X hS (k_runV (As := []) (rest := []) X hS hU sh_5_0 (by decide) rfl vl_X11_358 (c_X11_begins X.2.2.2.2.2.2.1 (k_uc_s _ _ _) hr6) rfl rfl rfl hl.1 ⟨Nat.le_of_ble_eq_true rfl, Nat.le_of_ble_eq_true rfl⟩ (Nat.le_of_ble_eq_true rfl) dX11_load_6 ⟨Nat.zero_le _, Nat.zero_le _⟩) (fun H locs hU hS => ?_)
  rw [k_uc_uc] at hU
  refine lv_aload_n X.1 X.2.1 dX11_load_9 rfl (lv_at hl 0 rfl) ?_
  refine k_getw (v := .ref (ad 5 2)) X hU sh_5_0 fl_X11_13 rfl dX11_load_10 ?_
  obtain ⟨r13, hr13, hf⟩ := k_bdE hf
  refine k_backv X hS (k_runS (As := [.ref (ad 5 2)]) (rest := []) X hS hU sl_X11_46 (c_X11_empties X.2.2.2.2.2.2.1 (k_uc_s _ _ _) sh_5_2 (by decide) hr13) rfl rfl rfl hl.1 ⟨Nat.le_of_ble_eq_true rfl, Nat.le_of_ble_eq_true rfl⟩ (Nat.le_of_ble_eq_true rfl) dX11_load_13 ⟨Nat.zero_le _, Nat.zero_le _⟩) (fun H locs hU hS => ?_)
  rw [k_uc_uc] at hU
  refine lv_aload_n X.1 X.2.1 dX11_load_16 rfl (lv_at hl 0 rfl) ?_
  refine k_ldcSW (i := 27) (tx := "capsule") X rfl dX11_load_17 ?_
  obtain ⟨r20, hr20, hf⟩ := k_bdE hf
  refine k_backi X hS (k_runV (As := [.ref (ad 30 27)]) (rest := []) X hS hU sh_5_0 (by decide) rfl vl_X11_313 (c_X11_takesWord X.2.2.2.2.2.2.1 (k_uc_s _ _ _) (by decide) hr20) rfl rfl rfl hl.1 ⟨Nat.le_of_ble_eq_true rfl, Nat.le_of_ble_eq_true rfl⟩ (Nat.le_of_ble_eq_true rfl) dX11_load_20 ⟨Nat.zero_le _, Nat.zero_le _⟩) (fun H locs hU hS => ?_)
  rw [k_uc_uc] at hU
  refine lv_if_eq (tgt := 72) X.1 X.2.1 dX11_load_23 (by decide) (fun c23 => ?_) (fun c23 => ?_)
  · replace hf := k_ifP hf c23
    exact J72 _ _ _ r20.1 hU hS (lv_sub hl [0] rfl) hf
  · replace hf := k_ifN hf c23
    refine lv_aload_n X.1 X.2.1 dX11_load_26 rfl (lv_at hl 0 rfl) ?_
    refine lv_iconst (v := 0) X.1 X.2.1 dX11_load_27 (by decide) ?_
    refine lv_iconst (v := 1) X.1 X.2.1 dX11_load_28 (by decide) ?_
    refine lv_sipush (v := 30000) X.1 X.2.1 dX11_load_29 (by decide) ?_
    obtain ⟨r32, hr32, hf⟩ := k_bdE hf
    refine k_backi X hS (k_runV (As := [.int 0, .int 1, .int 30000]) (rest := []) X hS hU sh_5_0 (by decide) rfl vl_X11_308 (c_X11_takesInto X.2.2.2.2.2.2.1 (k_uc_s _ _ _) hr32) rfl rfl rfl hl.1 ⟨Nat.le_of_ble_eq_true rfl, Nat.le_of_ble_eq_true rfl⟩ (Nat.le_of_ble_eq_true rfl) dX11_load_32 ⟨Nat.zero_le _, Nat.zero_le _⟩) (fun H locs hU hS => ?_)
    rw [k_uc_uc] at hU
    refine lv_if_eq (tgt := 72) X.1 X.2.1 dX11_load_35 (by decide) (fun c35 => ?_) (fun c35 => ?_)
    · replace hf := k_ifP hf c35
      exact J72 _ _ _ r32.1 hU hS (lv_sub hl [0] rfl) hf
    · replace hf := k_ifN hf c35
      refine lv_aload_n X.1 X.2.1 dX11_load_38 rfl (lv_at hl 0 rfl) ?_
      refine lv_iconst (v := 1) X.1 X.2.1 dX11_load_39 (by decide) ?_
      refine lv_iconst (v := 0) X.1 X.2.1 dX11_load_40 (by decide) ?_
      refine lv_sipush (v := 400) X.1 X.2.1 dX11_load_41 (by decide) ?_
      obtain ⟨r44, hr44, hf⟩ := k_bdE hf
      refine k_backi X hS (k_runV (As := [.int 1, .int 0, .int 400]) (rest := []) X hS hU sh_5_0 (by decide) rfl vl_X11_308 (c_X11_takesInto X.2.2.2.2.2.2.1 (k_uc_s _ _ _) hr44) rfl rfl rfl hl.1 ⟨Nat.le_of_ble_eq_true rfl, Nat.le_of_ble_eq_true rfl⟩ (Nat.le_of_ble_eq_true rfl) dX11_load_44 ⟨Nat.zero_le _, Nat.zero_le _⟩) (fun H locs hU hS => ?_)
      rw [k_uc_uc] at hU
      refine lv_if_eq (tgt := 72) X.1 X.2.1 dX11_load_47 (by decide) (fun c47 => ?_) (fun c47 => ?_)
      · replace hf := k_ifP hf c47
        exact J72 _ _ _ r44.1 hU hS (lv_sub hl [0] rfl) hf
      · replace hf := k_ifN hf c47
        refine lv_aload_n X.1 X.2.1 dX11_load_50 rfl (lv_at hl 0 rfl) ?_
        refine lv_iconst (v := 3) X.1 X.2.1 dX11_load_51 (by decide) ?_
        refine lv_iconst (v := 1) X.1 X.2.1 dX11_load_52 (by decide) ?_
        refine lv_bipush (v := 99) X.1 X.2.1 dX11_load_53 (by decide) ?_
        obtain ⟨r55, hr55, hf⟩ := k_bdE hf
        refine k_backi X hS (k_runV (As := [.int 3, .int 1, .int 99]) (rest := []) X hS hU sh_5_0 (by decide) rfl vl_X11_308 (c_X11_takesInto X.2.2.2.2.2.2.1 (k_uc_s _ _ _) hr55) rfl rfl rfl hl.1 ⟨Nat.le_of_ble_eq_true rfl, Nat.le_of_ble_eq_true rfl⟩ (Nat.le_of_ble_eq_true rfl) dX11_load_55 ⟨Nat.zero_le _, Nat.zero_le _⟩) (fun H locs hU hS => ?_)
        rw [k_uc_uc] at hU
        refine lv_if_eq (tgt := 72) X.1 X.2.1 dX11_load_58 (by decide) (fun c58 => ?_) (fun c58 => ?_)
        · replace hf := k_ifP hf c58
          exact J72 _ _ _ r55.1 hU hS (lv_sub hl [0] rfl) hf
        · replace hf := k_ifN hf c58
          refine lv_aload_n X.1 X.2.1 dX11_load_61 rfl (lv_at hl 0 rfl) ?_
          obtain ⟨r62, hr62, hf⟩ := k_bdE hf
          refine k_backi X hS (k_runV (As := []) (rest := []) X hS hU sh_5_0 (by decide) rfl vl_X11_363 (c_X11_stop X.2.2.2.2.2.2.1 (k_uc_s _ _ _) hr62) rfl rfl rfl hl.1 ⟨Nat.le_of_ble_eq_true rfl, Nat.le_of_ble_eq_true rfl⟩ (Nat.le_of_ble_eq_true rfl) dX11_load_62 ⟨Nat.zero_le _, Nat.zero_le _⟩) (fun H locs hU hS => ?_)
          rw [k_uc_uc] at hU
          refine lv_if_eq (tgt := 72) X.1 X.2.1 dX11_load_65 (by decide) (fun c65 => ?_) (fun c65 => ?_)
          · replace hf := k_ifP hf c65
            exact J72 _ _ _ r62.1 hU hS (lv_sub hl [0] rfl) hf
          · replace hf := k_ifN hf c65
            refine lv_iconst (v := 1) X.1 X.2.1 dX11_load_68 (by decide) ?_
            refine lv_goto (tgt := 73) X.1 X.2.1 dX11_load_69 (by decide) ?_
            exact J73 _ _ _ r62.1 1 hU hS (lv_sub hl [0] rfl) hf
def rm_X11_commandHere : Room := { frames := 5, cells := 0, slots := 0, locals := 124 }
set_option maxRecDepth 100000 in
set_option maxHeartbeats 4000000 in
theorem c_X11_commandHere {l : Launch} {D : va_G} {G : Nat → ClassId} {ad : Nat → Nat → Nat} {u : k_U} (hI : k_ok ad) {w : k_M} (hw : u 5 = w) {sz : Nat} {r : Int32} (hf : f_X11_commandHere w = some r) : Met l yX11_commandHere (.code yX11_commandHere cX11_commandHere 1 (some .int) :: lw_g) rm_X11_commandHere (k_Pre D G ad u sz [.ref (ad 5 0)]) (k_Qi D G ad u r sz) 0 0 (k_A ad sz) := by
  refine k_ofW (by decide +kernel) hI (Nat.le_of_ble_eq_true rfl) ?_
  intro p e s m args below meth c X hr hlk hU hS ls hl
  have hl : lv_has ls 1 [(0, .ref (ad 5 0))] := hl
  have hU : k_Uv D G ad (k_uc u 5 w) s.heap := by rw [← hw, k_uc_id]; exact hU
  unfold f_X11_commandHere at hf
  refine lv_aload_n X.1 X.2.1 dX11_commandHere_0 rfl (lv_at hl 0 rfl) ?_
  refine k_ldcSW (i := 28) (tx := "tick") X rfl dX11_commandHere_1 ?_
  obtain ⟨r4, hr4, hf⟩ := k_bdE hf
  refine k_backi X hS (k_runV (As := [.ref (ad 30 28)]) (rest := []) X hS hU sh_5_0 (by decide) rfl vl_X11_301 (c_X11_isWord X.2.2.2.2.2.2.1 (k_uc_s _ _ _) (by decide) hr4) rfl rfl rfl hl.1 ⟨Nat.le_of_ble_eq_true rfl, Nat.le_of_ble_eq_true rfl⟩ (Nat.le_of_ble_eq_true rfl) dX11_commandHere_4 ⟨Nat.zero_le _, Nat.zero_le _⟩) (fun H locs hU hS => ?_)
  refine lv_if_eq (tgt := 14) X.1 X.2.1 dX11_commandHere_7 (by decide) (fun c7 => ?_) (fun c7 => ?_)
  · replace hf := k_ifP hf c7
    refine lv_aload_n X.1 X.2.1 dX11_commandHere_14 rfl (lv_at hl 0 rfl) ?_
    refine k_ldcSW (i := 29) (tx := "fall") X rfl dX11_commandHere_15 ?_
    obtain ⟨r18, hr18, hf⟩ := k_bdE hf
    refine k_backi X hS (k_runV (As := [.ref (ad 30 29)]) (rest := []) X hS hU sh_5_0 (by decide) rfl vl_X11_301 (c_X11_isWord X.2.2.2.2.2.2.1 (k_uc_s _ _ _) (by decide) hr18) rfl rfl rfl hl.1 ⟨Nat.le_of_ble_eq_true rfl, Nat.le_of_ble_eq_true rfl⟩ (Nat.le_of_ble_eq_true rfl) dX11_commandHere_18 ⟨Nat.zero_le _, Nat.zero_le _⟩) (fun H locs hU hS => ?_)
    refine lv_if_eq (tgt := 28) X.1 X.2.1 dX11_commandHere_21 (by decide) (fun c21 => ?_) (fun c21 => ?_)
    · replace hf := k_ifP hf c21
      refine lv_aload_n X.1 X.2.1 dX11_commandHere_28 rfl (lv_at hl 0 rfl) ?_
      refine k_ldcSW (i := 30) (tx := "open") X rfl dX11_commandHere_29 ?_
      obtain ⟨r32, hr32, hf⟩ := k_bdE hf
      refine k_backi X hS (k_runV (As := [.ref (ad 30 30)]) (rest := []) X hS hU sh_5_0 (by decide) rfl vl_X11_301 (c_X11_isWord X.2.2.2.2.2.2.1 (k_uc_s _ _ _) (by decide) hr32) rfl rfl rfl hl.1 ⟨Nat.le_of_ble_eq_true rfl, Nat.le_of_ble_eq_true rfl⟩ (Nat.le_of_ble_eq_true rfl) dX11_commandHere_32 ⟨Nat.zero_le _, Nat.zero_le _⟩) (fun H locs hU hS => ?_)
      refine lv_if_eq (tgt := 42) X.1 X.2.1 dX11_commandHere_35 (by decide) (fun c35 => ?_) (fun c35 => ?_)
      · replace hf := k_ifP hf c35
        refine lv_aload_n X.1 X.2.1 dX11_commandHere_42 rfl (lv_at hl 0 rfl) ?_
        refine k_ldcSW (i := 22) (tx := "reserve") X rfl dX11_commandHere_43 ?_
        obtain ⟨r46, hr46, hf⟩ := k_bdE hf
        refine k_backi X hS (k_runV (As := [.ref (ad 30 22)]) (rest := []) X hS hU sh_5_0 (by decide) rfl vl_X11_301 (c_X11_isWord X.2.2.2.2.2.2.1 (k_uc_s _ _ _) (by decide) hr46) rfl rfl rfl hl.1 ⟨Nat.le_of_ble_eq_true rfl, Nat.le_of_ble_eq_true rfl⟩ (Nat.le_of_ble_eq_true rfl) dX11_commandHere_46 ⟨Nat.zero_le _, Nat.zero_le _⟩) (fun H locs hU hS => ?_)
        refine lv_if_eq (tgt := 56) X.1 X.2.1 dX11_commandHere_49 (by decide) (fun c49 => ?_) (fun c49 => ?_)
        · replace hf := k_ifP hf c49
          refine lv_aload_n X.1 X.2.1 dX11_commandHere_56 rfl (lv_at hl 0 rfl) ?_
          refine k_ldcSW (i := 31) (tx := "cut") X rfl dX11_commandHere_57 ?_
          obtain ⟨r60, hr60, hf⟩ := k_bdE hf
          refine k_backi X hS (k_runV (As := [.ref (ad 30 31)]) (rest := []) X hS hU sh_5_0 (by decide) rfl vl_X11_301 (c_X11_isWord X.2.2.2.2.2.2.1 (k_uc_s _ _ _) (by decide) hr60) rfl rfl rfl hl.1 ⟨Nat.le_of_ble_eq_true rfl, Nat.le_of_ble_eq_true rfl⟩ (Nat.le_of_ble_eq_true rfl) dX11_commandHere_60 ⟨Nat.zero_le _, Nat.zero_le _⟩) (fun H locs hU hS => ?_)
          refine lv_if_eq (tgt := 70) X.1 X.2.1 dX11_commandHere_63 (by decide) (fun c63 => ?_) (fun c63 => ?_)
          · replace hf := k_ifP hf c63
            refine lv_aload_n X.1 X.2.1 dX11_commandHere_70 rfl (lv_at hl 0 rfl) ?_
            refine k_ldcSW (i := 32) (tx := "steer") X rfl dX11_commandHere_71 ?_
            obtain ⟨r74, hr74, hf⟩ := k_bdE hf
            refine k_backi X hS (k_runV (As := [.ref (ad 30 32)]) (rest := []) X hS hU sh_5_0 (by decide) rfl vl_X11_301 (c_X11_isWord X.2.2.2.2.2.2.1 (k_uc_s _ _ _) (by decide) hr74) rfl rfl rfl hl.1 ⟨Nat.le_of_ble_eq_true rfl, Nat.le_of_ble_eq_true rfl⟩ (Nat.le_of_ble_eq_true rfl) dX11_commandHere_74 ⟨Nat.zero_le _, Nat.zero_le _⟩) (fun H locs hU hS => ?_)
            refine lv_if_eq (tgt := 84) X.1 X.2.1 dX11_commandHere_77 (by decide) (fun c77 => ?_) (fun c77 => ?_)
            · replace hf := k_ifP hf c77
              refine lv_iconst (v := (-1)) X.1 X.2.1 dX11_commandHere_84 (by decide) ?_
              rw [← hw, k_uc_id] at hU
              have hz := Option.some.inj hf
              subst hz
              exact k_iret (v := (-1)) X hU hS hr hlk rfl rfl dX11_commandHere_85
            · replace hf := k_ifN hf c77
              refine lv_iconst (v := 5) X.1 X.2.1 dX11_commandHere_80 (by decide) ?_
              refine lv_goto (tgt := 85) X.1 X.2.1 dX11_commandHere_81 (by decide) ?_
              rw [← hw, k_uc_id] at hU
              have hz := Option.some.inj hf
              subst hz
              exact k_iret (v := 5) X hU hS hr hlk rfl rfl dX11_commandHere_85
          · replace hf := k_ifN hf c63
            refine lv_iconst (v := 4) X.1 X.2.1 dX11_commandHere_66 (by decide) ?_
            refine lv_goto (tgt := 85) X.1 X.2.1 dX11_commandHere_67 (by decide) ?_
            rw [← hw, k_uc_id] at hU
            have hz := Option.some.inj hf
            subst hz
            exact k_iret (v := 4) X hU hS hr hlk rfl rfl dX11_commandHere_85
        · replace hf := k_ifN hf c49
          refine lv_iconst (v := 3) X.1 X.2.1 dX11_commandHere_52 (by decide) ?_
          refine lv_goto (tgt := 85) X.1 X.2.1 dX11_commandHere_53 (by decide) ?_
          rw [← hw, k_uc_id] at hU
          have hz := Option.some.inj hf
          subst hz
          exact k_iret (v := 3) X hU hS hr hlk rfl rfl dX11_commandHere_85
      · replace hf := k_ifN hf c35
        refine lv_iconst (v := 2) X.1 X.2.1 dX11_commandHere_38 (by decide) ?_
        refine lv_goto (tgt := 85) X.1 X.2.1 dX11_commandHere_39 (by decide) ?_
        rw [← hw, k_uc_id] at hU
        have hz := Option.some.inj hf
        subst hz
        exact k_iret (v := 2) X hU hS hr hlk rfl rfl dX11_commandHere_85
    · replace hf := k_ifN hf c21
      refine lv_iconst (v := 1) X.1 X.2.1 dX11_commandHere_24 (by decide) ?_
      refine lv_goto (tgt := 85) X.1 X.2.1 dX11_commandHere_25 (by decide) ?_
      rw [← hw, k_uc_id] at hU
      have hz := Option.some.inj hf
      subst hz
      exact k_iret (v := 1) X hU hS hr hlk rfl rfl dX11_commandHere_85
  · replace hf := k_ifN hf c7
    refine lv_iconst (v := 0) X.1 X.2.1 dX11_commandHere_10 (by decide) ?_
    refine lv_goto (tgt := 85) X.1 X.2.1 dX11_commandHere_11 (by decide) ?_
    rw [← hw, k_uc_id] at hU
    have hz := Option.some.inj hf
    subst hz
    exact k_iret (v := 0) X hU hS hr hlk rfl rfl dX11_commandHere_85
def rm_X11_readCommand : Room := { frames := 6, cells := 0, slots := 0, locals := 144 }
set_option maxRecDepth 100000 in
set_option maxHeartbeats 4000000 in
theorem c_X11_readCommand {l : Launch} {D : va_G} {G : Nat → ClassId} {ad : Nat → Nat → Nat} {u : k_U} (hI : k_ok ad) {w : k_M} (hw : u 5 = w) {sz : Nat} {r : (k_M × Int32)} (hf : f_X11_readCommand w = some r) : Met l yX11_readCommand (.code yX11_readCommand cX11_readCommand 3 (some .boolean) :: lw_g) rm_X11_readCommand (k_Pre D G ad u sz [.ref (ad 5 0)]) (k_Qi D G ad (k_uc u 5 r.1) r.2 sz) 0 0 (k_A ad sz) := by
  refine k_ofW (by decide +kernel) hI (Nat.le_of_ble_eq_true rfl) ?_
  intro p e s m args below meth c X hr hlk hU hS ls hl
  have hl : lv_has ls 3 [(0, .ref (ad 5 0))] := hl
  have hU : k_Uv D G ad (k_uc u 5 w) s.heap := by rw [← hw, k_uc_id]; exact hU
  have J148 : ∀ (H : Heap) (locs : List Loc) (ls : Array Slot) (w : k_M) (a1 : Int32) (as0 : Int32), k_Uv D G ad (k_uc u 5 w) H → va_S (k_A ad sz) s.heap H locs → lv_has ls 3 [(0, .ref (ad 5 0)), (1, .int a1)] → f_X11_readCommand_148 w a1 as0 = some r → W p l e rm_X11_readCommand s m args below meth c H locs 0 0 (MQ below (k_Qi D G ad (k_uc u 5 r.1) r.2 sz) args s 0 0 (k_A ad sz)) (F0 m 148 ls [.int as0]) := by
    intro H locs ls w a1 as0 hU hS hl hf
    unfold f_X11_readCommand_148 at hf
    refine lv_istore_n (lv' := [(2, .int as0), (0, .ref (ad 5 0)), (1, .int a1)]) X.1 X.2.1 dX11_readCommand_148 rfl hl (by decide) rfl (fun ls hl => ?_)
    refine lv_iload_n X.1 X.2.1 dX11_readCommand_149 rfl (lv_at hl 0 rfl) ?_
    refine lv_if_ne (tgt := 155) X.1 X.2.1 dX11_readCommand_150 (by decide) (fun c150 => ?_) (fun c150 => ?_)
    · replace hf := k_ifN hf c150
      refine lv_aload_n X.1 X.2.1 dX11_readCommand_155 rfl (lv_at hl 1 rfl) ?_
      refine k_getw (v := .ref (ad 5 18)) X hU sh_5_0 fl_X11_40 rfl dX11_readCommand_156 ?_
      refine lv_iconst (v := 2) X.1 X.2.1 dX11_readCommand_159 (by decide) ?_
      refine lv_aload_n X.1 X.2.1 dX11_readCommand_160 rfl (lv_at hl 1 rfl) ?_
      refine k_getw (v := .int (w 0 19)) X hU sh_5_0 fl_X11_382 rfl dX11_readCommand_161 ?_
      refine lv_imul X.1 X.2.1 dX11_readCommand_164 ?_
      refine lv_iload_n X.1 X.2.1 dX11_readCommand_165 rfl (lv_at hl 2 rfl) ?_
      obtain ⟨hi166, hf⟩ := k_ckE hf
      obtain ⟨w166, e166, hf⟩ := k_ltE hf
      refine k_istw X hU hS sh_5_18 e166 (k_vin (n := 80) hi166 (by decide)) rfl dX11_readCommand_166 (fun H locs hU hS => ?_)
      refine lv_aload_n X.1 X.2.1 dX11_readCommand_167 rfl (lv_at hl 1 rfl) ?_
      refine k_getw (v := .ref (ad 5 18)) X hU sh_5_0 fl_X11_40 rfl dX11_readCommand_168 ?_
      refine lv_iconst (v := 2) X.1 X.2.1 dX11_readCommand_171 (by decide) ?_
      refine lv_aload_n X.1 X.2.1 dX11_readCommand_172 rfl (lv_at hl 1 rfl) ?_
      refine k_getw (v := .int (w166 0 19)) X hU sh_5_0 fl_X11_382 rfl dX11_readCommand_173 ?_
      refine lv_imul X.1 X.2.1 dX11_readCommand_176 ?_
      refine lv_iconst (v := 1) X.1 X.2.1 dX11_readCommand_177 (by decide) ?_
      refine lv_iadd X.1 X.2.1 dX11_readCommand_178 ?_
      refine lv_aload_n X.1 X.2.1 dX11_readCommand_179 rfl (lv_at hl 1 rfl) ?_
      refine k_getw (v := .int (w166 0 17)) X hU sh_5_0 fl_X11_288 rfl dX11_readCommand_180 ?_
      obtain ⟨hi183, hf⟩ := k_ckE hf
      obtain ⟨w183, e183, hf⟩ := k_ltE hf
      refine k_istw X hU hS sh_5_18 e183 (k_vin (n := 80) hi183 (by decide)) rfl dX11_readCommand_183 (fun H locs hU hS => ?_)
      refine lv_aload_n X.1 X.2.1 dX11_readCommand_184 rfl (lv_at hl 1 rfl) ?_
      refine lv_dup X.1 X.2.1 dX11_readCommand_185 rfl ?_
      refine k_getw (v := .int (w183 0 19)) X hU sh_5_0 fl_X11_382 rfl dX11_readCommand_186 ?_
      refine lv_iconst (v := 1) X.1 X.2.1 dX11_readCommand_189 (by decide) ?_
      refine lv_iadd X.1 X.2.1 dX11_readCommand_190 ?_
      obtain ⟨w191, e191, hf⟩ := k_ltE hf
      refine k_putw X hU hS sh_5_0 fp_X11_382 rfl e191 rfl rfl dX11_readCommand_191 (fun H locs hU hS => ?_)
      refine lv_iconst (v := 1) X.1 X.2.1 dX11_readCommand_194 (by decide) ?_
      have hz := Option.some.inj hf
      subst hz
      exact k_iret (v := 1) X hU hS hr hlk rfl rfl dX11_readCommand_195
    · replace hf := k_ifP hf c150
      refine lv_iconst (v := 0) X.1 X.2.1 dX11_readCommand_153 (by decide) ?_
      have hz := Option.some.inj hf
      subst hz
      exact k_iret (v := 0) X hU hS hr hlk rfl rfl dX11_readCommand_154
  have J147 : ∀ (H : Heap) (locs : List Loc) (ls : Array Slot) (w : k_M) (a1 : Int32), k_Uv D G ad (k_uc u 5 w) H → va_S (k_A ad sz) s.heap H locs → lv_has ls 3 [(0, .ref (ad 5 0)), (1, .int a1)] → f_X11_readCommand_147 w a1 = some r → W p l e rm_X11_readCommand s m args below meth c H locs 0 0 (MQ below (k_Qi D G ad (k_uc u 5 r.1) r.2 sz) args s 0 0 (k_A ad sz)) (F0 m 147 ls []) := by
    intro H locs ls w a1 hU hS hl hf
    unfold f_X11_readCommand_147 at hf
    refine lv_iconst (v := 0) X.1 X.2.1 dX11_readCommand_147 (by decide) ?_
    exact J148 _ _ _ w a1 0 hU hS (lv_sub hl [0, 1] rfl) hf
  have J143 : ∀ (H : Heap) (locs : List Loc) (ls : Array Slot) (w : k_M) (a1 : Int32), k_Uv D G ad (k_uc u 5 w) H → va_S (k_A ad sz) s.heap H locs → lv_has ls 3 [(0, .ref (ad 5 0)), (1, .int a1)] → f_X11_readCommand_143 w a1 = some r → W p l e rm_X11_readCommand s m args below meth c H locs 0 0 (MQ below (k_Qi D G ad (k_uc u 5 r.1) r.2 sz) args s 0 0 (k_A ad sz)) (F0 m 143 ls []) := by
    intro H locs ls w a1 hU hS hl hf
    unfold f_X11_readCommand_143 at hf
    refine lv_iconst (v := 1) X.1 X.2.1 dX11_readCommand_143 (by decide) ?_
    refine lv_goto (tgt := 148) X.1 X.2.1 dX11_readCommand_144 (by decide) ?_
    exact J148 _ _ _ w a1 1 hU hS (lv_sub hl [0, 1] rfl) hf
  have J32 : ∀ (H : Heap) (locs : List Loc) (ls : Array Slot) (w : k_M) (a1 : Int32) (as0 : Int32) (as1 : Int32), k_Uv D G ad (k_uc u 5 w) H → va_S (k_A ad sz) s.heap H locs → lv_has ls 3 [(0, .ref (ad 5 0)), (1, .int a1)] → f_X11_readCommand_32 w a1 as0 as1 = some r → W p l e rm_X11_readCommand s m args below meth c H locs 0 0 (MQ below (k_Qi D G ad (k_uc u 5 r.1) r.2 sz) args s 0 0 (k_A ad sz)) (F0 m 32 ls [.int as0, .int as1, .ref (ad 5 0)]) := by
    intro H locs ls w a1 as0 as1 hU hS hl hf
    unfold f_X11_readCommand_32 at hf
    obtain ⟨r32, hr32, hf⟩ := k_bdE hf
    refine k_backi X hS (k_runV (As := [.int as1, .int as0]) (rest := []) X hS hU sh_5_0 (by decide) rfl vl_X11_294 (c_X11_goesOn X.2.2.2.2.2.2.1 (k_uc_s _ _ _) hr32) rfl rfl rfl hl.1 ⟨Nat.le_of_ble_eq_true rfl, Nat.le_of_ble_eq_true rfl⟩ (Nat.le_of_ble_eq_true rfl) dX11_readCommand_32 ⟨Nat.zero_le _, Nat.zero_le _⟩) (fun H locs hU hS => ?_)
    rw [k_uc_uc] at hU
    refine lv_if_ne (tgt := 40) X.1 X.2.1 dX11_readCommand_35 (by decide) (fun c35 => ?_) (fun c35 => ?_)
    · replace hf := k_ifN hf c35
      refine lv_aload_n X.1 X.2.1 dX11_readCommand_40 rfl (lv_at hl 0 rfl) ?_
      refine lv_iconst (v := 0) X.1 X.2.1 dX11_readCommand_41 (by decide) ?_
      obtain ⟨w42, e42, hf⟩ := k_ltE hf
      refine k_putw X hU hS sh_5_0 fp_X11_288 rfl e42 rfl rfl dX11_readCommand_42 (fun H locs hU hS => ?_)
      refine lv_iload_n X.1 X.2.1 dX11_readCommand_45 rfl (lv_at hl 1 rfl) ?_
      refine lv_iconst (v := 3) X.1 X.2.1 dX11_readCommand_46 (by decide) ?_
      refine lv_icmp_eq (tgt := 143) X.1 X.2.1 dX11_readCommand_47 (by decide) (fun c47 => ?_) (fun c47 => ?_)
      · replace hf := k_ifP hf c47
        exact J143 _ _ _ w42 a1 hU hS (lv_sub hl [0, 1] rfl) hf
      · replace hf := k_ifN hf c47
        refine lv_iload_n X.1 X.2.1 dX11_readCommand_50 rfl (lv_at hl 1 rfl) ?_
        refine lv_if_ne (tgt := 68) X.1 X.2.1 dX11_readCommand_51 (by decide) (fun c51 => ?_) (fun c51 => ?_)
        · replace hf := k_ifN hf c51
          refine lv_iload_n X.1 X.2.1 dX11_readCommand_68 rfl (lv_at hl 1 rfl) ?_
          refine lv_iconst (v := 1) X.1 X.2.1 dX11_readCommand_69 (by decide) ?_
          refine lv_icmp_ne (tgt := 87) X.1 X.2.1 dX11_readCommand_70 (by decide) (fun c70 => ?_) (fun c70 => ?_)
          · replace hf := k_ifN hf c70
            refine lv_iload_n X.1 X.2.1 dX11_readCommand_87 rfl (lv_at hl 1 rfl) ?_
            refine lv_iconst (v := 2) X.1 X.2.1 dX11_readCommand_88 (by decide) ?_
            refine lv_icmp_ne (tgt := 112) X.1 X.2.1 dX11_readCommand_89 (by decide) (fun c89 => ?_) (fun c89 => ?_)
            · replace hf := k_ifN hf c89
              refine lv_iload_n X.1 X.2.1 dX11_readCommand_112 rfl (lv_at hl 1 rfl) ?_
              refine lv_iconst (v := 4) X.1 X.2.1 dX11_readCommand_113 (by decide) ?_
              refine lv_icmp_ne (tgt := 134) X.1 X.2.1 dX11_readCommand_114 (by decide) (fun c114 => ?_) (fun c114 => ?_)
              · replace hf := k_ifN hf c114
                refine lv_aload_n X.1 X.2.1 dX11_readCommand_134 rfl (lv_at hl 0 rfl) ?_
                refine lv_bipush (v := 9) X.1 X.2.1 dX11_readCommand_135 (by decide) ?_
                obtain ⟨r137, hr137, hf⟩ := k_bdE hf
                refine k_backi X hS (k_runV (As := [.int 9]) (rest := []) X hS hU sh_5_0 (by decide) rfl vl_X11_328 (c_X11_takesSigned X.2.2.2.2.2.2.1 (k_uc_s _ _ _) hr137) rfl rfl rfl hl.1 ⟨Nat.le_of_ble_eq_true rfl, Nat.le_of_ble_eq_true rfl⟩ (Nat.le_of_ble_eq_true rfl) dX11_readCommand_137 ⟨Nat.zero_le _, Nat.zero_le _⟩) (fun H locs hU hS => ?_)
                rw [k_uc_uc] at hU
                refine lv_if_eq (tgt := 147) X.1 X.2.1 dX11_readCommand_140 (by decide) (fun c140 => ?_) (fun c140 => ?_)
                · replace hf := k_ifP hf c140
                  exact J147 _ _ _ r137.1 a1 hU hS (lv_sub hl [0, 1] rfl) hf
                · replace hf := k_ifN hf c140
                  exact J143 _ _ _ r137.1 a1 hU hS (lv_sub hl [0, 1] rfl) hf
              · replace hf := k_ifP hf c114
                refine lv_aload_n X.1 X.2.1 dX11_readCommand_117 rfl (lv_at hl 0 rfl) ?_
                refine lv_iconst (v := 0) X.1 X.2.1 dX11_readCommand_118 (by decide) ?_
                refine lv_aload_n X.1 X.2.1 dX11_readCommand_119 rfl (lv_at hl 0 rfl) ?_
                obtain ⟨r120, hr120, hf⟩ := k_bdE hf
                refine k_backi X hS (k_runV (As := []) (rest := [.int 0, .ref (ad 5 0)]) X hS hU sh_5_0 (by decide) rfl vl_X11_53 (c_X11_chutes X.2.2.2.2.2.2.1 (k_uc_s _ _ _) hr120) rfl rfl rfl hl.1 ⟨Nat.le_of_ble_eq_true rfl, Nat.le_of_ble_eq_true rfl⟩ (Nat.le_of_ble_eq_true rfl) dX11_readCommand_120 ⟨Nat.zero_le _, Nat.zero_le _⟩) (fun H locs hU hS => ?_)
                refine lv_iconst (v := 1) X.1 X.2.1 dX11_readCommand_123 (by decide) ?_
                refine lv_isub X.1 X.2.1 dX11_readCommand_124 ?_
                obtain ⟨r125, hr125, hf⟩ := k_bdE hf
                refine k_backi X hS (k_runV (As := [.int 0, .int (r120 - 1)]) (rest := []) X hS hU sh_5_0 (by decide) rfl vl_X11_305 (c_X11_takes X.2.2.2.2.2.2.1 (k_uc_s _ _ _) hr125) rfl rfl rfl hl.1 ⟨Nat.le_of_ble_eq_true rfl, Nat.le_of_ble_eq_true rfl⟩ (Nat.le_of_ble_eq_true rfl) dX11_readCommand_125 ⟨Nat.zero_le _, Nat.zero_le _⟩) (fun H locs hU hS => ?_)
                rw [k_uc_uc] at hU
                refine lv_if_eq (tgt := 147) X.1 X.2.1 dX11_readCommand_128 (by decide) (fun c128 => ?_) (fun c128 => ?_)
                · replace hf := k_ifP hf c128
                  exact J147 _ _ _ r125.1 a1 hU hS (lv_sub hl [0, 1] rfl) hf
                · replace hf := k_ifN hf c128
                  refine lv_goto (tgt := 143) X.1 X.2.1 dX11_readCommand_131 (by decide) ?_
                  exact J143 _ _ _ r125.1 a1 hU hS (lv_sub hl [0, 1] rfl) hf
            · replace hf := k_ifP hf c89
              refine lv_aload_n X.1 X.2.1 dX11_readCommand_92 rfl (lv_at hl 0 rfl) ?_
              refine lv_iconst (v := 0) X.1 X.2.1 dX11_readCommand_93 (by decide) ?_
              refine lv_aload_n X.1 X.2.1 dX11_readCommand_94 rfl (lv_at hl 0 rfl) ?_
              refine k_getw (v := .ref (ad 5 1)) X hU sh_5_0 fl_X11_7 rfl dX11_readCommand_95 ?_
              refine lv_bipush (v := 8) X.1 X.2.1 dX11_readCommand_98 (by decide) ?_
              refine k_ildw (j0 := 8) X hU sh_5_1 (k_vin (N := 268) (by decide) (by decide)) (by decide) dX11_readCommand_100 ?_
              refine lv_iconst (v := 1) X.1 X.2.1 dX11_readCommand_101 (by decide) ?_
              refine lv_isub X.1 X.2.1 dX11_readCommand_102 ?_
              obtain ⟨r103, hr103, hf⟩ := k_bdE hf
              refine k_backi X hS (k_runV (As := [.int 0, .int ((w42 1 8) - 1)]) (rest := []) X hS hU sh_5_0 (by decide) rfl vl_X11_305 (c_X11_takes X.2.2.2.2.2.2.1 (k_uc_s _ _ _) hr103) rfl rfl rfl hl.1 ⟨Nat.le_of_ble_eq_true rfl, Nat.le_of_ble_eq_true rfl⟩ (Nat.le_of_ble_eq_true rfl) dX11_readCommand_103 ⟨Nat.zero_le _, Nat.zero_le _⟩) (fun H locs hU hS => ?_)
              rw [k_uc_uc] at hU
              refine lv_if_eq (tgt := 147) X.1 X.2.1 dX11_readCommand_106 (by decide) (fun c106 => ?_) (fun c106 => ?_)
              · replace hf := k_ifP hf c106
                exact J147 _ _ _ r103.1 a1 hU hS (lv_sub hl [0, 1] rfl) hf
              · replace hf := k_ifN hf c106
                refine lv_goto (tgt := 143) X.1 X.2.1 dX11_readCommand_109 (by decide) ?_
                exact J143 _ _ _ r103.1 a1 hU hS (lv_sub hl [0, 1] rfl) hf
          · replace hf := k_ifP hf c70
            refine lv_aload_n X.1 X.2.1 dX11_readCommand_73 rfl (lv_at hl 0 rfl) ?_
            refine lv_iconst (v := 0) X.1 X.2.1 dX11_readCommand_74 (by decide) ?_
            refine lv_sipush (v := 30000) X.1 X.2.1 dX11_readCommand_75 (by decide) ?_
            obtain ⟨r78, hr78, hf⟩ := k_bdE hf
            refine k_backi X hS (k_runV (As := [.int 0, .int 30000]) (rest := []) X hS hU sh_5_0 (by decide) rfl vl_X11_305 (c_X11_takes X.2.2.2.2.2.2.1 (k_uc_s _ _ _) hr78) rfl rfl rfl hl.1 ⟨Nat.le_of_ble_eq_true rfl, Nat.le_of_ble_eq_true rfl⟩ (Nat.le_of_ble_eq_true rfl) dX11_readCommand_78 ⟨Nat.zero_le _, Nat.zero_le _⟩) (fun H locs hU hS => ?_)
            rw [k_uc_uc] at hU
            refine lv_if_eq (tgt := 147) X.1 X.2.1 dX11_readCommand_81 (by decide) (fun c81 => ?_) (fun c81 => ?_)
            · replace hf := k_ifP hf c81
              exact J147 _ _ _ r78.1 a1 hU hS (lv_sub hl [0, 1] rfl) hf
            · replace hf := k_ifN hf c81
              refine lv_goto (tgt := 143) X.1 X.2.1 dX11_readCommand_84 (by decide) ?_
              exact J143 _ _ _ r78.1 a1 hU hS (lv_sub hl [0, 1] rfl) hf
        · replace hf := k_ifP hf c51
          refine lv_aload_n X.1 X.2.1 dX11_readCommand_54 rfl (lv_at hl 0 rfl) ?_
          refine lv_iconst (v := 1) X.1 X.2.1 dX11_readCommand_55 (by decide) ?_
          refine lv_sipush (v := 200) X.1 X.2.1 dX11_readCommand_56 (by decide) ?_
          obtain ⟨r59, hr59, hf⟩ := k_bdE hf
          refine k_backi X hS (k_runV (As := [.int 1, .int 200]) (rest := []) X hS hU sh_5_0 (by decide) rfl vl_X11_305 (c_X11_takes X.2.2.2.2.2.2.1 (k_uc_s _ _ _) hr59) rfl rfl rfl hl.1 ⟨Nat.le_of_ble_eq_true rfl, Nat.le_of_ble_eq_true rfl⟩ (Nat.le_of_ble_eq_true rfl) dX11_readCommand_59 ⟨Nat.zero_le _, Nat.zero_le _⟩) (fun H locs hU hS => ?_)
          rw [k_uc_uc] at hU
          refine lv_if_eq (tgt := 147) X.1 X.2.1 dX11_readCommand_62 (by decide) (fun c62 => ?_) (fun c62 => ?_)
          · replace hf := k_ifP hf c62
            exact J147 _ _ _ r59.1 a1 hU hS (lv_sub hl [0, 1] rfl) hf
          · replace hf := k_ifN hf c62
            refine lv_goto (tgt := 143) X.1 X.2.1 dX11_readCommand_65 (by decide) ?_
            exact J143 _ _ _ r59.1 a1 hU hS (lv_sub hl [0, 1] rfl) hf
    · replace hf := k_ifP hf c35
      refine lv_iconst (v := 0) X.1 X.2.1 dX11_readCommand_38 (by decide) ?_
      have hz := Option.some.inj hf
      subst hz
      exact k_iret (v := 0) X hU hS hr hlk rfl rfl dX11_readCommand_39
  unfold f_X11_readCommand at hf
  refine lv_aload_n X.1 X.2.1 dX11_readCommand_0 rfl (lv_at hl 0 rfl) ?_
  obtain ⟨r1, hr1, hf⟩ := k_bdE hf
  refine k_backi X hS (k_runV (As := []) (rest := []) X hS hU sh_5_0 (by decide) rfl vl_X11_379 (c_X11_commandHere X.2.2.2.2.2.2.1 (k_uc_s _ _ _) hr1) rfl rfl rfl hl.1 ⟨Nat.le_of_ble_eq_true rfl, Nat.le_of_ble_eq_true rfl⟩ (Nat.le_of_ble_eq_true rfl) dX11_readCommand_1 ⟨Nat.zero_le _, Nat.zero_le _⟩) (fun H locs hU hS => ?_)
  refine lv_istore_n (lv' := [(1, .int r1), (0, .ref (ad 5 0))]) X.1 X.2.1 dX11_readCommand_4 rfl hl (by decide) rfl (fun ls hl => ?_)
  refine lv_iload_n X.1 X.2.1 dX11_readCommand_5 rfl (lv_at hl 0 rfl) ?_
  refine lv_iconst (v := (-1)) X.1 X.2.1 dX11_readCommand_6 (by decide) ?_
  refine lv_icmp_ne (tgt := 16) X.1 X.2.1 dX11_readCommand_7 (by decide) (fun c7 => ?_) (fun c7 => ?_)
  · replace hf := k_ifN hf c7
    refine lv_aload_n X.1 X.2.1 dX11_readCommand_16 rfl (lv_at hl 1 rfl) ?_
    refine lv_iconst (v := 4) X.1 X.2.1 dX11_readCommand_17 (by decide) ?_
    refine lv_aload_n X.1 X.2.1 dX11_readCommand_18 rfl (lv_at hl 1 rfl) ?_
    refine k_getw (v := .int (w 0 19)) X hU sh_5_0 fl_X11_382 rfl dX11_readCommand_19 ?_
    refine lv_bipush (v := 40) X.1 X.2.1 dX11_readCommand_22 (by decide) ?_
    refine lv_icmp_ge (tgt := 31) X.1 X.2.1 dX11_readCommand_24 (by decide) (fun c24 => ?_) (fun c24 => ?_)
    · replace hf := k_ifP hf c24
      refine lv_iconst (v := 0) X.1 X.2.1 dX11_readCommand_31 (by decide) ?_
      exact J32 _ _ _ w r1 0 4 hU hS (lv_sub hl [1, 0] rfl) hf
    · replace hf := k_ifN hf c24
      refine lv_iconst (v := 1) X.1 X.2.1 dX11_readCommand_27 (by decide) ?_
      refine lv_goto (tgt := 32) X.1 X.2.1 dX11_readCommand_28 (by decide) ?_
      exact J32 _ _ _ w r1 1 4 hU hS (lv_sub hl [1, 0] rfl) hf
  · replace hf := k_ifP hf c7
    refine lv_aload_n X.1 X.2.1 dX11_readCommand_10 rfl (lv_at hl 1 rfl) ?_
    refine lv_iconst (v := 1) X.1 X.2.1 dX11_readCommand_11 (by decide) ?_
    obtain ⟨r12, hr12, hf⟩ := k_bdE hf
    refine k_backi X hS (k_runV (As := [.int 1]) (rest := []) X hS hU sh_5_0 (by decide) rfl vl_X11_282 (c_X11_fails X.2.2.2.2.2.2.1 (k_uc_s _ _ _) hr12) rfl rfl rfl hl.1 ⟨Nat.le_of_ble_eq_true rfl, Nat.le_of_ble_eq_true rfl⟩ (Nat.le_of_ble_eq_true rfl) dX11_readCommand_12 ⟨Nat.zero_le _, Nat.zero_le _⟩) (fun H locs hU hS => ?_)
    rw [k_uc_uc] at hU
    obtain ⟨hi15, hf⟩ := k_ckE hf
    have hz := Option.some.inj hf
    subst hz
    exact k_iret (v := r12.2) X hU hS hr hlk (k_nb hi15) rfl dX11_readCommand_15
def rm_X11_does : Room := { frames := 8, cells := 0, slots := 0, locals := 187 }
set_option maxRecDepth 100000 in
set_option maxHeartbeats 4000000 in
theorem c_X11_does {l : Launch} {D : va_G} {G : Nat → ClassId} {ad : Nat → Nat → Nat} {u : k_U} (hI : k_ok ad) {w : k_M} (hw : u 5 = w) {a1 : Int32} {a2 : Int32} {sz : Nat} {r : (k_M × Int32)} (hf : f_X11_does w a1 a2 = some r) : Met l yX11_does (.code yX11_does cX11_does 3 (some .int) :: lw_g) rm_X11_does (k_Pre D G ad u sz [.ref (ad 5 0), .int a1, .int a2]) (k_Qi D G ad (k_uc u 5 r.1) r.2 sz) 0 0 (k_A ad sz) := by
  refine k_ofW (by decide +kernel) hI (Nat.le_of_ble_eq_true rfl) ?_
  intro p e s m args below meth c X hr hlk hU hS ls hl
  have hl : lv_has ls 3 [(0, .ref (ad 5 0)), (1, .int a1), (2, .int a2)] := hl
  have hU : k_Uv D G ad (k_uc u 5 w) s.heap := by rw [← hw, k_uc_id]; exact hU
  unfold f_X11_does at hf
  refine lv_iload_n X.1 X.2.1 dX11_does_0 rfl (lv_at hl 1 rfl) ?_
  by_cases c1_0 : a1 = 0
  · replace hf := k_ifP hf c1_0
    refine lv_tableIn (x := a1) (off := 35) (tgt := 36) X.1 X.2.1 dX11_does_1 (by rw [c1_0]; decide) (by rw [c1_0]; decide) (by rw [c1_0]; rfl) (by decide) ?_
    refine lv_aload_n X.1 X.2.1 dX11_does_36 rfl (lv_at hl 0 rfl) ?_
    refine lv_iload_n X.1 X.2.1 dX11_does_37 rfl (lv_at hl 2 rfl) ?_
    obtain ⟨r38, hr38, hf⟩ := k_bdE hf
    refine k_backi X hS (k_runV (As := [.int a2]) (rest := []) X hS hU sh_5_0 (by decide) rfl vl_X11_225 (c_X11_ticks X.2.2.2.2.2.2.1 (k_uc_s _ _ _) hr38) rfl rfl rfl hl.1 ⟨Nat.le_of_ble_eq_true rfl, Nat.le_of_ble_eq_true rfl⟩ (Nat.le_of_ble_eq_true rfl) dX11_does_38 ⟨Nat.zero_le _, Nat.zero_le _⟩) (fun H locs hU hS => ?_)
    rw [k_uc_uc] at hU
    have hz := Option.some.inj hf
    subst hz
    exact k_iret (v := r38.2) X hU hS hr hlk rfl rfl dX11_does_41
  replace hf := k_ifN hf c1_0
  by_cases c1_1 : a1 = 1
  · replace hf := k_ifP hf c1_1
    refine lv_tableIn (x := a1) (off := 41) (tgt := 42) X.1 X.2.1 dX11_does_1 (by rw [c1_1]; decide) (by rw [c1_1]; decide) (by rw [c1_1]; rfl) (by decide) ?_
    refine lv_aload_n X.1 X.2.1 dX11_does_42 rfl (lv_at hl 0 rfl) ?_
    refine lv_iload_n X.1 X.2.1 dX11_does_43 rfl (lv_at hl 2 rfl) ?_
    obtain ⟨r44, hr44, hf⟩ := k_bdE hf
    refine k_backi X hS (k_runV (As := [.int a2]) (rest := []) X hS hU sh_5_0 (by decide) rfl vl_X11_228 (c_X11_falls X.2.2.2.2.2.2.1 (k_uc_s _ _ _) hr44) rfl rfl rfl hl.1 ⟨Nat.le_of_ble_eq_true rfl, Nat.le_of_ble_eq_true rfl⟩ (Nat.le_of_ble_eq_true rfl) dX11_does_44 ⟨Nat.zero_le _, Nat.zero_le _⟩) (fun H locs hU hS => ?_)
    rw [k_uc_uc] at hU
    have hz := Option.some.inj hf
    subst hz
    exact k_iret (v := r44.2) X hU hS hr hlk rfl rfl dX11_does_47
  replace hf := k_ifN hf c1_1
  by_cases c1_2 : a1 = 2
  · replace hf := k_ifP hf c1_2
    refine lv_tableIn (x := a1) (off := 47) (tgt := 48) X.1 X.2.1 dX11_does_1 (by rw [c1_2]; decide) (by rw [c1_2]; decide) (by rw [c1_2]; rfl) (by decide) ?_
    refine lv_aload_n X.1 X.2.1 dX11_does_48 rfl (lv_at hl 0 rfl) ?_
    refine lv_iload_n X.1 X.2.1 dX11_does_49 rfl (lv_at hl 2 rfl) ?_
    obtain ⟨r50, hr50, hf⟩ := k_bdE hf
    refine k_backi X hS (k_runV (As := [.int a2]) (rest := []) X hS hU sh_5_0 (by decide) rfl vl_X11_231 (c_X11_opensIt X.2.2.2.2.2.2.1 (k_uc_s _ _ _) hr50) rfl rfl rfl hl.1 ⟨Nat.le_of_ble_eq_true rfl, Nat.le_of_ble_eq_true rfl⟩ (Nat.le_of_ble_eq_true rfl) dX11_does_50 ⟨Nat.zero_le _, Nat.zero_le _⟩) (fun H locs hU hS => ?_)
    rw [k_uc_uc] at hU
    have hz := Option.some.inj hf
    subst hz
    exact k_iret (v := r50.2) X hU hS hr hlk rfl rfl dX11_does_53
  replace hf := k_ifN hf c1_2
  by_cases c1_3 : a1 = 3
  · replace hf := k_ifP hf c1_3
    refine lv_tableIn (x := a1) (off := 53) (tgt := 54) X.1 X.2.1 dX11_does_1 (by rw [c1_3]; decide) (by rw [c1_3]; decide) (by rw [c1_3]; rfl) (by decide) ?_
    refine lv_aload_n X.1 X.2.1 dX11_does_54 rfl (lv_at hl 0 rfl) ?_
    obtain ⟨r55, hr55, hf⟩ := k_bdE hf
    refine k_backi X hS (k_runV (As := []) (rest := []) X hS hU sh_5_0 (by decide) rfl vl_X11_385 (c_X11_openReserve X.2.2.2.2.2.2.1 (k_uc_s _ _ _) hr55) rfl rfl rfl hl.1 ⟨Nat.le_of_ble_eq_true rfl, Nat.le_of_ble_eq_true rfl⟩ (Nat.le_of_ble_eq_true rfl) dX11_does_55 ⟨Nat.zero_le _, Nat.zero_le _⟩) (fun H locs hU hS => ?_)
    rw [k_uc_uc] at hU
    have hz := Option.some.inj hf
    subst hz
    exact k_iret (v := r55.2) X hU hS hr hlk rfl rfl dX11_does_58
  replace hf := k_ifN hf c1_3
  by_cases c1_4 : a1 = 4
  · replace hf := k_ifP hf c1_4
    refine lv_tableIn (x := a1) (off := 58) (tgt := 59) X.1 X.2.1 dX11_does_1 (by rw [c1_4]; decide) (by rw [c1_4]; decide) (by rw [c1_4]; rfl) (by decide) ?_
    refine lv_aload_n X.1 X.2.1 dX11_does_59 rfl (lv_at hl 0 rfl) ?_
    refine lv_iload_n X.1 X.2.1 dX11_does_60 rfl (lv_at hl 2 rfl) ?_
    obtain ⟨r61, hr61, hf⟩ := k_bdE hf
    refine k_backi X hS (k_runV (As := [.int a2]) (rest := []) X hS hU sh_5_0 (by decide) rfl vl_X11_234 (c_X11_cuts X.2.2.2.2.2.2.1 (k_uc_s _ _ _) hr61) rfl rfl rfl hl.1 ⟨Nat.le_of_ble_eq_true rfl, Nat.le_of_ble_eq_true rfl⟩ (Nat.le_of_ble_eq_true rfl) dX11_does_61 ⟨Nat.zero_le _, Nat.zero_le _⟩) (fun H locs hU hS => ?_)
    rw [k_uc_uc] at hU
    have hz := Option.some.inj hf
    subst hz
    exact k_iret (v := r61.2) X hU hS hr hlk rfl rfl dX11_does_64
  replace hf := k_ifN hf c1_4
  have ho1 : (a1).toInt < 0 ∨ 4 < (a1).toInt := by
    have g0 := k_tne (n := 0) (z := 0) c1_0 (by decide)
    have g1 := k_tne (n := 1) (z := 1) c1_1 (by decide)
    have g2 := k_tne (n := 2) (z := 2) c1_2 (by decide)
    have g3 := k_tne (n := 3) (z := 3) c1_3 (by decide)
    have g4 := k_tne (n := 4) (z := 4) c1_4 (by decide)
    omega
  refine lv_tableOut (x := a1) (tgt := 65) X.1 X.2.1 dX11_does_1 ho1 (by decide) ?_
  refine lv_aload_n X.1 X.2.1 dX11_does_65 rfl (lv_at hl 0 rfl) ?_
  refine lv_iload_n X.1 X.2.1 dX11_does_66 rfl (lv_at hl 2 rfl) ?_
  obtain ⟨r67, hr67, hf⟩ := k_bdE hf
  refine k_backi X hS (k_runV (As := [.int a2]) (rest := []) X hS hU sh_5_0 (by decide) rfl vl_X11_237 (c_X11_steers X.2.2.2.2.2.2.1 (k_uc_s _ _ _) hr67) rfl rfl rfl hl.1 ⟨Nat.le_of_ble_eq_true rfl, Nat.le_of_ble_eq_true rfl⟩ (Nat.le_of_ble_eq_true rfl) dX11_does_67 ⟨Nat.zero_le _, Nat.zero_le _⟩) (fun H locs hU hS => ?_)
  rw [k_uc_uc] at hU
  have hz := Option.some.inj hf
  subst hz
  exact k_iret (v := r67.2) X hU hS hr hlk rfl rfl dX11_does_70
def rm_X11_play : Room := { frames := 9, cells := 0, slots := 0, locals := 209 }
set_option maxRecDepth 100000 in
set_option maxHeartbeats 4000000 in
theorem c_X11_play {l : Launch} {D : va_G} {G : Nat → ClassId} {ad : Nat → Nat → Nat} {u : k_U} (hI : k_ok ad) {w : k_M} (hw : u 5 = w) {sz : Nat} {r : (k_M × Int32)} (hf : f_X11_play w = some r) : Met l yX11_play (.code yX11_play cX11_play 3 (some .int) :: lw_g) rm_X11_play (k_Pre D G ad u sz [.ref (ad 5 0)]) (k_Qi D G ad (k_uc u 5 r.1) r.2 sz) 0 0 (k_A ad sz) := by
  refine k_ofW (by decide +kernel) hI (Nat.le_of_ble_eq_true rfl) ?_
  intro p e s m args below meth c X hr hlk hU hS ls hl
  have hl : lv_has ls 3 [(0, .ref (ad 5 0))] := hl
  have hU : k_Uv D G ad (k_uc u 5 w) s.heap := by rw [← hw, k_uc_id]; exact hU
  have L63 : ∀ (n63 : Nat) (H : Heap) (locs : List Loc) (ls : Array Slot) (w : k_M) (a2 : Int32), k_Uv D G ad (k_uc u 5 w) H → va_S (k_A ad sz) s.heap H locs → lv_has ls 3 [(0, .ref (ad 5 0)), (2, .int a2)] → f_X11_play_63 n63 w a2 = some r → W p l e rm_X11_play s m args below meth c H locs 0 0 (MQ below (k_Qi D G ad (k_uc u 5 r.1) r.2 sz) args s 0 0 (k_A ad sz)) (F0 m 63 ls []) := by
    intro n63
    induction n63 with
    | zero =>
      intro H locs ls w a2 hU hS hl hf
      cases (show none = some r from hf)
    | succ n63 ih63 =>
      intro H locs ls w a2 hU hS hl hf
      replace hf : f_X11_play_63_b (f_X11_play_63 n63) w a2 = some r := hf
      unfold f_X11_play_63_b at hf
      refine lv_iload_n X.1 X.2.1 dX11_play_63 rfl (lv_at hl 1 rfl) ?_
      refine lv_aload_n X.1 X.2.1 dX11_play_64 rfl (lv_at hl 0 rfl) ?_
      refine k_getw (v := .int (w 0 19)) X hU sh_5_0 fl_X11_382 rfl dX11_play_65 ?_
      refine lv_icmp_ge (tgt := 102) X.1 X.2.1 dX11_play_68 (by decide) (fun c68 => ?_) (fun c68 => ?_)
      · replace hf := k_ifP hf c68
        refine lv_iload_n X.1 X.2.1 dX11_play_102 rfl (lv_at hl 1 rfl) ?_
        have hz := Option.some.inj hf
        subst hz
        exact k_iret (v := a2) X hU hS hr hlk rfl rfl dX11_play_103
      · replace hf := k_ifN hf c68
        refine lv_aload_n X.1 X.2.1 dX11_play_71 rfl (lv_at hl 0 rfl) ?_
        refine lv_aload_n X.1 X.2.1 dX11_play_72 rfl (lv_at hl 0 rfl) ?_
        refine k_getw (v := .ref (ad 5 18)) X hU sh_5_0 fl_X11_40 rfl dX11_play_73 ?_
        refine lv_iconst (v := 2) X.1 X.2.1 dX11_play_76 (by decide) ?_
        refine lv_iload_n X.1 X.2.1 dX11_play_77 rfl (lv_at hl 1 rfl) ?_
        refine lv_imul X.1 X.2.1 dX11_play_78 ?_
        obtain ⟨hi79, hf⟩ := k_ckE hf
        refine k_ildw (j0 := (2 * a2).toNatClampNeg) X hU sh_5_18 (k_vin (n := 80) hi79 (by decide)) rfl dX11_play_79 ?_
        refine lv_aload_n X.1 X.2.1 dX11_play_80 rfl (lv_at hl 0 rfl) ?_
        refine k_getw (v := .ref (ad 5 18)) X hU sh_5_0 fl_X11_40 rfl dX11_play_81 ?_
        refine lv_iconst (v := 2) X.1 X.2.1 dX11_play_84 (by decide) ?_
        refine lv_iload_n X.1 X.2.1 dX11_play_85 rfl (lv_at hl 1 rfl) ?_
        refine lv_imul X.1 X.2.1 dX11_play_86 ?_
        refine lv_iconst (v := 1) X.1 X.2.1 dX11_play_87 (by decide) ?_
        refine lv_iadd X.1 X.2.1 dX11_play_88 ?_
        obtain ⟨hi89, hf⟩ := k_ckE hf
        refine k_ildw (j0 := ((2 * a2) + 1).toNatClampNeg) X hU sh_5_18 (k_vin (n := 80) hi89 (by decide)) rfl dX11_play_89 ?_
        obtain ⟨r90, hr90, hf⟩ := k_bdE hf
        refine k_backi X hS (k_runV (As := [.int (w 18 ((2 * a2).toNatClampNeg)), .int (w 18 (((2 * a2) + 1).toNatClampNeg))]) (rest := []) X hS hU sh_5_0 (by decide) rfl vl_X11_391 (c_X11_does X.2.2.2.2.2.2.1 (k_uc_s _ _ _) hr90) rfl rfl rfl hl.1 ⟨Nat.le_of_ble_eq_true rfl, Nat.le_of_ble_eq_true rfl⟩ (Nat.le_of_ble_eq_true rfl) dX11_play_90 ⟨Nat.zero_le _, Nat.zero_le _⟩) (fun H locs hU hS => ?_)
        rw [k_uc_uc] at hU
        refine lv_if_lt (tgt := 102) X.1 X.2.1 dX11_play_93 (by decide) (fun c93 => ?_) (fun c93 => ?_)
        · replace hf := k_ifP hf c93
          refine lv_iload_n X.1 X.2.1 dX11_play_102 rfl (lv_at hl 1 rfl) ?_
          have hz := Option.some.inj hf
          subst hz
          exact k_iret (v := a2) X hU hS hr hlk rfl rfl dX11_play_103
        · replace hf := k_ifN hf c93
          obtain ⟨x96, e96, hf⟩ := k_ltE hf
          refine lv_iinc (v := x96) (lv' := [(2, .int x96), (0, .ref (ad 5 0))]) X.1 X.2.1 dX11_play_96 hl (k := 1) rfl (by rw [e96]; rfl) (by decide) rfl (fun ls hl => ?_)
          refine lv_goto (tgt := 63) X.1 X.2.1 dX11_play_99 (by decide) ?_
          exact ih63 _ _ _ r90.1 x96 hU hS (lv_sub hl [1, 0] rfl) hf
  have J50 : ∀ (H : Heap) (locs : List Loc) (ls : Array Slot) (w : k_M) (a1 : Int32), k_Uv D G ad (k_uc u 5 w) H → va_S (k_A ad sz) s.heap H locs → lv_has ls 3 [(0, .ref (ad 5 0)), (1, .int a1)] → f_X11_play_50 w a1 = some r → W p l e rm_X11_play s m args below meth c H locs 0 0 (MQ below (k_Qi D G ad (k_uc u 5 r.1) r.2 sz) args s 0 0 (k_A ad sz)) (F0 m 50 ls []) := by
    intro H locs ls w a1 hU hS hl hf
    unfold f_X11_play_50 at hf
    refine lv_aload_n X.1 X.2.1 dX11_play_50 rfl (lv_at hl 0 rfl) ?_
    refine lv_iconst (v := 0) X.1 X.2.1 dX11_play_51 (by decide) ?_
    obtain ⟨w52, e52, hf⟩ := k_ltE hf
    refine k_putw X hU hS sh_5_0 fp_X11_240 rfl e52 rfl rfl dX11_play_52 (fun H locs hU hS => ?_)
    refine lv_iload_n X.1 X.2.1 dX11_play_55 rfl (lv_at hl 1 rfl) ?_
    refine lv_if_ne (tgt := 61) X.1 X.2.1 dX11_play_56 (by decide) (fun c56 => ?_) (fun c56 => ?_)
    · replace hf := k_ifN hf c56
      refine lv_iconst (v := 0) X.1 X.2.1 dX11_play_61 (by decide) ?_
      refine lv_istore_n (lv' := [(2, .int 0), (0, .ref (ad 5 0)), (1, .int a1)]) X.1 X.2.1 dX11_play_62 rfl hl (by decide) rfl (fun ls hl => ?_)
      exact L63 k_N _ _ _ w52 0 hU hS (lv_sub hl [1, 0] rfl) hf
    · replace hf := k_ifP hf c56
      refine lv_iconst (v := (-1)) X.1 X.2.1 dX11_play_59 (by decide) ?_
      have hz := Option.some.inj hf
      subst hz
      exact k_iret (v := (-1)) X hU hS hr hlk rfl rfl dX11_play_60
  have L16 : ∀ (n16 : Nat) (H : Heap) (locs : List Loc) (ls : Array Slot) (w : k_M) (a1 : Int32), k_Uv D G ad (k_uc u 5 w) H → va_S (k_A ad sz) s.heap H locs → lv_has ls 3 [(0, .ref (ad 5 0)), (1, .int a1)] → f_X11_play_16 n16 w a1 = some r → W p l e rm_X11_play s m args below meth c H locs 0 0 (MQ below (k_Qi D G ad (k_uc u 5 r.1) r.2 sz) args s 0 0 (k_A ad sz)) (F0 m 16 ls []) := by
    intro n16
    induction n16 with
    | zero =>
      intro H locs ls w a1 hU hS hl hf
      cases (show none = some r from hf)
    | succ n16 ih16 =>
      have J46 : ∀ (H : Heap) (locs : List Loc) (ls : Array Slot) (w : k_M) (as0 : Int32), k_Uv D G ad (k_uc u 5 w) H → va_S (k_A ad sz) s.heap H locs → lv_has ls 3 [(0, .ref (ad 5 0))] → f_X11_play_46 (f_X11_play_16 n16) w as0 = some r → W p l e rm_X11_play s m args below meth c H locs 0 0 (MQ below (k_Qi D G ad (k_uc u 5 r.1) r.2 sz) args s 0 0 (k_A ad sz)) (F0 m 46 ls [.int as0]) := by
        intro H locs ls w as0 hU hS hl hf
        unfold f_X11_play_46 at hf
        refine lv_istore_n (lv' := [(1, .int as0), (0, .ref (ad 5 0))]) X.1 X.2.1 dX11_play_46 rfl hl (by decide) rfl (fun ls hl => ?_)
        refine lv_goto (tgt := 16) X.1 X.2.1 dX11_play_47 (by decide) ?_
        exact ih16 _ _ _ w as0 hU hS (lv_sub hl [1, 0] rfl) hf
      have J45 : ∀ (H : Heap) (locs : List Loc) (ls : Array Slot) (w : k_M), k_Uv D G ad (k_uc u 5 w) H → va_S (k_A ad sz) s.heap H locs → lv_has ls 3 [(0, .ref (ad 5 0))] → f_X11_play_45 (f_X11_play_16 n16) w = some r → W p l e rm_X11_play s m args below meth c H locs 0 0 (MQ below (k_Qi D G ad (k_uc u 5 r.1) r.2 sz) args s 0 0 (k_A ad sz)) (F0 m 45 ls []) := by
        intro H locs ls w hU hS hl hf
        unfold f_X11_play_45 at hf
        refine lv_iconst (v := 0) X.1 X.2.1 dX11_play_45 (by decide) ?_
        exact J46 _ _ _ w 0 hU hS (lv_sub hl [0] rfl) hf
      intro H locs ls w a1 hU hS hl hf
      replace hf : f_X11_play_16_b (f_X11_play_16 n16) w a1 = some r := hf
      unfold f_X11_play_16_b at hf
      refine lv_iload_n X.1 X.2.1 dX11_play_16 rfl (lv_at hl 1 rfl) ?_
      refine lv_if_eq (tgt := 50) X.1 X.2.1 dX11_play_17 (by decide) (fun c17 => ?_) (fun c17 => ?_)
      · replace hf := k_ifP hf c17
        exact J50 _ _ _ w a1 hU hS (lv_sub hl [0, 1] rfl) hf
      · replace hf := k_ifN hf c17
        refine lv_aload_n X.1 X.2.1 dX11_play_20 rfl (lv_at hl 0 rfl) ?_
        refine k_getw (v := .int (w 0 13)) X hU sh_5_0 fl_X11_261 rfl dX11_play_21 ?_
        refine lv_if_eq (tgt := 50) X.1 X.2.1 dX11_play_24 (by decide) (fun c24 => ?_) (fun c24 => ?_)
        · replace hf := k_ifP hf c24
          exact J50 _ _ _ w a1 hU hS (lv_sub hl [0, 1] rfl) hf
        · replace hf := k_ifN hf c24
          refine lv_aload_n X.1 X.2.1 dX11_play_27 rfl (lv_at hl 0 rfl) ?_
          obtain ⟨r28, hr28, hf⟩ := k_bdE hf
          refine k_backi X hS (k_runV (As := []) (rest := []) X hS hU sh_5_0 (by decide) rfl vl_X11_388 (c_X11_readCommand X.2.2.2.2.2.2.1 (k_uc_s _ _ _) hr28) rfl rfl rfl hl.1 ⟨Nat.le_of_ble_eq_true rfl, Nat.le_of_ble_eq_true rfl⟩ (Nat.le_of_ble_eq_true rfl) dX11_play_28 ⟨Nat.zero_le _, Nat.zero_le _⟩) (fun H locs hU hS => ?_)
          rw [k_uc_uc] at hU
          refine lv_if_eq (tgt := 45) X.1 X.2.1 dX11_play_31 (by decide) (fun c31 => ?_) (fun c31 => ?_)
          · replace hf := k_ifP hf c31
            exact J45 _ _ _ r28.1 hU hS (lv_sub hl [0] rfl) hf
          · replace hf := k_ifN hf c31
            refine lv_aload_n X.1 X.2.1 dX11_play_34 rfl (lv_at hl 0 rfl) ?_
            obtain ⟨r35, hr35, hf⟩ := k_bdE hf
            refine k_backi X hS (k_runV (As := []) (rest := []) X hS hU sh_5_0 (by decide) rfl vl_X11_363 (c_X11_stop X.2.2.2.2.2.2.1 (k_uc_s _ _ _) hr35) rfl rfl rfl hl.1 ⟨Nat.le_of_ble_eq_true rfl, Nat.le_of_ble_eq_true rfl⟩ (Nat.le_of_ble_eq_true rfl) dX11_play_35 ⟨Nat.zero_le _, Nat.zero_le _⟩) (fun H locs hU hS => ?_)
            rw [k_uc_uc] at hU
            refine lv_if_eq (tgt := 45) X.1 X.2.1 dX11_play_38 (by decide) (fun c38 => ?_) (fun c38 => ?_)
            · replace hf := k_ifP hf c38
              exact J45 _ _ _ r35.1 hU hS (lv_sub hl [0] rfl) hf
            · replace hf := k_ifN hf c38
              refine lv_iconst (v := 1) X.1 X.2.1 dX11_play_41 (by decide) ?_
              refine lv_goto (tgt := 46) X.1 X.2.1 dX11_play_42 (by decide) ?_
              exact J46 _ _ _ r35.1 1 hU hS (lv_sub hl [0] rfl) hf
  unfold f_X11_play at hf
  refine lv_aload_n X.1 X.2.1 dX11_play_0 rfl (lv_at hl 0 rfl) ?_
  refine lv_iconst (v := 0) X.1 X.2.1 dX11_play_1 (by decide) ?_
  obtain ⟨w2, e2, hf⟩ := k_ltE hf
  refine k_putw X hU hS sh_5_0 fp_X11_50 rfl e2 rfl rfl dX11_play_2 (fun H locs hU hS => ?_)
  refine lv_aload_n X.1 X.2.1 dX11_play_5 rfl (lv_at hl 0 rfl) ?_
  obtain ⟨r6, hr6, hf⟩ := k_bdE hf
  refine k_backv X hS (k_runV (As := []) (rest := []) X hS hU sh_5_0 (by decide) rfl vl_X11_358 (c_X11_begins X.2.2.2.2.2.2.1 (k_uc_s _ _ _) hr6) rfl rfl rfl hl.1 ⟨Nat.le_of_ble_eq_true rfl, Nat.le_of_ble_eq_true rfl⟩ (Nat.le_of_ble_eq_true rfl) dX11_play_6 ⟨Nat.zero_le _, Nat.zero_le _⟩) (fun H locs hU hS => ?_)
  rw [k_uc_uc] at hU
  refine lv_aload_n X.1 X.2.1 dX11_play_9 rfl (lv_at hl 0 rfl) ?_
  refine lv_iconst (v := 0) X.1 X.2.1 dX11_play_10 (by decide) ?_
  obtain ⟨w11, e11, hf⟩ := k_ltE hf
  refine k_putw X hU hS sh_5_0 fp_X11_382 rfl e11 rfl rfl dX11_play_11 (fun H locs hU hS => ?_)
  refine lv_iconst (v := 1) X.1 X.2.1 dX11_play_14 (by decide) ?_
  refine lv_istore_n (lv' := [(1, .int 1), (0, .ref (ad 5 0))]) X.1 X.2.1 dX11_play_15 rfl hl (by decide) rfl (fun ls hl => ?_)
  exact L16 k_N _ _ _ w11 1 hU hS (lv_sub hl [1, 0] rfl) hf
def rm_X11_writes : Room := { frames := 0, cells := 0, slots := 0, locals := 0 }
set_option maxRecDepth 100000 in
set_option maxHeartbeats 4000000 in
theorem c_X11_writes {l : Launch} {D : va_G} {G : Nat → ClassId} {ad : Nat → Nat → Nat} {u : k_U} (hI : k_ok ad) {w : k_M} (hw : u 5 = w) {a1 : Int32} {sz : Nat} {r : k_M} (hf : f_X11_writes w a1 = some r) : Met l yX11_writes (.code yX11_writes cX11_writes 2 none :: lw_g) rm_X11_writes (k_Pre D G ad u sz [.ref (ad 5 0), .int a1]) (k_Qv D G ad (k_uc u 5 r) sz) 0 0 (k_A ad sz) := by
  refine k_ofW (by decide +kernel) hI (Nat.le_of_ble_eq_true rfl) ?_
  intro p e s m args below meth c X hr hlk hU hS ls hl
  have hl : lv_has ls 2 [(0, .ref (ad 5 0)), (1, .int a1)] := hl
  have hU : k_Uv D G ad (k_uc u 5 w) s.heap := by rw [← hw, k_uc_id]; exact hU
  unfold f_X11_writes at hf
  refine lv_aload_n X.1 X.2.1 dX11_writes_0 rfl (lv_at hl 0 rfl) ?_
  refine k_getw (v := .ref (ad 5 20)) X hU sh_5_0 fl_X11_43 rfl dX11_writes_1 ?_
  refine lv_aload_n X.1 X.2.1 dX11_writes_4 rfl (lv_at hl 0 rfl) ?_
  refine k_getw (v := .int (w 0 21)) X hU sh_5_0 fl_X11_394 rfl dX11_writes_5 ?_
  refine lv_iload_n X.1 X.2.1 dX11_writes_8 rfl (lv_at hl 1 rfl) ?_
  obtain ⟨hi9, hf⟩ := k_ckE hf
  obtain ⟨w9, e9, hf⟩ := k_ltE hf
  refine k_istw X hU hS sh_5_20 e9 (k_vin (n := 60) hi9 (by decide)) rfl dX11_writes_9 (fun H locs hU hS => ?_)
  refine lv_aload_n X.1 X.2.1 dX11_writes_10 rfl (lv_at hl 0 rfl) ?_
  refine lv_dup X.1 X.2.1 dX11_writes_11 rfl ?_
  refine k_getw (v := .int (w9 0 21)) X hU sh_5_0 fl_X11_394 rfl dX11_writes_12 ?_
  refine lv_iconst (v := 1) X.1 X.2.1 dX11_writes_15 (by decide) ?_
  refine lv_iadd X.1 X.2.1 dX11_writes_16 ?_
  obtain ⟨w17, e17, hf⟩ := k_ltE hf
  refine k_putw X hU hS sh_5_0 fp_X11_394 rfl e17 rfl rfl dX11_writes_17 (fun H locs hU hS => ?_)
  have hz := Option.some.inj hf
  subst hz
  exact k_vret X hU hS hr hlk dX11_writes_20
def rm_X11_writesChute : Room := { frames := 1, cells := 0, slots := 0, locals := 22 }
set_option maxRecDepth 100000 in
set_option maxHeartbeats 4000000 in
theorem c_X11_writesChute {l : Launch} {D : va_G} {G : Nat → ClassId} {ad : Nat → Nat → Nat} {u : k_U} (hI : k_ok ad) {w : k_M} (hw : u 5 = w) {a1 : Int32} {sz : Nat} {r : k_M} (hf : f_X11_writesChute w a1 = some r) : Met l yX11_writesChute (.code yX11_writesChute cX11_writesChute 4 none :: lw_g) rm_X11_writesChute (k_Pre D G ad u sz [.ref (ad 5 0), .int a1]) (k_Qv D G ad (k_uc u 5 r) sz) 0 0 (k_A ad sz) := by
  refine k_ofW (by decide +kernel) hI (Nat.le_of_ble_eq_true rfl) ?_
  intro p e s m args below meth c X hr hlk hU hS ls hl
  have hl : lv_has ls 4 [(0, .ref (ad 5 0)), (1, .int a1)] := hl
  have hU : k_Uv D G ad (k_uc u 5 w) s.heap := by rw [← hw, k_uc_id]; exact hU
  have J102 : ∀ (H : Heap) (locs : List Loc) (ls : Array Slot) (w : k_M) (a3 : Int32), k_Uv D G ad (k_uc u 5 w) H → va_S (k_A ad sz) s.heap H locs → lv_has ls 4 [(0, .ref (ad 5 0)), (3, .int a3)] → f_X11_writesChute_102 w a1 a3 = some r → W p l e rm_X11_writesChute s m args below meth c H locs 0 0 (MQ below (k_Qv D G ad (k_uc u 5 r) sz) args s 0 0 (k_A ad sz)) (F0 m 102 ls []) := by
    intro H locs ls w a3 hU hS hl hf
    unfold f_X11_writesChute_102 at hf
    refine lv_aload_n X.1 X.2.1 dX11_writesChute_102 rfl (lv_at hl 0 rfl) ?_
    refine lv_bipush (v := 48) X.1 X.2.1 dX11_writesChute_103 (by decide) ?_
    refine lv_iload_n X.1 X.2.1 dX11_writesChute_105 rfl (lv_at hl 1 rfl) ?_
    refine lv_bipush (v := 10) X.1 X.2.1 dX11_writesChute_106 (by decide) ?_
    refine lv_irem X.1 X.2.1 dX11_writesChute_108 (by decide) ?_
    refine lv_iadd X.1 X.2.1 dX11_writesChute_109 ?_
    obtain ⟨r110, hr110, hf⟩ := k_bdE hf
    refine k_backv X hS (k_runV (As := [.int (48 + (a3 - a3 / 10 * 10))]) (rest := []) X hS hU sh_5_0 (by decide) rfl vl_X11_397 (c_X11_writes X.2.2.2.2.2.2.1 (k_uc_s _ _ _) hr110) rfl rfl rfl hl.1 ⟨Nat.le_of_ble_eq_true rfl, Nat.le_of_ble_eq_true rfl⟩ (Nat.le_of_ble_eq_true rfl) dX11_writesChute_110 ⟨Nat.zero_le _, Nat.zero_le _⟩) (fun H locs hU hS => ?_)
    rw [k_uc_uc] at hU
    have hz := Option.some.inj hf
    subst hz
    exact k_vret X hU hS hr hlk dX11_writesChute_113
  have J77 : ∀ (H : Heap) (locs : List Loc) (ls : Array Slot) (w : k_M) (a1 : Int32), k_Uv D G ad (k_uc u 5 w) H → va_S (k_A ad sz) s.heap H locs → lv_has ls 4 [(0, .ref (ad 5 0)), (1, .int a1)] → f_X11_writesChute_77 w a1 = some r → W p l e rm_X11_writesChute s m args below meth c H locs 0 0 (MQ below (k_Qv D G ad (k_uc u 5 r) sz) args s 0 0 (k_A ad sz)) (F0 m 77 ls []) := by
    intro H locs ls w a1 hU hS hl hf
    unfold f_X11_writesChute_77 at hf
    refine lv_aload_n X.1 X.2.1 dX11_writesChute_77 rfl (lv_at hl 0 rfl) ?_
    refine k_getw (v := .ref (ad 5 1)) X hU sh_5_0 fl_X11_7 rfl dX11_writesChute_78 ?_
    refine lv_bipush (v := 74) X.1 X.2.1 dX11_writesChute_81 (by decide) ?_
    refine lv_iload_n X.1 X.2.1 dX11_writesChute_83 rfl (lv_at hl 1 rfl) ?_
    refine lv_iadd X.1 X.2.1 dX11_writesChute_84 ?_
    obtain ⟨hi85, hf⟩ := k_ckE hf
    refine k_ildw (j0 := (74 + a1).toNatClampNeg) X hU sh_5_1 (k_vin (n := 268) hi85 (by decide)) rfl dX11_writesChute_85 ?_
    obtain ⟨r86, hr86, hf⟩ := k_bdE hf
    refine k_backi X hS (k_runS (As := [.int (w 1 ((74 + a1).toNatClampNeg))]) (rest := []) X hS hU sl_X11_100 (c_X11_bits X.2.2.2.2.2.2.1 hr86) rfl rfl rfl hl.1 ⟨Nat.le_of_ble_eq_true rfl, Nat.le_of_ble_eq_true rfl⟩ (Nat.le_of_ble_eq_true rfl) dX11_writesChute_86 ⟨Nat.zero_le _, Nat.zero_le _⟩) (fun H locs hU hS => ?_)
    refine lv_istore_n (lv' := [(3, .int r86), (0, .ref (ad 5 0)), (1, .int a1)]) X.1 X.2.1 dX11_writesChute_89 rfl hl (by decide) rfl (fun ls hl => ?_)
    refine lv_iload_n X.1 X.2.1 dX11_writesChute_90 rfl (lv_at hl 0 rfl) ?_
    refine lv_bipush (v := 9) X.1 X.2.1 dX11_writesChute_91 (by decide) ?_
    refine lv_icmp_le (tgt := 102) X.1 X.2.1 dX11_writesChute_93 (by decide) (fun c93 => ?_) (fun c93 => ?_)
    · replace hf := k_ifP hf c93
      exact J102 _ _ _ w r86 hU hS (lv_sub hl [1, 0] rfl) hf
    · replace hf := k_ifN hf c93
      refine lv_aload_n X.1 X.2.1 dX11_writesChute_96 rfl (lv_at hl 1 rfl) ?_
      refine lv_bipush (v := 49) X.1 X.2.1 dX11_writesChute_97 (by decide) ?_
      obtain ⟨r99, hr99, hf⟩ := k_bdE hf
      refine k_backv X hS (k_runV (As := [.int 49]) (rest := []) X hS hU sh_5_0 (by decide) rfl vl_X11_397 (c_X11_writes X.2.2.2.2.2.2.1 (k_uc_s _ _ _) hr99) rfl rfl rfl hl.1 ⟨Nat.le_of_ble_eq_true rfl, Nat.le_of_ble_eq_true rfl⟩ (Nat.le_of_ble_eq_true rfl) dX11_writesChute_99 ⟨Nat.zero_le _, Nat.zero_le _⟩) (fun H locs hU hS => ?_)
      rw [k_uc_uc] at hU
      exact J102 _ _ _ r99 r86 hU hS (lv_sub hl [1, 0] rfl) hf
  have J64 : ∀ (H : Heap) (locs : List Loc) (ls : Array Slot) (w : k_M) (a1 : Int32) (a2 : Int32) (as0 : Int32), k_Uv D G ad (k_uc u 5 w) H → va_S (k_A ad sz) s.heap H locs → lv_has ls 4 [(0, .ref (ad 5 0)), (1, .int a1), (2, .int a2)] → f_X11_writesChute_64 w a1 a2 as0 = some r → W p l e rm_X11_writesChute s m args below meth c H locs 0 0 (MQ below (k_Qv D G ad (k_uc u 5 r) sz) args s 0 0 (k_A ad sz)) (F0 m 64 ls [.int as0, .ref (ad 5 0)]) := by
    intro H locs ls w a1 a2 as0 hU hS hl hf
    unfold f_X11_writesChute_64 at hf
    obtain ⟨r64, hr64, hf⟩ := k_bdE hf
    refine k_backv X hS (k_runV (As := [.int as0]) (rest := []) X hS hU sh_5_0 (by decide) rfl vl_X11_397 (c_X11_writes X.2.2.2.2.2.2.1 (k_uc_s _ _ _) hr64) rfl rfl rfl hl.1 ⟨Nat.le_of_ble_eq_true rfl, Nat.le_of_ble_eq_true rfl⟩ (Nat.le_of_ble_eq_true rfl) dX11_writesChute_64 ⟨Nat.zero_le _, Nat.zero_le _⟩) (fun H locs hU hS => ?_)
    rw [k_uc_uc] at hU
    refine lv_iload_n X.1 X.2.1 dX11_writesChute_67 rfl (lv_at hl 2 rfl) ?_
    refine lv_if_eq (tgt := 77) X.1 X.2.1 dX11_writesChute_68 (by decide) (fun c68 => ?_) (fun c68 => ?_)
    · replace hf := k_ifP hf c68
      exact J77 _ _ _ r64 a1 hU hS (lv_sub hl [0, 1] rfl) hf
    · replace hf := k_ifN hf c68
      refine lv_iload_n X.1 X.2.1 dX11_writesChute_71 rfl (lv_at hl 2 rfl) ?_
      refine lv_iconst (v := 1) X.1 X.2.1 dX11_writesChute_72 (by decide) ?_
      refine lv_icmp_eq (tgt := 77) X.1 X.2.1 dX11_writesChute_73 (by decide) (fun c73 => ?_) (fun c73 => ?_)
      · replace hf := k_ifP hf c73
        exact J77 _ _ _ r64 a1 hU hS (lv_sub hl [0, 1] rfl) hf
      · replace hf := k_ifN hf c73
        have hz := Option.some.inj hf
        subst hz
        exact k_vret X hU hS hr hlk dX11_writesChute_76
  have J22 : ∀ (H : Heap) (locs : List Loc) (ls : Array Slot) (w : k_M) (a1 : Int32) (a2 : Int32), k_Uv D G ad (k_uc u 5 w) H → va_S (k_A ad sz) s.heap H locs → lv_has ls 4 [(0, .ref (ad 5 0)), (1, .int a1), (2, .int a2)] → f_X11_writesChute_22 w a1 a2 = some r → W p l e rm_X11_writesChute s m args below meth c H locs 0 0 (MQ below (k_Qv D G ad (k_uc u 5 r) sz) args s 0 0 (k_A ad sz)) (F0 m 22 ls []) := by
    intro H locs ls w a1 a2 hU hS hl hf
    unfold f_X11_writesChute_22 at hf
    refine lv_aload_n X.1 X.2.1 dX11_writesChute_22 rfl (lv_at hl 0 rfl) ?_
    refine lv_iload_n X.1 X.2.1 dX11_writesChute_23 rfl (lv_at hl 2 rfl) ?_
    refine lv_if_ne (tgt := 32) X.1 X.2.1 dX11_writesChute_24 (by decide) (fun c24 => ?_) (fun c24 => ?_)
    · replace hf := k_ifN hf c24
      refine lv_iload_n X.1 X.2.1 dX11_writesChute_32 rfl (lv_at hl 2 rfl) ?_
      refine lv_iconst (v := 1) X.1 X.2.1 dX11_writesChute_33 (by decide) ?_
      refine lv_icmp_ne (tgt := 42) X.1 X.2.1 dX11_writesChute_34 (by decide) (fun c34 => ?_) (fun c34 => ?_)
      · replace hf := k_ifN hf c34
        refine lv_iload_n X.1 X.2.1 dX11_writesChute_42 rfl (lv_at hl 2 rfl) ?_
        refine lv_iconst (v := 2) X.1 X.2.1 dX11_writesChute_43 (by decide) ?_
        refine lv_icmp_ne (tgt := 52) X.1 X.2.1 dX11_writesChute_44 (by decide) (fun c44 => ?_) (fun c44 => ?_)
        · replace hf := k_ifN hf c44
          refine lv_iload_n X.1 X.2.1 dX11_writesChute_52 rfl (lv_at hl 2 rfl) ?_
          refine lv_iconst (v := 3) X.1 X.2.1 dX11_writesChute_53 (by decide) ?_
          refine lv_icmp_ne (tgt := 62) X.1 X.2.1 dX11_writesChute_54 (by decide) (fun c54 => ?_) (fun c54 => ?_)
          · replace hf := k_ifN hf c54
            refine lv_bipush (v := 67) X.1 X.2.1 dX11_writesChute_62 (by decide) ?_
            exact J64 _ _ _ w a1 a2 67 hU hS (lv_sub hl [0, 1, 2] rfl) hf
          · replace hf := k_ifP hf c54
            refine lv_bipush (v := 74) X.1 X.2.1 dX11_writesChute_57 (by decide) ?_
            refine lv_goto (tgt := 64) X.1 X.2.1 dX11_writesChute_59 (by decide) ?_
            exact J64 _ _ _ w a1 a2 74 hU hS (lv_sub hl [0, 1, 2] rfl) hf
        · replace hf := k_ifP hf c44
          refine lv_bipush (v := 84) X.1 X.2.1 dX11_writesChute_47 (by decide) ?_
          refine lv_goto (tgt := 64) X.1 X.2.1 dX11_writesChute_49 (by decide) ?_
          exact J64 _ _ _ w a1 a2 84 hU hS (lv_sub hl [0, 1, 2] rfl) hf
      · replace hf := k_ifP hf c34
        refine lv_bipush (v := 79) X.1 X.2.1 dX11_writesChute_37 (by decide) ?_
        refine lv_goto (tgt := 64) X.1 X.2.1 dX11_writesChute_39 (by decide) ?_
        exact J64 _ _ _ w a1 a2 79 hU hS (lv_sub hl [0, 1, 2] rfl) hf
    · replace hf := k_ifP hf c24
      refine lv_bipush (v := 80) X.1 X.2.1 dX11_writesChute_27 (by decide) ?_
      refine lv_goto (tgt := 64) X.1 X.2.1 dX11_writesChute_29 (by decide) ?_
      exact J64 _ _ _ w a1 a2 80 hU hS (lv_sub hl [0, 1, 2] rfl) hf
  unfold f_X11_writesChute at hf
  refine lv_aload_n X.1 X.2.1 dX11_writesChute_0 rfl (lv_at hl 0 rfl) ?_
  refine k_getw (v := .ref (ad 5 1)) X hU sh_5_0 fl_X11_7 rfl dX11_writesChute_1 ?_
  refine lv_bipush (v := 65) X.1 X.2.1 dX11_writesChute_4 (by decide) ?_
  refine lv_iload_n X.1 X.2.1 dX11_writesChute_6 rfl (lv_at hl 1 rfl) ?_
  refine lv_iadd X.1 X.2.1 dX11_writesChute_7 ?_
  obtain ⟨hi8, hf⟩ := k_ckE hf
  refine k_ildw (j0 := (65 + a1).toNatClampNeg) X hU sh_5_1 (k_vin (n := 268) hi8 (by decide)) rfl dX11_writesChute_8 ?_
  obtain ⟨x9, e9, hf⟩ := k_ltE hf
  refine k_nmi e9 ?_
  refine lv_istore_n (lv' := [(2, .int x9), (0, .ref (ad 5 0)), (1, .int a1)]) X.1 X.2.1 dX11_writesChute_9 rfl hl (by decide) rfl (fun ls hl => ?_)
  refine lv_iload_n X.1 X.2.1 dX11_writesChute_10 rfl (lv_at hl 2 rfl) ?_
  refine lv_bipush (v := 8) X.1 X.2.1 dX11_writesChute_11 (by decide) ?_
  refine lv_icmp_ne (tgt := 22) X.1 X.2.1 dX11_writesChute_13 (by decide) (fun c13 => ?_) (fun c13 => ?_)
  · replace hf := k_ifN hf c13
    exact J22 _ _ _ w a1 x9 hU hS (lv_sub hl [1, 2, 0] rfl) hf
  · replace hf := k_ifP hf c13
    refine lv_aload_n X.1 X.2.1 dX11_writesChute_16 rfl (lv_at hl 1 rfl) ?_
    refine lv_bipush (v := 82) X.1 X.2.1 dX11_writesChute_17 (by decide) ?_
    obtain ⟨r19, hr19, hf⟩ := k_bdE hf
    refine k_backv X hS (k_runV (As := [.int 82]) (rest := []) X hS hU sh_5_0 (by decide) rfl vl_X11_397 (c_X11_writes X.2.2.2.2.2.2.1 (k_uc_s _ _ _) hr19) rfl rfl rfl hl.1 ⟨Nat.le_of_ble_eq_true rfl, Nat.le_of_ble_eq_true rfl⟩ (Nat.le_of_ble_eq_true rfl) dX11_writesChute_19 ⟨Nat.zero_le _, Nat.zero_le _⟩) (fun H locs hU hS => ?_)
    rw [k_uc_uc] at hU
    exact J22 _ _ _ r19 a1 x9 hU hS (lv_sub hl [1, 2, 0] rfl) hf
def rm_X11_write : Room := { frames := 2, cells := 0, slots := 0, locals := 45 }
set_option maxRecDepth 100000 in
set_option maxHeartbeats 4000000 in
theorem c_X11_write {l : Launch} {D : va_G} {G : Nat → ClassId} {ad : Nat → Nat → Nat} {u : k_U} (hI : k_ok ad) {w : k_M} (hw : u 5 = w) {sz : Nat} {r : (k_M × Int32)} (hf : f_X11_write w = some r) : Met l yX11_write (.code yX11_write cX11_write 2 (some .int) :: lw_g) rm_X11_write (k_Pre D G ad u sz [.ref (ad 5 0)]) (k_Qi D G ad (k_uc u 5 r.1) r.2 sz) 0 0 (k_A ad sz) := by
  refine k_ofW (by decide +kernel) hI (Nat.le_of_ble_eq_true rfl) ?_
  intro p e s m args below meth c X hr hlk hU hS ls hl
  have hl : lv_has ls 2 [(0, .ref (ad 5 0))] := hl
  have hU : k_Uv D G ad (k_uc u 5 w) s.heap := by rw [← hw, k_uc_id]; exact hU
  have L12 : ∀ (n12 : Nat) (H : Heap) (locs : List Loc) (ls : Array Slot) (w : k_M) (a1 : Int32), k_Uv D G ad (k_uc u 5 w) H → va_S (k_A ad sz) s.heap H locs → lv_has ls 2 [(0, .ref (ad 5 0)), (1, .int a1)] → f_X11_write_12 n12 w a1 = some r → W p l e rm_X11_write s m args below meth c H locs 0 0 (MQ below (k_Qi D G ad (k_uc u 5 r.1) r.2 sz) args s 0 0 (k_A ad sz)) (F0 m 12 ls []) := by
    intro n12
    induction n12 with
    | zero =>
      intro H locs ls w a1 hU hS hl hf
      cases (show none = some r from hf)
    | succ n12 ih12 =>
      have J30 : ∀ (H : Heap) (locs : List Loc) (ls : Array Slot) (w : k_M) (a1 : Int32), k_Uv D G ad (k_uc u 5 w) H → va_S (k_A ad sz) s.heap H locs → lv_has ls 2 [(0, .ref (ad 5 0)), (1, .int a1)] → f_X11_write_30 (f_X11_write_12 n12) w a1 = some r → W p l e rm_X11_write s m args below meth c H locs 0 0 (MQ below (k_Qi D G ad (k_uc u 5 r.1) r.2 sz) args s 0 0 (k_A ad sz)) (F0 m 30 ls []) := by
        intro H locs ls w a1 hU hS hl hf
        unfold f_X11_write_30 at hf
        refine lv_aload_n X.1 X.2.1 dX11_write_30 rfl (lv_at hl 0 rfl) ?_
        refine lv_aload_n X.1 X.2.1 dX11_write_31 rfl (lv_at hl 0 rfl) ?_
        refine lv_iload_n X.1 X.2.1 dX11_write_32 rfl (lv_at hl 1 rfl) ?_
        obtain ⟨r33, hr33, hf⟩ := k_bdE hf
        refine k_backi X hS (k_runV (As := [.int a1]) (rest := [.ref (ad 5 0)]) X hS hU sh_5_0 (by decide) rfl vl_X11_188 (c_X11_placeOf X.2.2.2.2.2.2.1 (k_uc_s _ _ _) hr33) rfl rfl rfl hl.1 ⟨Nat.le_of_ble_eq_true rfl, Nat.le_of_ble_eq_true rfl⟩ (Nat.le_of_ble_eq_true rfl) dX11_write_33 ⟨Nat.zero_le _, Nat.zero_le _⟩) (fun H locs hU hS => ?_)
        obtain ⟨r36, hr36, hf⟩ := k_bdE hf
        refine k_backv X hS (k_runV (As := [.int r33]) (rest := []) X hS hU sh_5_0 (by decide) rfl vl_X11_400 (c_X11_writesChute X.2.2.2.2.2.2.1 (k_uc_s _ _ _) hr36) rfl rfl rfl hl.1 ⟨Nat.le_of_ble_eq_true rfl, Nat.le_of_ble_eq_true rfl⟩ (Nat.le_of_ble_eq_true rfl) dX11_write_36 ⟨Nat.zero_le _, Nat.zero_le _⟩) (fun H locs hU hS => ?_)
        rw [k_uc_uc] at hU
        obtain ⟨x39, e39, hf⟩ := k_ltE hf
        refine lv_iinc (v := x39) (lv' := [(1, .int x39), (0, .ref (ad 5 0))]) X.1 X.2.1 dX11_write_39 hl (k := 1) rfl (by rw [e39]; rfl) (by decide) rfl (fun ls hl => ?_)
        refine lv_goto (tgt := 12) X.1 X.2.1 dX11_write_42 (by decide) ?_
        exact ih12 _ _ _ r36 x39 hU hS (lv_sub hl [1, 0] rfl) hf
      intro H locs ls w a1 hU hS hl hf
      replace hf : f_X11_write_12_b (f_X11_write_12 n12) w a1 = some r := hf
      unfold f_X11_write_12_b at hf
      refine lv_iload_n X.1 X.2.1 dX11_write_12 rfl (lv_at hl 1 rfl) ?_
      refine lv_aload_n X.1 X.2.1 dX11_write_13 rfl (lv_at hl 0 rfl) ?_
      obtain ⟨r14, hr14, hf⟩ := k_bdE hf
      refine k_backi X hS (k_runV (As := []) (rest := [.int a1]) X hS hU sh_5_0 (by decide) rfl vl_X11_53 (c_X11_chutes X.2.2.2.2.2.2.1 (k_uc_s _ _ _) hr14) rfl rfl rfl hl.1 ⟨Nat.le_of_ble_eq_true rfl, Nat.le_of_ble_eq_true rfl⟩ (Nat.le_of_ble_eq_true rfl) dX11_write_14 ⟨Nat.zero_le _, Nat.zero_le _⟩) (fun H locs hU hS => ?_)
      refine lv_icmp_ge (tgt := 45) X.1 X.2.1 dX11_write_17 (by decide) (fun c17 => ?_) (fun c17 => ?_)
      · replace hf := k_ifP hf c17
        refine lv_aload_n X.1 X.2.1 dX11_write_45 rfl (lv_at hl 0 rfl) ?_
        refine k_getw (v := .int (w 0 21)) X hU sh_5_0 fl_X11_394 rfl dX11_write_46 ?_
        have hz := Option.some.inj hf
        subst hz
        exact k_iret (v := w 0 21) X hU hS hr hlk rfl rfl dX11_write_49
      · replace hf := k_ifN hf c17
        refine lv_iload_n X.1 X.2.1 dX11_write_20 rfl (lv_at hl 1 rfl) ?_
        refine lv_if_le (tgt := 30) X.1 X.2.1 dX11_write_21 (by decide) (fun c21 => ?_) (fun c21 => ?_)
        · replace hf := k_ifP hf c21
          exact J30 _ _ _ w a1 hU hS (lv_sub hl [0, 1] rfl) hf
        · replace hf := k_ifN hf c21
          refine lv_aload_n X.1 X.2.1 dX11_write_24 rfl (lv_at hl 0 rfl) ?_
          refine lv_bipush (v := 32) X.1 X.2.1 dX11_write_25 (by decide) ?_
          obtain ⟨r27, hr27, hf⟩ := k_bdE hf
          refine k_backv X hS (k_runV (As := [.int 32]) (rest := []) X hS hU sh_5_0 (by decide) rfl vl_X11_397 (c_X11_writes X.2.2.2.2.2.2.1 (k_uc_s _ _ _) hr27) rfl rfl rfl hl.1 ⟨Nat.le_of_ble_eq_true rfl, Nat.le_of_ble_eq_true rfl⟩ (Nat.le_of_ble_eq_true rfl) dX11_write_27 ⟨Nat.zero_le _, Nat.zero_le _⟩) (fun H locs hU hS => ?_)
          rw [k_uc_uc] at hU
          exact J30 _ _ _ r27 a1 hU hS (lv_sub hl [0, 1] rfl) hf
  unfold f_X11_write at hf
  refine lv_aload_n X.1 X.2.1 dX11_write_0 rfl (lv_at hl 0 rfl) ?_
  refine lv_iconst (v := 0) X.1 X.2.1 dX11_write_1 (by decide) ?_
  obtain ⟨w2, e2, hf⟩ := k_ltE hf
  refine k_putw X hU hS sh_5_0 fp_X11_50 rfl e2 rfl rfl dX11_write_2 (fun H locs hU hS => ?_)
  refine lv_aload_n X.1 X.2.1 dX11_write_5 rfl (lv_at hl 0 rfl) ?_
  refine lv_iconst (v := 0) X.1 X.2.1 dX11_write_6 (by decide) ?_
  obtain ⟨w7, e7, hf⟩ := k_ltE hf
  refine k_putw X hU hS sh_5_0 fp_X11_394 rfl e7 rfl rfl dX11_write_7 (fun H locs hU hS => ?_)
  refine lv_iconst (v := 0) X.1 X.2.1 dX11_write_10 (by decide) ?_
  refine lv_istore_n (lv' := [(1, .int 0), (0, .ref (ad 5 0))]) X.1 X.2.1 dX11_write_11 rfl hl (by decide) rfl (fun ls hl => ?_)
  exact L12 k_N _ _ _ w7 0 hU hS (lv_sub hl [1, 0] rfl) hf
def rm_X11_output : Room := { frames := 1, cells := 0, slots := 0, locals := 22 }
set_option maxRecDepth 100000 in
set_option maxHeartbeats 4000000 in
theorem c_X11_output {l : Launch} {D : va_G} {G : Nat → ClassId} {ad : Nat → Nat → Nat} {u : k_U} (hI : k_ok ad) {w : k_M} (hw : u 5 = w) {a1 : Int32} {sz : Nat} {r : (k_M × Int32)} (hf : f_X11_output w a1 = some r) : Met l yX11_output (.code yX11_output cX11_output 2 (some .int) :: lw_g) rm_X11_output (k_Pre D G ad u sz [.ref (ad 5 0), .int a1]) (k_Qi D G ad (k_uc u 5 r.1) r.2 sz) 0 0 (k_A ad sz) := by
  refine k_ofW (by decide +kernel) hI (Nat.le_of_ble_eq_true rfl) ?_
  intro p e s m args below meth c X hr hlk hU hS ls hl
  have hl : lv_has ls 2 [(0, .ref (ad 5 0)), (1, .int a1)] := hl
  have hU : k_Uv D G ad (k_uc u 5 w) s.heap := by rw [← hw, k_uc_id]; exact hU
  have J25 : ∀ (H : Heap) (locs : List Loc) (ls : Array Slot) (w : k_M) (a1 : Int32) (as0 : Int32), k_Uv D G ad (k_uc u 5 w) H → va_S (k_A ad sz) s.heap H locs → lv_has ls 2 [(0, .ref (ad 5 0)), (1, .int a1)] → f_X11_output_25 w a1 as0 = some r → W p l e rm_X11_output s m args below meth c H locs 0 0 (MQ below (k_Qi D G ad (k_uc u 5 r.1) r.2 sz) args s 0 0 (k_A ad sz)) (F0 m 25 ls [.int as0, .ref (ad 5 0)]) := by
    intro H locs ls w a1 as0 hU hS hl hf
    unfold f_X11_output_25 at hf
    refine lv_iconst (v := 1) X.1 X.2.1 dX11_output_25 (by decide) ?_
    obtain ⟨r26, hr26, hf⟩ := k_bdE hf
    refine k_backi X hS (k_runV (As := [.int as0, .int 1]) (rest := []) X hS hU sh_5_0 (by decide) rfl vl_X11_61 (c_X11_throwsIf X.2.2.2.2.2.2.1 (k_uc_s _ _ _) hr26) rfl rfl rfl hl.1 ⟨Nat.le_of_ble_eq_true rfl, Nat.le_of_ble_eq_true rfl⟩ (Nat.le_of_ble_eq_true rfl) dX11_output_26 ⟨Nat.zero_le _, Nat.zero_le _⟩) (fun H locs hU hS => ?_)
    rw [k_uc_uc] at hU
    refine lv_if_eq (tgt := 36) X.1 X.2.1 dX11_output_29 (by decide) (fun c29 => ?_) (fun c29 => ?_)
    · replace hf := k_ifP hf c29
      refine lv_aload_n X.1 X.2.1 dX11_output_36 rfl (lv_at hl 0 rfl) ?_
      refine k_getw (v := .ref (ad 5 20)) X hU sh_5_0 fl_X11_43 rfl dX11_output_37 ?_
      refine lv_iload_n X.1 X.2.1 dX11_output_40 rfl (lv_at hl 1 rfl) ?_
      obtain ⟨hi41, hf⟩ := k_ckE hf
      refine k_ildw (j0 := a1.toNatClampNeg) X hU sh_5_20 (k_vin (n := 60) hi41 (by decide)) rfl dX11_output_41 ?_
      have hz := Option.some.inj hf
      subst hz
      exact k_iret (v := r26.1 20 a1.toNatClampNeg) X hU hS hr hlk rfl rfl dX11_output_42
    · replace hf := k_ifN hf c29
      refine lv_iconst (v := 0) X.1 X.2.1 dX11_output_32 (by decide) ?_
      refine lv_goto (tgt := 42) X.1 X.2.1 dX11_output_33 (by decide) ?_
      have hz := Option.some.inj hf
      subst hz
      exact k_iret (v := 0) X hU hS hr hlk rfl rfl dX11_output_42
  unfold f_X11_output at hf
  refine lv_aload_n X.1 X.2.1 dX11_output_0 rfl (lv_at hl 0 rfl) ?_
  refine lv_iconst (v := 0) X.1 X.2.1 dX11_output_1 (by decide) ?_
  obtain ⟨w2, e2, hf⟩ := k_ltE hf
  refine k_putw X hU hS sh_5_0 fp_X11_50 rfl e2 rfl rfl dX11_output_2 (fun H locs hU hS => ?_)
  refine lv_aload_n X.1 X.2.1 dX11_output_5 rfl (lv_at hl 0 rfl) ?_
  refine lv_iload_n X.1 X.2.1 dX11_output_6 rfl (lv_at hl 1 rfl) ?_
  refine lv_iconst (v := 0) X.1 X.2.1 dX11_output_7 (by decide) ?_
  refine lv_aload_n X.1 X.2.1 dX11_output_8 rfl (lv_at hl 0 rfl) ?_
  refine k_getw (v := .int (w2 0 21)) X hU sh_5_0 fl_X11_394 rfl dX11_output_9 ?_
  refine lv_iconst (v := 1) X.1 X.2.1 dX11_output_12 (by decide) ?_
  refine lv_isub X.1 X.2.1 dX11_output_13 ?_
  obtain ⟨r14, hr14, hf⟩ := k_bdE hf
  refine k_backi X hS (k_runS (As := [.int a1, .int 0, .int ((w2 0 21) - 1)]) (rest := [.ref (ad 5 0)]) X hS hU sl_X11_57 (c_X11_within X.2.2.2.2.2.2.1 hr14) rfl rfl rfl hl.1 ⟨Nat.le_of_ble_eq_true rfl, Nat.le_of_ble_eq_true rfl⟩ (Nat.le_of_ble_eq_true rfl) dX11_output_14 ⟨Nat.zero_le _, Nat.zero_le _⟩) (fun H locs hU hS => ?_)
  refine lv_if_ne (tgt := 24) X.1 X.2.1 dX11_output_17 (by decide) (fun c17 => ?_) (fun c17 => ?_)
  · replace hf := k_ifN hf c17
    refine lv_iconst (v := 0) X.1 X.2.1 dX11_output_24 (by decide) ?_
    exact J25 _ _ _ w2 a1 0 hU hS (lv_sub hl [0, 1] rfl) hf
  · replace hf := k_ifP hf c17
    refine lv_iconst (v := 1) X.1 X.2.1 dX11_output_20 (by decide) ?_
    refine lv_goto (tgt := 25) X.1 X.2.1 dX11_output_21 (by decide) ?_
    exact J25 _ _ _ w2 a1 1 hU hS (lv_sub hl [0, 1] rfl) hf
def rm_X11_undo : Room := { frames := 1, cells := 0, slots := 0, locals := 24 }
set_option maxRecDepth 100000 in
set_option maxHeartbeats 4000000 in
theorem c_X11_undo {l : Launch} {D : va_G} {G : Nat → ClassId} {ad : Nat → Nat → Nat} {u : k_U} (hI : k_ok ad) {w : k_M} (hw : u 5 = w) {sz : Nat} {r : (k_M × Int32)} (hf : f_X11_undo w = some r) : Met l yX11_undo (.code yX11_undo cX11_undo 1 (some .int) :: lw_g) rm_X11_undo (k_Pre D G ad u sz [.ref (ad 5 0)]) (k_Qi D G ad (k_uc u 5 r.1) r.2 sz) 0 0 (k_A ad sz) := by
  refine k_ofW (by decide +kernel) hI (Nat.le_of_ble_eq_true rfl) ?_
  intro p e s m args below meth c X hr hlk hU hS ls hl
  have hl : lv_has ls 1 [(0, .ref (ad 5 0))] := hl
  have hU : k_Uv D G ad (k_uc u 5 w) s.heap := by rw [← hw, k_uc_id]; exact hU
  have J18 : ∀ (H : Heap) (locs : List Loc) (ls : Array Slot) (w : k_M) (as0 : Int32), k_Uv D G ad (k_uc u 5 w) H → va_S (k_A ad sz) s.heap H locs → lv_has ls 1 [(0, .ref (ad 5 0))] → f_X11_undo_18 w as0 = some r → W p l e rm_X11_undo s m args below meth c H locs 0 0 (MQ below (k_Qi D G ad (k_uc u 5 r.1) r.2 sz) args s 0 0 (k_A ad sz)) (F0 m 18 ls [.int as0, .ref (ad 5 0)]) := by
    intro H locs ls w as0 hU hS hl hf
    unfold f_X11_undo_18 at hf
    refine lv_iconst (v := 1) X.1 X.2.1 dX11_undo_18 (by decide) ?_
    obtain ⟨r19, hr19, hf⟩ := k_bdE hf
    refine k_backi X hS (k_runV (As := [.int as0, .int 1]) (rest := []) X hS hU sh_5_0 (by decide) rfl vl_X11_61 (c_X11_throwsIf X.2.2.2.2.2.2.1 (k_uc_s _ _ _) hr19) rfl rfl rfl hl.1 ⟨Nat.le_of_ble_eq_true rfl, Nat.le_of_ble_eq_true rfl⟩ (Nat.le_of_ble_eq_true rfl) dX11_undo_19 ⟨Nat.zero_le _, Nat.zero_le _⟩) (fun H locs hU hS => ?_)
    rw [k_uc_uc] at hU
    refine lv_if_eq (tgt := 27) X.1 X.2.1 dX11_undo_22 (by decide) (fun c22 => ?_) (fun c22 => ?_)
    · replace hf := k_ifP hf c22
      refine lv_aload_n X.1 X.2.1 dX11_undo_27 rfl (lv_at hl 0 rfl) ?_
      refine lv_dup X.1 X.2.1 dX11_undo_28 rfl ?_
      refine k_getw (v := .int (r19.1 0 8)) X hU sh_5_0 fl_X11_176 rfl dX11_undo_29 ?_
      refine lv_iconst (v := 1) X.1 X.2.1 dX11_undo_32 (by decide) ?_
      refine lv_isub X.1 X.2.1 dX11_undo_33 ?_
      obtain ⟨w34, e34, hf⟩ := k_ltE hf
      refine k_putw X hU hS sh_5_0 fp_X11_176 rfl e34 rfl rfl dX11_undo_34 (fun H locs hU hS => ?_)
      refine lv_aload_n X.1 X.2.1 dX11_undo_37 rfl (lv_at hl 0 rfl) ?_
      refine k_getw (v := .ref (ad 5 4)) X hU sh_5_0 fl_X11_19 rfl dX11_undo_38 ?_
      refine lv_sipush (v := 268) X.1 X.2.1 dX11_undo_41 (by decide) ?_
      refine lv_aload_n X.1 X.2.1 dX11_undo_44 rfl (lv_at hl 0 rfl) ?_
      refine k_getw (v := .int (w34 0 8)) X hU sh_5_0 fl_X11_176 rfl dX11_undo_45 ?_
      refine lv_imul X.1 X.2.1 dX11_undo_48 ?_
      refine lv_aload_n X.1 X.2.1 dX11_undo_49 rfl (lv_at hl 0 rfl) ?_
      refine k_getw (v := .ref (ad 5 1)) X hU sh_5_0 fl_X11_7 rfl dX11_undo_50 ?_
      refine lv_iconst (v := 0) X.1 X.2.1 dX11_undo_53 (by decide) ?_
      obtain ⟨r54, hr54, hf⟩ := k_bdE hf
      refine k_backv X hS (k_runS (As := [.ref (ad 5 4), .int (268 * (w34 0 8)), .ref (ad 5 1), .int 0]) (rest := []) X hS hU sl_X11_200 (c_X11_copies X.2.2.2.2.2.2.1 (k_uc_s _ _ _) sh_5_4 (by decide) sh_5_1 (by decide) hr54) rfl rfl rfl hl.1 ⟨Nat.le_of_ble_eq_true rfl, Nat.le_of_ble_eq_true rfl⟩ (Nat.le_of_ble_eq_true rfl) dX11_undo_54 ⟨Nat.zero_le _, Nat.zero_le _⟩) (fun H locs hU hS => ?_)
      rw [k_uc_uc] at hU
      refine lv_aload_n X.1 X.2.1 dX11_undo_57 rfl (lv_at hl 0 rfl) ?_
      refine k_getw (v := .int (r54 0 8)) X hU sh_5_0 fl_X11_176 rfl dX11_undo_58 ?_
      have hz := Option.some.inj hf
      subst hz
      exact k_iret (v := r54 0 8) X hU hS hr hlk rfl rfl dX11_undo_61
    · replace hf := k_ifN hf c22
      refine lv_iconst (v := 0) X.1 X.2.1 dX11_undo_25 (by decide) ?_
      have hz := Option.some.inj hf
      subst hz
      exact k_iret (v := 0) X hU hS hr hlk rfl rfl dX11_undo_26
  unfold f_X11_undo at hf
  refine lv_aload_n X.1 X.2.1 dX11_undo_0 rfl (lv_at hl 0 rfl) ?_
  refine lv_iconst (v := 0) X.1 X.2.1 dX11_undo_1 (by decide) ?_
  obtain ⟨w2, e2, hf⟩ := k_ltE hf
  refine k_putw X hU hS sh_5_0 fp_X11_50 rfl e2 rfl rfl dX11_undo_2 (fun H locs hU hS => ?_)
  refine lv_aload_n X.1 X.2.1 dX11_undo_5 rfl (lv_at hl 0 rfl) ?_
  refine lv_aload_n X.1 X.2.1 dX11_undo_6 rfl (lv_at hl 0 rfl) ?_
  refine k_getw (v := .int (w2 0 8)) X hU sh_5_0 fl_X11_176 rfl dX11_undo_7 ?_
  refine lv_if_ne (tgt := 17) X.1 X.2.1 dX11_undo_10 (by decide) (fun c10 => ?_) (fun c10 => ?_)
  · replace hf := k_ifN hf c10
    refine lv_iconst (v := 0) X.1 X.2.1 dX11_undo_17 (by decide) ?_
    exact J18 _ _ _ w2 0 hU hS (lv_sub hl [0] rfl) hf
  · replace hf := k_ifP hf c10
    refine lv_iconst (v := 1) X.1 X.2.1 dX11_undo_13 (by decide) ?_
    refine lv_goto (tgt := 18) X.1 X.2.1 dX11_undo_14 (by decide) ?_
    exact J18 _ _ _ w2 1 hU hS (lv_sub hl [0] rfl) hf
def rm_X11_noSlot : Room := { frames := 1, cells := 0, slots := 0, locals := 22 }
set_option maxRecDepth 100000 in
set_option maxHeartbeats 4000000 in
theorem c_X11_noSlot {l : Launch} {D : va_G} {G : Nat → ClassId} {ad : Nat → Nat → Nat} {u : k_U} (hI : k_ok ad) {w : k_M} (hw : u 5 = w) {a1 : Int32} {sz : Nat} {r : (k_M × Int32)} (hf : f_X11_noSlot w a1 = some r) : Met l yX11_noSlot (.code yX11_noSlot cX11_noSlot 2 (some .boolean) :: lw_g) rm_X11_noSlot (k_Pre D G ad u sz [.ref (ad 5 0), .int a1]) (k_Qi D G ad (k_uc u 5 r.1) r.2 sz) 0 0 (k_A ad sz) := by
  refine k_ofW (by decide +kernel) hI (Nat.le_of_ble_eq_true rfl) ?_
  intro p e s m args below meth c X hr hlk hU hS ls hl
  have hl : lv_has ls 2 [(0, .ref (ad 5 0)), (1, .int a1)] := hl
  have hU : k_Uv D G ad (k_uc u 5 w) s.heap := by rw [← hw, k_uc_id]; exact hU
  have J20 : ∀ (H : Heap) (locs : List Loc) (ls : Array Slot) (w : k_M) (as0 : Int32), k_Uv D G ad (k_uc u 5 w) H → va_S (k_A ad sz) s.heap H locs → lv_has ls 2 [] → f_X11_noSlot_20 w a1 as0 = some r → W p l e rm_X11_noSlot s m args below meth c H locs 0 0 (MQ below (k_Qi D G ad (k_uc u 5 r.1) r.2 sz) args s 0 0 (k_A ad sz)) (F0 m 20 ls [.int as0, .ref (ad 5 0)]) := by
    intro H locs ls w as0 hU hS hl hf
    unfold f_X11_noSlot_20 at hf
    refine lv_iconst (v := 1) X.1 X.2.1 dX11_noSlot_20 (by decide) ?_
    obtain ⟨r21, hr21, hf⟩ := k_bdE hf
    refine k_backi X hS (k_runV (As := [.int as0, .int 1]) (rest := []) X hS hU sh_5_0 (by decide) rfl vl_X11_61 (c_X11_throwsIf X.2.2.2.2.2.2.1 (k_uc_s _ _ _) hr21) rfl rfl rfl hl.1 ⟨Nat.le_of_ble_eq_true rfl, Nat.le_of_ble_eq_true rfl⟩ (Nat.le_of_ble_eq_true rfl) dX11_noSlot_21 ⟨Nat.zero_le _, Nat.zero_le _⟩) (fun H locs hU hS => ?_)
    rw [k_uc_uc] at hU
    obtain ⟨hi24, hf⟩ := k_ckE hf
    have hz := Option.some.inj hf
    subst hz
    exact k_iret (v := r21.2) X hU hS hr hlk (k_nb hi24) rfl dX11_noSlot_24
  unfold f_X11_noSlot at hf
  refine lv_aload_n X.1 X.2.1 dX11_noSlot_0 rfl (lv_at hl 0 rfl) ?_
  refine lv_iconst (v := 0) X.1 X.2.1 dX11_noSlot_1 (by decide) ?_
  obtain ⟨w2, e2, hf⟩ := k_ltE hf
  refine k_putw X hU hS sh_5_0 fp_X11_50 rfl e2 rfl rfl dX11_noSlot_2 (fun H locs hU hS => ?_)
  refine lv_aload_n X.1 X.2.1 dX11_noSlot_5 rfl (lv_at hl 0 rfl) ?_
  refine lv_iload_n X.1 X.2.1 dX11_noSlot_6 rfl (lv_at hl 1 rfl) ?_
  refine lv_iconst (v := 0) X.1 X.2.1 dX11_noSlot_7 (by decide) ?_
  refine lv_iconst (v := 1) X.1 X.2.1 dX11_noSlot_8 (by decide) ?_
  obtain ⟨r9, hr9, hf⟩ := k_bdE hf
  refine k_backi X hS (k_runS (As := [.int a1, .int 0, .int 1]) (rest := [.ref (ad 5 0)]) X hS hU sl_X11_57 (c_X11_within X.2.2.2.2.2.2.1 hr9) rfl rfl rfl hl.1 ⟨Nat.le_of_ble_eq_true rfl, Nat.le_of_ble_eq_true rfl⟩ (Nat.le_of_ble_eq_true rfl) dX11_noSlot_9 ⟨Nat.zero_le _, Nat.zero_le _⟩) (fun H locs hU hS => ?_)
  refine lv_if_ne (tgt := 19) X.1 X.2.1 dX11_noSlot_12 (by decide) (fun c12 => ?_) (fun c12 => ?_)
  · replace hf := k_ifN hf c12
    refine lv_iconst (v := 0) X.1 X.2.1 dX11_noSlot_19 (by decide) ?_
    exact J20 _ _ _ w2 0 hU hS (lv_sub hl [] rfl) hf
  · replace hf := k_ifP hf c12
    refine lv_iconst (v := 1) X.1 X.2.1 dX11_noSlot_15 (by decide) ?_
    refine lv_goto (tgt := 20) X.1 X.2.1 dX11_noSlot_16 (by decide) ?_
    exact J20 _ _ _ w2 1 hU hS (lv_sub hl [] rfl) hf
def rm_X11_save : Room := { frames := 2, cells := 0, slots := 0, locals := 43 }
set_option maxRecDepth 100000 in
set_option maxHeartbeats 4000000 in
theorem c_X11_save {l : Launch} {D : va_G} {G : Nat → ClassId} {ad : Nat → Nat → Nat} {u : k_U} (hI : k_ok ad) {w : k_M} (hw : u 5 = w) {a1 : Int32} {sz : Nat} {r : (k_M × Int32)} (hf : f_X11_save w a1 = some r) : Met l yX11_save (.code yX11_save cX11_save 2 (some .int) :: lw_g) rm_X11_save (k_Pre D G ad u sz [.ref (ad 5 0), .int a1]) (k_Qi D G ad (k_uc u 5 r.1) r.2 sz) 0 0 (k_A ad sz) := by
  refine k_ofW (by decide +kernel) hI (Nat.le_of_ble_eq_true rfl) ?_
  intro p e s m args below meth c X hr hlk hU hS ls hl
  have hl : lv_has ls 2 [(0, .ref (ad 5 0)), (1, .int a1)] := hl
  have hU : k_Uv D G ad (k_uc u 5 w) s.heap := by rw [← hw, k_uc_id]; exact hU
  unfold f_X11_save at hf
  refine lv_aload_n X.1 X.2.1 dX11_save_0 rfl (lv_at hl 0 rfl) ?_
  refine lv_iload_n X.1 X.2.1 dX11_save_1 rfl (lv_at hl 1 rfl) ?_
  obtain ⟨r2, hr2, hf⟩ := k_bdE hf
  refine k_backi X hS (k_runV (As := [.int a1]) (rest := []) X hS hU sh_5_0 (by decide) rfl vl_X11_403 (c_X11_noSlot X.2.2.2.2.2.2.1 (k_uc_s _ _ _) hr2) rfl rfl rfl hl.1 ⟨Nat.le_of_ble_eq_true rfl, Nat.le_of_ble_eq_true rfl⟩ (Nat.le_of_ble_eq_true rfl) dX11_save_2 ⟨Nat.zero_le _, Nat.zero_le _⟩) (fun H locs hU hS => ?_)
  rw [k_uc_uc] at hU
  refine lv_if_eq (tgt := 10) X.1 X.2.1 dX11_save_5 (by decide) (fun c5 => ?_) (fun c5 => ?_)
  · replace hf := k_ifP hf c5
    refine lv_aload_n X.1 X.2.1 dX11_save_10 rfl (lv_at hl 0 rfl) ?_
    refine k_getw (v := .ref (ad 5 1)) X hU sh_5_0 fl_X11_7 rfl dX11_save_11 ?_
    refine lv_iconst (v := 0) X.1 X.2.1 dX11_save_14 (by decide) ?_
    refine lv_aload_n X.1 X.2.1 dX11_save_15 rfl (lv_at hl 0 rfl) ?_
    refine k_getw (v := .ref (ad 5 5)) X hU sh_5_0 fl_X11_22 rfl dX11_save_16 ?_
    refine lv_sipush (v := 268) X.1 X.2.1 dX11_save_19 (by decide) ?_
    refine lv_iload_n X.1 X.2.1 dX11_save_22 rfl (lv_at hl 1 rfl) ?_
    refine lv_imul X.1 X.2.1 dX11_save_23 ?_
    obtain ⟨r24, hr24, hf⟩ := k_bdE hf
    refine k_backv X hS (k_runS (As := [.ref (ad 5 1), .int 0, .ref (ad 5 5), .int (268 * a1)]) (rest := []) X hS hU sl_X11_200 (c_X11_copies X.2.2.2.2.2.2.1 (k_uc_s _ _ _) sh_5_1 (by decide) sh_5_5 (by decide) hr24) rfl rfl rfl hl.1 ⟨Nat.le_of_ble_eq_true rfl, Nat.le_of_ble_eq_true rfl⟩ (Nat.le_of_ble_eq_true rfl) dX11_save_24 ⟨Nat.zero_le _, Nat.zero_le _⟩) (fun H locs hU hS => ?_)
    rw [k_uc_uc] at hU
    refine lv_aload_n X.1 X.2.1 dX11_save_27 rfl (lv_at hl 0 rfl) ?_
    refine k_getw (v := .ref (ad 5 6)) X hU sh_5_0 fl_X11_25 rfl dX11_save_28 ?_
    refine lv_iload_n X.1 X.2.1 dX11_save_31 rfl (lv_at hl 1 rfl) ?_
    refine lv_iconst (v := 1) X.1 X.2.1 dX11_save_32 (by decide) ?_
    obtain ⟨hi33, hf⟩ := k_ckE hf
    obtain ⟨w33, e33, hf⟩ := k_ltE hf
    refine k_zstw X hU hS sh_5_6 e33 (k_vin (n := 2) hi33 (by decide)) rfl dX11_save_33 (fun H locs hU hS => ?_)
    refine lv_aload_n X.1 X.2.1 dX11_save_34 rfl (lv_at hl 0 rfl) ?_
    refine k_getw (v := .ref (ad 5 1)) X hU sh_5_0 fl_X11_7 rfl dX11_save_35 ?_
    refine lv_bipush (v := 6) X.1 X.2.1 dX11_save_38 (by decide) ?_
    refine k_ildw (j0 := 6) X hU sh_5_1 (k_vin (N := 268) (by decide) (by decide)) (by decide) dX11_save_40 ?_
    have hz := Option.some.inj hf
    subst hz
    exact k_iret (v := w33 1 6) X hU hS hr hlk rfl rfl dX11_save_41
  · replace hf := k_ifN hf c5
    refine lv_iconst (v := 0) X.1 X.2.1 dX11_save_8 (by decide) ?_
    have hz := Option.some.inj hf
    subst hz
    exact k_iret (v := 0) X hU hS hr hlk rfl rfl dX11_save_9
def rm_X11_restore : Room := { frames := 2, cells := 0, slots := 0, locals := 43 }
set_option maxRecDepth 100000 in
set_option maxHeartbeats 4000000 in
theorem c_X11_restore {l : Launch} {D : va_G} {G : Nat → ClassId} {ad : Nat → Nat → Nat} {u : k_U} (hI : k_ok ad) {w : k_M} (hw : u 5 = w) {a1 : Int32} {sz : Nat} {r : (k_M × Int32)} (hf : f_X11_restore w a1 = some r) : Met l yX11_restore (.code yX11_restore cX11_restore 2 (some .int) :: lw_g) rm_X11_restore (k_Pre D G ad u sz [.ref (ad 5 0), .int a1]) (k_Qi D G ad (k_uc u 5 r.1) r.2 sz) 0 0 (k_A ad sz) := by
  refine k_ofW (by decide +kernel) hI (Nat.le_of_ble_eq_true rfl) ?_
  intro p e s m args below meth c X hr hlk hU hS ls hl
  have hl : lv_has ls 2 [(0, .ref (ad 5 0)), (1, .int a1)] := hl
  have hU : k_Uv D G ad (k_uc u 5 w) s.heap := by rw [← hw, k_uc_id]; exact hU
  have J23 : ∀ (H : Heap) (locs : List Loc) (ls : Array Slot) (w : k_M) (a1 : Int32) (as0 : Int32), k_Uv D G ad (k_uc u 5 w) H → va_S (k_A ad sz) s.heap H locs → lv_has ls 2 [(0, .ref (ad 5 0)), (1, .int a1)] → f_X11_restore_23 w a1 as0 = some r → W p l e rm_X11_restore s m args below meth c H locs 0 0 (MQ below (k_Qi D G ad (k_uc u 5 r.1) r.2 sz) args s 0 0 (k_A ad sz)) (F0 m 23 ls [.int as0, .ref (ad 5 0)]) := by
    intro H locs ls w a1 as0 hU hS hl hf
    unfold f_X11_restore_23 at hf
    refine lv_iconst (v := 2) X.1 X.2.1 dX11_restore_23 (by decide) ?_
    obtain ⟨r24, hr24, hf⟩ := k_bdE hf
    refine k_backi X hS (k_runV (As := [.int as0, .int 2]) (rest := []) X hS hU sh_5_0 (by decide) rfl vl_X11_61 (c_X11_throwsIf X.2.2.2.2.2.2.1 (k_uc_s _ _ _) hr24) rfl rfl rfl hl.1 ⟨Nat.le_of_ble_eq_true rfl, Nat.le_of_ble_eq_true rfl⟩ (Nat.le_of_ble_eq_true rfl) dX11_restore_24 ⟨Nat.zero_le _, Nat.zero_le _⟩) (fun H locs hU hS => ?_)
    rw [k_uc_uc] at hU
    refine lv_if_eq (tgt := 32) X.1 X.2.1 dX11_restore_27 (by decide) (fun c27 => ?_) (fun c27 => ?_)
    · replace hf := k_ifP hf c27
      refine lv_aload_n X.1 X.2.1 dX11_restore_32 rfl (lv_at hl 0 rfl) ?_
      refine k_getw (v := .ref (ad 5 5)) X hU sh_5_0 fl_X11_22 rfl dX11_restore_33 ?_
      refine lv_sipush (v := 268) X.1 X.2.1 dX11_restore_36 (by decide) ?_
      refine lv_iload_n X.1 X.2.1 dX11_restore_39 rfl (lv_at hl 1 rfl) ?_
      refine lv_imul X.1 X.2.1 dX11_restore_40 ?_
      refine lv_aload_n X.1 X.2.1 dX11_restore_41 rfl (lv_at hl 0 rfl) ?_
      refine k_getw (v := .ref (ad 5 1)) X hU sh_5_0 fl_X11_7 rfl dX11_restore_42 ?_
      refine lv_iconst (v := 0) X.1 X.2.1 dX11_restore_45 (by decide) ?_
      obtain ⟨r46, hr46, hf⟩ := k_bdE hf
      refine k_backv X hS (k_runS (As := [.ref (ad 5 5), .int (268 * a1), .ref (ad 5 1), .int 0]) (rest := []) X hS hU sl_X11_200 (c_X11_copies X.2.2.2.2.2.2.1 (k_uc_s _ _ _) sh_5_5 (by decide) sh_5_1 (by decide) hr46) rfl rfl rfl hl.1 ⟨Nat.le_of_ble_eq_true rfl, Nat.le_of_ble_eq_true rfl⟩ (Nat.le_of_ble_eq_true rfl) dX11_restore_46 ⟨Nat.zero_le _, Nat.zero_le _⟩) (fun H locs hU hS => ?_)
      rw [k_uc_uc] at hU
      refine lv_aload_n X.1 X.2.1 dX11_restore_49 rfl (lv_at hl 0 rfl) ?_
      refine lv_iconst (v := 0) X.1 X.2.1 dX11_restore_50 (by decide) ?_
      obtain ⟨w51, e51, hf⟩ := k_ltE hf
      refine k_putw X hU hS sh_5_0 fp_X11_176 rfl e51 rfl rfl dX11_restore_51 (fun H locs hU hS => ?_)
      refine lv_aload_n X.1 X.2.1 dX11_restore_54 rfl (lv_at hl 0 rfl) ?_
      refine k_getw (v := .ref (ad 5 1)) X hU sh_5_0 fl_X11_7 rfl dX11_restore_55 ?_
      refine lv_bipush (v := 6) X.1 X.2.1 dX11_restore_58 (by decide) ?_
      refine k_ildw (j0 := 6) X hU sh_5_1 (k_vin (N := 268) (by decide) (by decide)) (by decide) dX11_restore_60 ?_
      have hz := Option.some.inj hf
      subst hz
      exact k_iret (v := w51 1 6) X hU hS hr hlk rfl rfl dX11_restore_61
    · replace hf := k_ifN hf c27
      refine lv_iconst (v := 0) X.1 X.2.1 dX11_restore_30 (by decide) ?_
      have hz := Option.some.inj hf
      subst hz
      exact k_iret (v := 0) X hU hS hr hlk rfl rfl dX11_restore_31
  unfold f_X11_restore at hf
  refine lv_aload_n X.1 X.2.1 dX11_restore_0 rfl (lv_at hl 0 rfl) ?_
  refine lv_iload_n X.1 X.2.1 dX11_restore_1 rfl (lv_at hl 1 rfl) ?_
  obtain ⟨r2, hr2, hf⟩ := k_bdE hf
  refine k_backi X hS (k_runV (As := [.int a1]) (rest := []) X hS hU sh_5_0 (by decide) rfl vl_X11_403 (c_X11_noSlot X.2.2.2.2.2.2.1 (k_uc_s _ _ _) hr2) rfl rfl rfl hl.1 ⟨Nat.le_of_ble_eq_true rfl, Nat.le_of_ble_eq_true rfl⟩ (Nat.le_of_ble_eq_true rfl) dX11_restore_2 ⟨Nat.zero_le _, Nat.zero_le _⟩) (fun H locs hU hS => ?_)
  rw [k_uc_uc] at hU
  refine lv_if_ne (tgt := 30) X.1 X.2.1 dX11_restore_5 (by decide) (fun c5 => ?_) (fun c5 => ?_)
  · replace hf := k_ifN hf c5
    refine lv_iconst (v := 0) X.1 X.2.1 dX11_restore_30 (by decide) ?_
    have hz := Option.some.inj hf
    subst hz
    exact k_iret (v := 0) X hU hS hr hlk rfl rfl dX11_restore_31
  · replace hf := k_ifP hf c5
    refine lv_aload_n X.1 X.2.1 dX11_restore_8 rfl (lv_at hl 0 rfl) ?_
    refine lv_aload_n X.1 X.2.1 dX11_restore_9 rfl (lv_at hl 0 rfl) ?_
    refine k_getw (v := .ref (ad 5 6)) X hU sh_5_0 fl_X11_25 rfl dX11_restore_10 ?_
    refine lv_iload_n X.1 X.2.1 dX11_restore_13 rfl (lv_at hl 1 rfl) ?_
    obtain ⟨hi14, hf⟩ := k_ckE hf
    refine k_zldw (j0 := a1.toNatClampNeg) X hU sh_5_6 (k_vin (n := 2) hi14 (by decide)) rfl dX11_restore_14 ?_
    refine lv_if_ne (tgt := 22) X.1 X.2.1 dX11_restore_15 (by decide) (fun c15 => ?_) (fun c15 => ?_)
    · replace hf := k_ifN hf c15
      refine lv_iconst (v := 0) X.1 X.2.1 dX11_restore_22 (by decide) ?_
      exact J23 _ _ _ r2.1 a1 0 hU hS (lv_sub hl [0, 1] rfl) hf
    · replace hf := k_ifP hf c15
      refine lv_iconst (v := 1) X.1 X.2.1 dX11_restore_18 (by decide) ?_
      refine lv_goto (tgt := 23) X.1 X.2.1 dX11_restore_19 (by decide) ?_
      exact J23 _ _ _ r2.1 a1 1 hU hS (lv_sub hl [0, 1] rfl) hf

def rm_X4_bytesIn : Room := { frames := 0, cells := 0, slots := 0, locals := 0 }
set_option maxRecDepth 100000 in
set_option maxHeartbeats 4000000 in
theorem c_X4_bytesIn {l : Launch} {D : va_G} {G : Nat → ClassId} {ad : Nat → Nat → Nat} {u : k_U} (hI : k_ok ad) {a0 : Int32} {sz : Nat} {r : Int32} (hf : f_X4_bytesIn a0 = some r) : Met l yX4_bytesIn (.code yX4_bytesIn cX4_bytesIn 3 (some .int) :: lw_g) rm_X4_bytesIn (k_Pre D G ad u sz [.int a0]) (k_Qi D G ad u r sz) 0 0 (k_A ad sz) := by
  refine k_ofW (by decide +kernel) hI (Nat.le_of_ble_eq_true rfl) ?_
  intro p e s m args below meth c X hr hlk hU hS ls hl
  have hl : lv_has ls 3 [(0, .int a0)] := hl
  have L5 : ∀ (n5 : Nat) (H : Heap) (locs : List Loc) (ls : Array Slot) (a0 : Int32) (a1 : Int32) (a2 : Int32), k_Uv D G ad u H → va_S (k_A ad sz) s.heap H locs → lv_has ls 3 [(0, .int a0), (1, .int a1), (2, .int a2)] → f_X4_bytesIn_5 n5 a0 a1 a2 = some r → W p l e rm_X4_bytesIn s m args below meth c H locs 0 0 (MQ below (k_Qi D G ad u r sz) args s 0 0 (k_A ad sz)) (F0 m 5 ls []) := by
    intro n5
    induction n5 with
    | zero =>
      intro H locs ls a0 a1 a2 hU hS hl hf
      cases (show none = some r from hf)
    | succ n5 ih5 =>
      have J22 : ∀ (H : Heap) (locs : List Loc) (ls : Array Slot) (a0 : Int32) (a1 : Int32) (a2 : Int32), k_Uv D G ad u H → va_S (k_A ad sz) s.heap H locs → lv_has ls 3 [(0, .int a0), (1, .int a1), (2, .int a2)] → f_X4_bytesIn_22 (f_X4_bytesIn_5 n5) a0 a1 a2 = some r → W p l e rm_X4_bytesIn s m args below meth c H locs 0 0 (MQ below (k_Qi D G ad u r sz) args s 0 0 (k_A ad sz)) (F0 m 22 ls []) := by
        intro H locs ls a0 a1 a2 hU hS hl hf
        unfold f_X4_bytesIn_22 at hf
        obtain ⟨x22, e22, hf⟩ := k_ltE hf
        refine lv_iinc (v := x22) (lv' := [(2, .int x22), (0, .int a0), (1, .int a1)]) X.1 X.2.1 dX4_bytesIn_22 hl (k := 2) rfl (by rw [e22]; rfl) (by decide) rfl (fun ls hl => ?_)
        refine lv_goto (tgt := 5) X.1 X.2.1 dX4_bytesIn_25 (by decide) ?_
        exact ih5 _ _ _ a0 a1 x22 hU hS (lv_sub hl [1, 2, 0] rfl) hf
      intro H locs ls a0 a1 a2 hU hS hl hf
      replace hf : f_X4_bytesIn_5_b (f_X4_bytesIn_5 n5) a0 a1 a2 = some r := hf
      unfold f_X4_bytesIn_5_b at hf
      refine lv_iload_n X.1 X.2.1 dX4_bytesIn_5 rfl (lv_at hl 2 rfl) ?_
      refine lv_if_lt (tgt := 28) X.1 X.2.1 dX4_bytesIn_6 (by decide) (fun c6 => ?_) (fun c6 => ?_)
      · replace hf := k_ifP hf c6
        refine lv_iload_n X.1 X.2.1 dX4_bytesIn_28 rfl (lv_at hl 1 rfl) ?_
        have hz := Option.some.inj hf
        subst hz
        exact k_iret (v := a1) X hU hS hr hlk rfl rfl dX4_bytesIn_29
      · replace hf := k_ifN hf c6
        refine lv_iload_n X.1 X.2.1 dX4_bytesIn_9 rfl (lv_at hl 0 rfl) ?_
        refine lv_iload_n X.1 X.2.1 dX4_bytesIn_10 rfl (lv_at hl 2 rfl) ?_
        refine lv_iushr (v := (a0.toUInt32 >>> ((a2 : Int32).toUInt32 &&& Int32.toUInt32 31)).toInt32) X.1 X.2.1 dX4_bytesIn_11 rfl ?_
        refine lv_sipush (v := 255) X.1 X.2.1 dX4_bytesIn_12 (by decide) ?_
        refine lv_iand X.1 X.2.1 dX4_bytesIn_15 ?_
        refine lv_if_eq (tgt := 22) X.1 X.2.1 dX4_bytesIn_16 (by decide) (fun c16 => ?_) (fun c16 => ?_)
        · replace hf := k_ifP hf c16
          exact J22 _ _ _ a0 a1 a2 hU hS (lv_sub hl [0, 1, 2] rfl) hf
        · replace hf := k_ifN hf c16
          obtain ⟨x19, e19, hf⟩ := k_ltE hf
          refine lv_iinc (v := x19) (lv' := [(1, .int x19), (0, .int a0), (2, .int a2)]) X.1 X.2.1 dX4_bytesIn_19 hl (k := 1) rfl (by rw [e19]; rfl) (by decide) rfl (fun ls hl => ?_)
          exact J22 _ _ _ a0 x19 a2 hU hS (lv_sub hl [1, 0, 2] rfl) hf
  unfold f_X4_bytesIn at hf
  refine lv_iconst (v := 0) X.1 X.2.1 dX4_bytesIn_0 (by decide) ?_
  refine lv_istore_n (lv' := [(1, .int 0), (0, .int a0)]) X.1 X.2.1 dX4_bytesIn_1 rfl hl (by decide) rfl (fun ls hl => ?_)
  refine lv_bipush (v := 24) X.1 X.2.1 dX4_bytesIn_2 (by decide) ?_
  refine lv_istore_n (lv' := [(2, .int 24), (1, .int 0), (0, .int a0)]) X.1 X.2.1 dX4_bytesIn_4 rfl hl (by decide) rfl (fun ls hl => ?_)
  exact L5 k_N _ _ _ a0 0 24 hU hS (lv_sub hl [2, 1, 0] rfl) hf
def rm_X4_room : Room := { frames := 0, cells := 0, slots := 0, locals := 0 }
set_option maxRecDepth 100000 in
set_option maxHeartbeats 4000000 in
theorem c_X4_room {l : Launch} {D : va_G} {G : Nat → ClassId} {ad : Nat → Nat → Nat} {u : k_U} (hI : k_ok ad) {w : k_M} (hw : u 1 = w) {sz : Nat} {r : Int32} (hf : f_X4_room w = some r) : Met l yX4_room (.code yX4_room cX4_room 1 (some .int) :: lw_g) rm_X4_room (k_Pre D G ad u sz [.ref (ad 1 0)]) (k_Qi D G ad u r sz) 0 0 (k_A ad sz) := by
  refine k_ofW (by decide +kernel) hI (Nat.le_of_ble_eq_true rfl) ?_
  intro p e s m args below meth c X hr hlk hU hS ls hl
  have hl : lv_has ls 1 [(0, .ref (ad 1 0))] := hl
  have hU : k_Uv D G ad (k_uc u 1 w) s.heap := by rw [← hw, k_uc_id]; exact hU
  unfold f_X4_room at hf
  refine lv_sipush (v := 600) X.1 X.2.1 dX4_room_0 (by decide) ?_
  refine lv_aload_n X.1 X.2.1 dX4_room_3 rfl (lv_at hl 0 rfl) ?_
  refine k_getw (v := .int (w 0 2)) X hU sh_1_0 fl_X4_22 rfl dX4_room_4 ?_
  refine lv_isub X.1 X.2.1 dX4_room_7 ?_
  rw [← hw, k_uc_id] at hU
  have hz := Option.some.inj hf
  subst hz
  exact k_iret (v := (600 - (w 0 2))) X hU hS hr hlk rfl rfl dX4_room_8
def rm_X4_kindOf : Room := { frames := 0, cells := 0, slots := 0, locals := 0 }
set_option maxRecDepth 100000 in
set_option maxHeartbeats 4000000 in
theorem c_X4_kindOf {l : Launch} {D : va_G} {G : Nat → ClassId} {ad : Nat → Nat → Nat} {u : k_U} (hI : k_ok ad) {a0 : Int32} {sz : Nat} {r : Int32} (hf : f_X4_kindOf a0 = some r) : Met l yX4_kindOf (.code yX4_kindOf cX4_kindOf 1 (some .int) :: lw_g) rm_X4_kindOf (k_Pre D G ad u sz [.int a0]) (k_Qi D G ad u r sz) 0 0 (k_A ad sz) := by
  refine k_ofW (by decide +kernel) hI (Nat.le_of_ble_eq_true rfl) ?_
  intro p e s m args below meth c X hr hlk hU hS ls hl
  have hl : lv_has ls 1 [(0, .int a0)] := hl
  have J28 : ∀ (H : Heap) (locs : List Loc) (ls : Array Slot) (a0 : Int32), k_Uv D G ad u H → va_S (k_A ad sz) s.heap H locs → lv_has ls 1 [(0, .int a0)] → f_X4_kindOf_28 a0 = some r → W p l e rm_X4_kindOf s m args below meth c H locs 0 0 (MQ below (k_Qi D G ad u r sz) args s 0 0 (k_A ad sz)) (F0 m 28 ls []) := by
    intro H locs ls a0 hU hS hl hf
    unfold f_X4_kindOf_28 at hf
    refine lv_iload_n X.1 X.2.1 dX4_kindOf_28 rfl (lv_at hl 0 rfl) ?_
    by_cases c29_10 : a0 = 10
    · replace hf := k_ifP hf c29_10
      refine lv_lookup (x := a0) (off := 47) (tgt := 76) X.1 X.2.1 dX4_kindOf_29 (by decide) (by rw [c29_10]; rfl) (by decide) ?_
      refine lv_iconst (v := 5) X.1 X.2.1 dX4_kindOf_76 (by decide) ?_
      have hz := Option.some.inj hf
      subst hz
      exact k_iret (v := 5) X hU hS hr hlk rfl rfl dX4_kindOf_77
    replace hf := k_ifN hf c29_10
    by_cases c29_32 : a0 = 32
    · replace hf := k_ifP hf c29_32
      refine lv_lookup (x := a0) (off := 47) (tgt := 76) X.1 X.2.1 dX4_kindOf_29 (by decide) (by rw [c29_32]; rfl) (by decide) ?_
      refine lv_iconst (v := 5) X.1 X.2.1 dX4_kindOf_76 (by decide) ?_
      have hz := Option.some.inj hf
      subst hz
      exact k_iret (v := 5) X hU hS hr hlk rfl rfl dX4_kindOf_77
    replace hf := k_ifN hf c29_32
    by_cases c29_45 : a0 = 45
    · replace hf := k_ifP hf c29_45
      refine lv_lookup (x := a0) (off := 43) (tgt := 72) X.1 X.2.1 dX4_kindOf_29 (by decide) (by rw [c29_45]; rfl) (by decide) ?_
      refine lv_iconst (v := 3) X.1 X.2.1 dX4_kindOf_72 (by decide) ?_
      have hz := Option.some.inj hf
      subst hz
      exact k_iret (v := 3) X hU hS hr hlk rfl rfl dX4_kindOf_73
    replace hf := k_ifN hf c29_45
    by_cases c29_59 : a0 = 59
    · replace hf := k_ifP hf c29_59
      refine lv_lookup (x := a0) (off := 45) (tgt := 74) X.1 X.2.1 dX4_kindOf_29 (by decide) (by rw [c29_59]; rfl) (by decide) ?_
      refine lv_iconst (v := 4) X.1 X.2.1 dX4_kindOf_74 (by decide) ?_
      have hz := Option.some.inj hf
      subst hz
      exact k_iret (v := 4) X hU hS hr hlk rfl rfl dX4_kindOf_75
    replace hf := k_ifN hf c29_59
    refine lv_lookup (x := a0) (off := 49) (tgt := 78) X.1 X.2.1 dX4_kindOf_29 (by decide) (by rw [lv_osw c29_10 (by decide), lv_osw c29_32 (by decide), lv_osw c29_45 (by decide), lv_osw c29_59 (by decide)]; rfl) (by decide) ?_
    refine lv_bipush (v := 6) X.1 X.2.1 dX4_kindOf_78 (by decide) ?_
    have hz := Option.some.inj hf
    subst hz
    exact k_iret (v := 6) X hU hS hr hlk rfl rfl dX4_kindOf_80
  have J14 : ∀ (H : Heap) (locs : List Loc) (ls : Array Slot) (a0 : Int32), k_Uv D G ad u H → va_S (k_A ad sz) s.heap H locs → lv_has ls 1 [(0, .int a0)] → f_X4_kindOf_14 a0 = some r → W p l e rm_X4_kindOf s m args below meth c H locs 0 0 (MQ below (k_Qi D G ad u r sz) args s 0 0 (k_A ad sz)) (F0 m 14 ls []) := by
    intro H locs ls a0 hU hS hl hf
    unfold f_X4_kindOf_14 at hf
    refine lv_iload_n X.1 X.2.1 dX4_kindOf_14 rfl (lv_at hl 0 rfl) ?_
    refine lv_bipush (v := 48) X.1 X.2.1 dX4_kindOf_15 (by decide) ?_
    refine lv_icmp_lt (tgt := 28) X.1 X.2.1 dX4_kindOf_17 (by decide) (fun c17 => ?_) (fun c17 => ?_)
    · replace hf := k_ifP hf c17
      exact J28 _ _ _ a0 hU hS (lv_sub hl [0] rfl) hf
    · replace hf := k_ifN hf c17
      refine lv_iload_n X.1 X.2.1 dX4_kindOf_20 rfl (lv_at hl 0 rfl) ?_
      refine lv_bipush (v := 57) X.1 X.2.1 dX4_kindOf_21 (by decide) ?_
      refine lv_icmp_gt (tgt := 28) X.1 X.2.1 dX4_kindOf_23 (by decide) (fun c23 => ?_) (fun c23 => ?_)
      · replace hf := k_ifP hf c23
        exact J28 _ _ _ a0 hU hS (lv_sub hl [0] rfl) hf
      · replace hf := k_ifN hf c23
        refine lv_iconst (v := 2) X.1 X.2.1 dX4_kindOf_26 (by decide) ?_
        have hz := Option.some.inj hf
        subst hz
        exact k_iret (v := 2) X hU hS hr hlk rfl rfl dX4_kindOf_27
  unfold f_X4_kindOf at hf
  refine lv_iload_n X.1 X.2.1 dX4_kindOf_0 rfl (lv_at hl 0 rfl) ?_
  refine lv_bipush (v := 97) X.1 X.2.1 dX4_kindOf_1 (by decide) ?_
  refine lv_icmp_lt (tgt := 14) X.1 X.2.1 dX4_kindOf_3 (by decide) (fun c3 => ?_) (fun c3 => ?_)
  · replace hf := k_ifP hf c3
    exact J14 _ _ _ a0 hU hS (lv_sub hl [0] rfl) hf
  · replace hf := k_ifN hf c3
    refine lv_iload_n X.1 X.2.1 dX4_kindOf_6 rfl (lv_at hl 0 rfl) ?_
    refine lv_bipush (v := 122) X.1 X.2.1 dX4_kindOf_7 (by decide) ?_
    refine lv_icmp_gt (tgt := 14) X.1 X.2.1 dX4_kindOf_9 (by decide) (fun c9 => ?_) (fun c9 => ?_)
    · replace hf := k_ifP hf c9
      exact J14 _ _ _ a0 hU hS (lv_sub hl [0] rfl) hf
    · replace hf := k_ifN hf c9
      refine lv_iconst (v := 1) X.1 X.2.1 dX4_kindOf_12 (by decide) ?_
      have hz := Option.some.inj hf
      subst hz
      exact k_iret (v := 1) X hU hS hr hlk rfl rfl dX4_kindOf_13
def rm_X4_addBytesOf : Room := { frames := 1, cells := 0, slots := 0, locals := 20 }
set_option maxRecDepth 100000 in
set_option maxHeartbeats 4000000 in
theorem c_X4_addBytesOf {l : Launch} {D : va_G} {G : Nat → ClassId} {ad : Nat → Nat → Nat} {u : k_U} (hI : k_ok ad) {w : k_M} (hw : u 1 = w) {a1 : Int32} {sz : Nat} {r : k_M} (hf : f_X4_addBytesOf w a1 = some r) : Met l yX4_addBytesOf (.code yX4_addBytesOf cX4_addBytesOf 4 none :: lw_g) rm_X4_addBytesOf (k_Pre D G ad u sz [.ref (ad 1 0), .int a1]) (k_Qv D G ad (k_uc u 1 r) sz) 0 0 (k_A ad sz) := by
  refine k_ofW (by decide +kernel) hI (Nat.le_of_ble_eq_true rfl) ?_
  intro p e s m args below meth c X hr hlk hU hS ls hl
  have hl : lv_has ls 4 [(0, .ref (ad 1 0)), (1, .int a1)] := hl
  have hU : k_Uv D G ad (k_uc u 1 w) s.heap := by rw [← hw, k_uc_id]; exact hU
  have L3 : ∀ (n3 : Nat) (H : Heap) (locs : List Loc) (ls : Array Slot) (w : k_M) (a1 : Int32) (a2 : Int32), k_Uv D G ad (k_uc u 1 w) H → va_S (k_A ad sz) s.heap H locs → lv_has ls 4 [(0, .ref (ad 1 0)), (1, .int a1), (2, .int a2)] → f_X4_addBytesOf_3 n3 w a1 a2 = some r → W p l e rm_X4_addBytesOf s m args below meth c H locs 0 0 (MQ below (k_Qv D G ad (k_uc u 1 r) sz) args s 0 0 (k_A ad sz)) (F0 m 3 ls []) := by
    intro n3
    induction n3 with
    | zero =>
      intro H locs ls w a1 a2 hU hS hl hf
      cases (show none = some r from hf)
    | succ n3 ih3 =>
      have J62 : ∀ (H : Heap) (locs : List Loc) (ls : Array Slot) (w : k_M) (a1 : Int32) (a2 : Int32), k_Uv D G ad (k_uc u 1 w) H → va_S (k_A ad sz) s.heap H locs → lv_has ls 4 [(0, .ref (ad 1 0)), (1, .int a1), (2, .int a2)] → f_X4_addBytesOf_62 (f_X4_addBytesOf_3 n3) w a1 a2 = some r → W p l e rm_X4_addBytesOf s m args below meth c H locs 0 0 (MQ below (k_Qv D G ad (k_uc u 1 r) sz) args s 0 0 (k_A ad sz)) (F0 m 62 ls []) := by
        intro H locs ls w a1 a2 hU hS hl hf
        unfold f_X4_addBytesOf_62 at hf
        obtain ⟨x62, e62, hf⟩ := k_ltE hf
        refine lv_iinc (v := x62) (lv' := [(2, .int x62), (0, .ref (ad 1 0)), (1, .int a1)]) X.1 X.2.1 dX4_addBytesOf_62 hl (k := 2) rfl (by rw [e62]; rfl) (by decide) rfl (fun ls hl => ?_)
        refine lv_goto (tgt := 3) X.1 X.2.1 dX4_addBytesOf_65 (by decide) ?_
        exact ih3 _ _ _ w a1 x62 hU hS (lv_sub hl [1, 2, 0] rfl) hf
      intro H locs ls w a1 a2 hU hS hl hf
      replace hf : f_X4_addBytesOf_3_b (f_X4_addBytesOf_3 n3) w a1 a2 = some r := hf
      unfold f_X4_addBytesOf_3_b at hf
      refine lv_iload_n X.1 X.2.1 dX4_addBytesOf_3 rfl (lv_at hl 2 rfl) ?_
      refine lv_if_lt (tgt := 68) X.1 X.2.1 dX4_addBytesOf_4 (by decide) (fun c4 => ?_) (fun c4 => ?_)
      · replace hf := k_ifP hf c4
        have hz := Option.some.inj hf
        subst hz
        exact k_vret X hU hS hr hlk dX4_addBytesOf_68
      · replace hf := k_ifN hf c4
        refine lv_iload_n X.1 X.2.1 dX4_addBytesOf_7 rfl (lv_at hl 1 rfl) ?_
        refine lv_iload_n X.1 X.2.1 dX4_addBytesOf_8 rfl (lv_at hl 2 rfl) ?_
        refine lv_iushr (v := (a1.toUInt32 >>> ((a2 : Int32).toUInt32 &&& Int32.toUInt32 31)).toInt32) X.1 X.2.1 dX4_addBytesOf_9 rfl ?_
        refine lv_sipush (v := 255) X.1 X.2.1 dX4_addBytesOf_10 (by decide) ?_
        refine lv_iand X.1 X.2.1 dX4_addBytesOf_13 ?_
        obtain ⟨x14, e14, hf⟩ := k_ltE hf
        refine k_nmi e14 ?_
        refine lv_istore_n (lv' := [(3, .int x14), (0, .ref (ad 1 0)), (1, .int a1), (2, .int a2)]) X.1 X.2.1 dX4_addBytesOf_14 rfl hl (by decide) rfl (fun ls hl => ?_)
        refine lv_iload_n X.1 X.2.1 dX4_addBytesOf_15 rfl (lv_at hl 0 rfl) ?_
        refine lv_if_eq (tgt := 62) X.1 X.2.1 dX4_addBytesOf_16 (by decide) (fun c16 => ?_) (fun c16 => ?_)
        · replace hf := k_ifP hf c16
          exact J62 _ _ _ w a1 a2 hU hS (lv_sub hl [1, 2, 3] rfl) hf
        · replace hf := k_ifN hf c16
          refine lv_aload_n X.1 X.2.1 dX4_addBytesOf_19 rfl (lv_at hl 1 rfl) ?_
          refine k_getw (v := .int (w 0 2)) X hU sh_1_0 fl_X4_22 rfl dX4_addBytesOf_20 ?_
          refine lv_sipush (v := 600) X.1 X.2.1 dX4_addBytesOf_23 (by decide) ?_
          refine lv_icmp_ge (tgt := 62) X.1 X.2.1 dX4_addBytesOf_26 (by decide) (fun c26 => ?_) (fun c26 => ?_)
          · replace hf := k_ifP hf c26
            exact J62 _ _ _ w a1 a2 hU hS (lv_sub hl [1, 2, 3] rfl) hf
          · replace hf := k_ifN hf c26
            refine lv_aload_n X.1 X.2.1 dX4_addBytesOf_29 rfl (lv_at hl 1 rfl) ?_
            refine k_getw (v := .ref (ad 1 1)) X hU sh_1_0 fl_X4_11 rfl dX4_addBytesOf_30 ?_
            refine lv_aload_n X.1 X.2.1 dX4_addBytesOf_33 rfl (lv_at hl 1 rfl) ?_
            refine k_getw (v := .int (w 0 2)) X hU sh_1_0 fl_X4_22 rfl dX4_addBytesOf_34 ?_
            refine lv_iload_n X.1 X.2.1 dX4_addBytesOf_37 rfl (lv_at hl 0 rfl) ?_
            obtain ⟨hi38, hf⟩ := k_ckE hf
            obtain ⟨w38, e38, hf⟩ := k_ltE hf
            refine k_istw X hU hS sh_1_1 e38 (k_vin (n := 600) hi38 (by decide)) rfl dX4_addBytesOf_38 (fun H locs hU hS => ?_)
            refine lv_aload_n X.1 X.2.1 dX4_addBytesOf_39 rfl (lv_at hl 1 rfl) ?_
            refine k_getw (v := .ref (ad 1 2)) X hU sh_1_0 fl_X4_15 rfl dX4_addBytesOf_40 ?_
            refine lv_aload_n X.1 X.2.1 dX4_addBytesOf_43 rfl (lv_at hl 1 rfl) ?_
            refine k_getw (v := .int (w38 0 2)) X hU sh_1_0 fl_X4_22 rfl dX4_addBytesOf_44 ?_
            refine lv_iload_n X.1 X.2.1 dX4_addBytesOf_47 rfl (lv_at hl 0 rfl) ?_
            obtain ⟨r48, hr48, hf⟩ := k_bdE hf
            refine k_backi X hS (k_runS (As := [.int x14]) (rest := [.int (w38 0 2), .ref (ad 1 2)]) X hS hU sl_X4_25 (c_X4_kindOf X.2.2.2.2.2.2.1 hr48) rfl rfl rfl hl.1 ⟨Nat.le_of_ble_eq_true rfl, Nat.le_of_ble_eq_true rfl⟩ (Nat.le_of_ble_eq_true rfl) dX4_addBytesOf_48 ⟨Nat.zero_le _, Nat.zero_le _⟩) (fun H locs hU hS => ?_)
            obtain ⟨hi51, hf⟩ := k_ckE hf
            obtain ⟨w51, e51, hf⟩ := k_ltE hf
            refine k_istw X hU hS sh_1_2 e51 (k_vin (n := 600) hi51 (by decide)) rfl dX4_addBytesOf_51 (fun H locs hU hS => ?_)
            refine lv_aload_n X.1 X.2.1 dX4_addBytesOf_52 rfl (lv_at hl 1 rfl) ?_
            refine lv_dup X.1 X.2.1 dX4_addBytesOf_53 rfl ?_
            refine k_getw (v := .int (w51 0 2)) X hU sh_1_0 fl_X4_22 rfl dX4_addBytesOf_54 ?_
            refine lv_iconst (v := 1) X.1 X.2.1 dX4_addBytesOf_57 (by decide) ?_
            refine lv_iadd X.1 X.2.1 dX4_addBytesOf_58 ?_
            obtain ⟨w59, e59, hf⟩ := k_ltE hf
            refine k_putw X hU hS sh_1_0 fp_X4_22 rfl e59 rfl rfl dX4_addBytesOf_59 (fun H locs hU hS => ?_)
            exact J62 _ _ _ w59 a1 a2 hU hS (lv_sub hl [1, 2, 3] rfl) hf
  unfold f_X4_addBytesOf at hf
  refine lv_bipush (v := 24) X.1 X.2.1 dX4_addBytesOf_0 (by decide) ?_
  refine lv_istore_n (lv' := [(2, .int 24), (0, .ref (ad 1 0)), (1, .int a1)]) X.1 X.2.1 dX4_addBytesOf_2 rfl hl (by decide) rfl (fun ls hl => ?_)
  exact L3 k_N _ _ _ w a1 24 hU hS (lv_sub hl [1, 2, 0] rfl) hf
def rm_X10_append : Room := { frames := 2, cells := 0, slots := 0, locals := 43 }
set_option maxRecDepth 100000 in
set_option maxHeartbeats 4000000 in
theorem c_X10_append {l : Launch} {D : va_G} {G : Nat → ClassId} {ad : Nat → Nat → Nat} {u : k_U} (hI : k_ok ad) {a1 : Int32} {a2 : Int32} {a3 : Int32} {a4 : Int32} {a5 : Int32} {sz : Nat} {r1 : k_U} {r2 : Int32} (hf : f_X10_append u a1 a2 a3 a4 a5 = some (r1, Sum.inl r2)) : Met l yX10_append (.code yX10_append cX10_append 7 (some .int) :: lw_g) rm_X10_append (k_Pre D G ad u sz [.ref (ad 0 0), .int a1, .int a2, .int a3, .int a4, .int a5]) (k_Qi D G ad r1 r2 sz) 0 0 (k_A ad sz) := by
  refine k_ofW (by decide +kernel) hI (Nat.le_of_ble_eq_true rfl) ?_
  intro p e s m args below meth c X hr hlk hU hS ls hl
  have hl : lv_has ls 7 [(0, .ref (ad 0 0)), (1, .int a1), (2, .int a2), (3, .int a3), (4, .int a4), (5, .int a5)] := hl
  unfold f_X10_append at hf
  refine lv_iload_n X.1 X.2.1 dX10_append_0 rfl (lv_at hl 1 rfl) ?_
  obtain ⟨r1, hr1, hf⟩ := k_bdE hf
  refine k_backi X hS (k_runS (As := [.int a1]) (rest := []) X hS hU sl_X10_70 (c_X4_bytesIn X.2.2.2.2.2.2.1 hr1) rfl rfl rfl hl.1 ⟨Nat.le_of_ble_eq_true rfl, Nat.le_of_ble_eq_true rfl⟩ (Nat.le_of_ble_eq_true rfl) dX10_append_1 ⟨Nat.zero_le _, Nat.zero_le _⟩) (fun H locs hU hS => ?_)
  refine lv_iload_n X.1 X.2.1 dX10_append_4 rfl (lv_at hl 2 rfl) ?_
  obtain ⟨r5, hr5, hf⟩ := k_bdE hf
  refine k_backi X hS (k_runS (As := [.int a2]) (rest := [.int r1]) X hS hU sl_X10_70 (c_X4_bytesIn X.2.2.2.2.2.2.1 hr5) rfl rfl rfl hl.1 ⟨Nat.le_of_ble_eq_true rfl, Nat.le_of_ble_eq_true rfl⟩ (Nat.le_of_ble_eq_true rfl) dX10_append_5 ⟨Nat.zero_le _, Nat.zero_le _⟩) (fun H locs hU hS => ?_)
  refine lv_iadd X.1 X.2.1 dX10_append_8 ?_
  refine lv_iload_n X.1 X.2.1 dX10_append_9 rfl (lv_at hl 3 rfl) ?_
  obtain ⟨r10, hr10, hf⟩ := k_bdE hf
  refine k_backi X hS (k_runS (As := [.int a3]) (rest := [.int (r1 + r5)]) X hS hU sl_X10_70 (c_X4_bytesIn X.2.2.2.2.2.2.1 hr10) rfl rfl rfl hl.1 ⟨Nat.le_of_ble_eq_true rfl, Nat.le_of_ble_eq_true rfl⟩ (Nat.le_of_ble_eq_true rfl) dX10_append_10 ⟨Nat.zero_le _, Nat.zero_le _⟩) (fun H locs hU hS => ?_)
  refine lv_iadd X.1 X.2.1 dX10_append_13 ?_
  refine lv_iload X.1 X.2.1 dX10_append_14 (lv_at hl 4 rfl) ?_
  obtain ⟨r16, hr16, hf⟩ := k_bdE hf
  refine k_backi X hS (k_runS (As := [.int a4]) (rest := [.int ((r1 + r5) + r10)]) X hS hU sl_X10_70 (c_X4_bytesIn X.2.2.2.2.2.2.1 hr16) rfl rfl rfl hl.1 ⟨Nat.le_of_ble_eq_true rfl, Nat.le_of_ble_eq_true rfl⟩ (Nat.le_of_ble_eq_true rfl) dX10_append_16 ⟨Nat.zero_le _, Nat.zero_le _⟩) (fun H locs hU hS => ?_)
  refine lv_iadd X.1 X.2.1 dX10_append_19 ?_
  refine lv_iload X.1 X.2.1 dX10_append_20 (lv_at hl 5 rfl) ?_
  obtain ⟨r22, hr22, hf⟩ := k_bdE hf
  refine k_backi X hS (k_runS (As := [.int a5]) (rest := [.int (((r1 + r5) + r10) + r16)]) X hS hU sl_X10_70 (c_X4_bytesIn X.2.2.2.2.2.2.1 hr22) rfl rfl rfl hl.1 ⟨Nat.le_of_ble_eq_true rfl, Nat.le_of_ble_eq_true rfl⟩ (Nat.le_of_ble_eq_true rfl) dX10_append_22 ⟨Nat.zero_le _, Nat.zero_le _⟩) (fun H locs hU hS => ?_)
  refine lv_iadd X.1 X.2.1 dX10_append_25 ?_
  obtain ⟨x26, e26, hf⟩ := k_ltE hf
  refine k_nmi e26 ?_
  refine lv_istore (lv' := [(6, .int x26), (0, .ref (ad 0 0)), (1, .int a1), (2, .int a2), (3, .int a3), (4, .int a4), (5, .int a5)]) X.1 X.2.1 dX10_append_26 hl (by decide) rfl (fun ls hl => ?_)
  refine lv_iload X.1 X.2.1 dX10_append_28 (lv_at hl 0 rfl) ?_
  refine lv_aload_n X.1 X.2.1 dX10_append_30 rfl (lv_at hl 1 rfl) ?_
  refine k_get (v := .ref (ad 1 0)) X hU sh_0_0 fl_X10_10 rfl dX10_append_31 ?_
  obtain ⟨r34, hr34, hf⟩ := k_bdE hf
  refine k_backi X hS (k_runV (As := []) (rest := [.int x26]) X hS hU sh_1_0 (by decide) rfl vl_X10_74 (c_X4_room X.2.2.2.2.2.2.1 rfl hr34) rfl rfl rfl hl.1 ⟨Nat.le_of_ble_eq_true rfl, Nat.le_of_ble_eq_true rfl⟩ (Nat.le_of_ble_eq_true rfl) dX10_append_34 ⟨Nat.zero_le _, Nat.zero_le _⟩) (fun H locs hU hS => ?_)
  refine lv_icmp_le (tgt := 50) X.1 X.2.1 dX10_append_37 (by decide) (fun c37 => ?_) (fun c37 => ?_)
  · replace hf := k_ifP hf c37
    refine lv_aload_n X.1 X.2.1 dX10_append_50 rfl (lv_at hl 1 rfl) ?_
    refine k_get (v := .ref (ad 1 0)) X hU sh_0_0 fl_X10_10 rfl dX10_append_51 ?_
    refine lv_iload_n X.1 X.2.1 dX10_append_54 rfl (lv_at hl 2 rfl) ?_
    obtain ⟨r55, hr55, hf⟩ := k_bdE hf
    refine k_backv X hS (k_runV (As := [.int a1]) (rest := []) X hS hU sh_1_0 (by decide) rfl vl_X10_85 (c_X4_addBytesOf X.2.2.2.2.2.2.1 rfl hr55) rfl rfl rfl hl.1 ⟨Nat.le_of_ble_eq_true rfl, Nat.le_of_ble_eq_true rfl⟩ (Nat.le_of_ble_eq_true rfl) dX10_append_55 ⟨Nat.zero_le _, Nat.zero_le _⟩) (fun H locs hU hS => ?_)
    obtain ⟨u55, e55, hf⟩ := k_ltE hf
    rw [← e55] at hU
    refine lv_aload_n X.1 X.2.1 dX10_append_58 rfl (lv_at hl 1 rfl) ?_
    refine k_get (v := .ref (ad 1 0)) X hU sh_0_0 fl_X10_10 rfl dX10_append_59 ?_
    refine lv_iload_n X.1 X.2.1 dX10_append_62 rfl (lv_at hl 3 rfl) ?_
    obtain ⟨r63, hr63, hf⟩ := k_bdE hf
    refine k_backv X hS (k_runV (As := [.int a2]) (rest := []) X hS hU sh_1_0 (by decide) rfl vl_X10_85 (c_X4_addBytesOf X.2.2.2.2.2.2.1 rfl hr63) rfl rfl rfl hl.1 ⟨Nat.le_of_ble_eq_true rfl, Nat.le_of_ble_eq_true rfl⟩ (Nat.le_of_ble_eq_true rfl) dX10_append_63 ⟨Nat.zero_le _, Nat.zero_le _⟩) (fun H locs hU hS => ?_)
    obtain ⟨u63, e63, hf⟩ := k_ltE hf
    rw [← e63] at hU
    refine lv_aload_n X.1 X.2.1 dX10_append_66 rfl (lv_at hl 1 rfl) ?_
    refine k_get (v := .ref (ad 1 0)) X hU sh_0_0 fl_X10_10 rfl dX10_append_67 ?_
    refine lv_iload_n X.1 X.2.1 dX10_append_70 rfl (lv_at hl 4 rfl) ?_
    obtain ⟨r71, hr71, hf⟩ := k_bdE hf
    refine k_backv X hS (k_runV (As := [.int a3]) (rest := []) X hS hU sh_1_0 (by decide) rfl vl_X10_85 (c_X4_addBytesOf X.2.2.2.2.2.2.1 rfl hr71) rfl rfl rfl hl.1 ⟨Nat.le_of_ble_eq_true rfl, Nat.le_of_ble_eq_true rfl⟩ (Nat.le_of_ble_eq_true rfl) dX10_append_71 ⟨Nat.zero_le _, Nat.zero_le _⟩) (fun H locs hU hS => ?_)
    obtain ⟨u71, e71, hf⟩ := k_ltE hf
    rw [← e71] at hU
    refine lv_aload_n X.1 X.2.1 dX10_append_74 rfl (lv_at hl 1 rfl) ?_
    refine k_get (v := .ref (ad 1 0)) X hU sh_0_0 fl_X10_10 rfl dX10_append_75 ?_
    refine lv_iload X.1 X.2.1 dX10_append_78 (lv_at hl 5 rfl) ?_
    obtain ⟨r80, hr80, hf⟩ := k_bdE hf
    refine k_backv X hS (k_runV (As := [.int a4]) (rest := []) X hS hU sh_1_0 (by decide) rfl vl_X10_85 (c_X4_addBytesOf X.2.2.2.2.2.2.1 rfl hr80) rfl rfl rfl hl.1 ⟨Nat.le_of_ble_eq_true rfl, Nat.le_of_ble_eq_true rfl⟩ (Nat.le_of_ble_eq_true rfl) dX10_append_80 ⟨Nat.zero_le _, Nat.zero_le _⟩) (fun H locs hU hS => ?_)
    obtain ⟨u80, e80, hf⟩ := k_ltE hf
    rw [← e80] at hU
    refine lv_aload_n X.1 X.2.1 dX10_append_83 rfl (lv_at hl 1 rfl) ?_
    refine k_get (v := .ref (ad 1 0)) X hU sh_0_0 fl_X10_10 rfl dX10_append_84 ?_
    refine lv_iload X.1 X.2.1 dX10_append_87 (lv_at hl 6 rfl) ?_
    obtain ⟨r89, hr89, hf⟩ := k_bdE hf
    refine k_backv X hS (k_runV (As := [.int a5]) (rest := []) X hS hU sh_1_0 (by decide) rfl vl_X10_85 (c_X4_addBytesOf X.2.2.2.2.2.2.1 rfl hr89) rfl rfl rfl hl.1 ⟨Nat.le_of_ble_eq_true rfl, Nat.le_of_ble_eq_true rfl⟩ (Nat.le_of_ble_eq_true rfl) dX10_append_89 ⟨Nat.zero_le _, Nat.zero_le _⟩) (fun H locs hU hS => ?_)
    obtain ⟨u89, e89, hf⟩ := k_ltE hf
    rw [← e89] at hU
    refine lv_aload_n X.1 X.2.1 dX10_append_92 rfl (lv_at hl 1 rfl) ?_
    refine k_get (v := .ref (ad 1 0)) X hU sh_0_0 fl_X10_10 rfl dX10_append_93 ?_
    refine k_get (v := .int (u89 1 0 2)) X hU sh_1_0 fl_X10_89 rfl dX10_append_96 ?_
    obtain ⟨hz1, hz2⟩ := k_injl hf
    subst hz1
    subst hz2
    exact k_iret (v := u89 1 0 2) X hU hS hr hlk rfl rfl dX10_append_99
  · replace hf := k_ifN hf c37
    exact absurd hf k_ninl
def rx_X10_append : Room := { frames := 6, cells := 1, slots := 6, locals := 90 }
set_option maxRecDepth 100000 in
set_option maxHeartbeats 4000000 in
theorem x_X10_append {l : Launch} {D : va_G} {G : Nat → ClassId} {ad : Nat → Nat → Nat} {u : k_U} (hI : k_ok ad) (hlT : l.stackTraces = false) {a1 : Int32} {a2 : Int32} {a3 : Int32} {a4 : Int32} {a5 : Int32} {sz : Nat} {r1 : k_U} {j : Nat} (hf : f_X10_append u a1 a2 a3 a4 a5 = some (r1, Sum.inr j)) : vx_Met l yX10_append (.code yX10_append cX10_append 7 (some .int) :: lw_g) rx_X10_append (k_Pre D G ad u sz [.ref (ad 0 0), .int a1, .int a2, .int a3, .int a4, .int a5]) (k_Qn ad sz) (k_XC D G ad r1 j sz) 1 6 (k_A ad sz) := by
  refine k_xofW (by decide +kernel) hI (Nat.le_of_ble_eq_true rfl) ?_
  intro p e s m args below meth c X hr hlk hex hU hS ls hl
  have hl : lv_has ls 7 [(0, .ref (ad 0 0)), (1, .int a1), (2, .int a2), (3, .int a3), (4, .int a4), (5, .int a5)] := hl
  unfold f_X10_append at hf
  refine lv_iload_n X.1 X.2.1 dX10_append_0 rfl (lv_at hl 1 rfl) ?_
  obtain ⟨r1, hr1, hf⟩ := k_bdE hf
  refine k_backi X hS (k_runS (As := [.int a1]) (rest := []) X hS hU sl_X10_70 (c_X4_bytesIn X.2.2.2.2.2.2.1 hr1) rfl rfl rfl hl.1 ⟨Nat.le_of_ble_eq_true rfl, Nat.le_of_ble_eq_true rfl⟩ (Nat.le_of_ble_eq_true rfl) dX10_append_1 ⟨Nat.zero_le _, Nat.zero_le _⟩) (fun H locs hU hS => ?_)
  refine lv_iload_n X.1 X.2.1 dX10_append_4 rfl (lv_at hl 2 rfl) ?_
  obtain ⟨r5, hr5, hf⟩ := k_bdE hf
  refine k_backi X hS (k_runS (As := [.int a2]) (rest := [.int r1]) X hS hU sl_X10_70 (c_X4_bytesIn X.2.2.2.2.2.2.1 hr5) rfl rfl rfl hl.1 ⟨Nat.le_of_ble_eq_true rfl, Nat.le_of_ble_eq_true rfl⟩ (Nat.le_of_ble_eq_true rfl) dX10_append_5 ⟨Nat.zero_le _, Nat.zero_le _⟩) (fun H locs hU hS => ?_)
  refine lv_iadd X.1 X.2.1 dX10_append_8 ?_
  refine lv_iload_n X.1 X.2.1 dX10_append_9 rfl (lv_at hl 3 rfl) ?_
  obtain ⟨r10, hr10, hf⟩ := k_bdE hf
  refine k_backi X hS (k_runS (As := [.int a3]) (rest := [.int (r1 + r5)]) X hS hU sl_X10_70 (c_X4_bytesIn X.2.2.2.2.2.2.1 hr10) rfl rfl rfl hl.1 ⟨Nat.le_of_ble_eq_true rfl, Nat.le_of_ble_eq_true rfl⟩ (Nat.le_of_ble_eq_true rfl) dX10_append_10 ⟨Nat.zero_le _, Nat.zero_le _⟩) (fun H locs hU hS => ?_)
  refine lv_iadd X.1 X.2.1 dX10_append_13 ?_
  refine lv_iload X.1 X.2.1 dX10_append_14 (lv_at hl 4 rfl) ?_
  obtain ⟨r16, hr16, hf⟩ := k_bdE hf
  refine k_backi X hS (k_runS (As := [.int a4]) (rest := [.int ((r1 + r5) + r10)]) X hS hU sl_X10_70 (c_X4_bytesIn X.2.2.2.2.2.2.1 hr16) rfl rfl rfl hl.1 ⟨Nat.le_of_ble_eq_true rfl, Nat.le_of_ble_eq_true rfl⟩ (Nat.le_of_ble_eq_true rfl) dX10_append_16 ⟨Nat.zero_le _, Nat.zero_le _⟩) (fun H locs hU hS => ?_)
  refine lv_iadd X.1 X.2.1 dX10_append_19 ?_
  refine lv_iload X.1 X.2.1 dX10_append_20 (lv_at hl 5 rfl) ?_
  obtain ⟨r22, hr22, hf⟩ := k_bdE hf
  refine k_backi X hS (k_runS (As := [.int a5]) (rest := [.int (((r1 + r5) + r10) + r16)]) X hS hU sl_X10_70 (c_X4_bytesIn X.2.2.2.2.2.2.1 hr22) rfl rfl rfl hl.1 ⟨Nat.le_of_ble_eq_true rfl, Nat.le_of_ble_eq_true rfl⟩ (Nat.le_of_ble_eq_true rfl) dX10_append_22 ⟨Nat.zero_le _, Nat.zero_le _⟩) (fun H locs hU hS => ?_)
  refine lv_iadd X.1 X.2.1 dX10_append_25 ?_
  obtain ⟨x26, e26, hf⟩ := k_ltE hf
  refine k_nmi e26 ?_
  refine lv_istore (lv' := [(6, .int x26), (0, .ref (ad 0 0)), (1, .int a1), (2, .int a2), (3, .int a3), (4, .int a4), (5, .int a5)]) X.1 X.2.1 dX10_append_26 hl (by decide) rfl (fun ls hl => ?_)
  refine lv_iload X.1 X.2.1 dX10_append_28 (lv_at hl 0 rfl) ?_
  refine lv_aload_n X.1 X.2.1 dX10_append_30 rfl (lv_at hl 1 rfl) ?_
  refine k_get (v := .ref (ad 1 0)) X hU sh_0_0 fl_X10_10 rfl dX10_append_31 ?_
  obtain ⟨r34, hr34, hf⟩ := k_bdE hf
  refine k_backi X hS (k_runV (As := []) (rest := [.int x26]) X hS hU sh_1_0 (by decide) rfl vl_X10_74 (c_X4_room X.2.2.2.2.2.2.1 rfl hr34) rfl rfl rfl hl.1 ⟨Nat.le_of_ble_eq_true rfl, Nat.le_of_ble_eq_true rfl⟩ (Nat.le_of_ble_eq_true rfl) dX10_append_34 ⟨Nat.zero_le _, Nat.zero_le _⟩) (fun H locs hU hS => ?_)
  refine lv_icmp_le (tgt := 50) X.1 X.2.1 dX10_append_37 (by decide) (fun c37 => ?_) (fun c37 => ?_)
  · replace hf := k_ifP hf c37
    refine lv_aload_n X.1 X.2.1 dX10_append_50 rfl (lv_at hl 1 rfl) ?_
    refine k_get (v := .ref (ad 1 0)) X hU sh_0_0 fl_X10_10 rfl dX10_append_51 ?_
    refine lv_iload_n X.1 X.2.1 dX10_append_54 rfl (lv_at hl 2 rfl) ?_
    obtain ⟨r55, hr55, hf⟩ := k_bdE hf
    refine k_backv X hS (k_runV (As := [.int a1]) (rest := []) X hS hU sh_1_0 (by decide) rfl vl_X10_85 (c_X4_addBytesOf X.2.2.2.2.2.2.1 rfl hr55) rfl rfl rfl hl.1 ⟨Nat.le_of_ble_eq_true rfl, Nat.le_of_ble_eq_true rfl⟩ (Nat.le_of_ble_eq_true rfl) dX10_append_55 ⟨Nat.zero_le _, Nat.zero_le _⟩) (fun H locs hU hS => ?_)
    obtain ⟨u55, e55, hf⟩ := k_ltE hf
    rw [← e55] at hU
    refine lv_aload_n X.1 X.2.1 dX10_append_58 rfl (lv_at hl 1 rfl) ?_
    refine k_get (v := .ref (ad 1 0)) X hU sh_0_0 fl_X10_10 rfl dX10_append_59 ?_
    refine lv_iload_n X.1 X.2.1 dX10_append_62 rfl (lv_at hl 3 rfl) ?_
    obtain ⟨r63, hr63, hf⟩ := k_bdE hf
    refine k_backv X hS (k_runV (As := [.int a2]) (rest := []) X hS hU sh_1_0 (by decide) rfl vl_X10_85 (c_X4_addBytesOf X.2.2.2.2.2.2.1 rfl hr63) rfl rfl rfl hl.1 ⟨Nat.le_of_ble_eq_true rfl, Nat.le_of_ble_eq_true rfl⟩ (Nat.le_of_ble_eq_true rfl) dX10_append_63 ⟨Nat.zero_le _, Nat.zero_le _⟩) (fun H locs hU hS => ?_)
    obtain ⟨u63, e63, hf⟩ := k_ltE hf
    rw [← e63] at hU
    refine lv_aload_n X.1 X.2.1 dX10_append_66 rfl (lv_at hl 1 rfl) ?_
    refine k_get (v := .ref (ad 1 0)) X hU sh_0_0 fl_X10_10 rfl dX10_append_67 ?_
    refine lv_iload_n X.1 X.2.1 dX10_append_70 rfl (lv_at hl 4 rfl) ?_
    obtain ⟨r71, hr71, hf⟩ := k_bdE hf
    refine k_backv X hS (k_runV (As := [.int a3]) (rest := []) X hS hU sh_1_0 (by decide) rfl vl_X10_85 (c_X4_addBytesOf X.2.2.2.2.2.2.1 rfl hr71) rfl rfl rfl hl.1 ⟨Nat.le_of_ble_eq_true rfl, Nat.le_of_ble_eq_true rfl⟩ (Nat.le_of_ble_eq_true rfl) dX10_append_71 ⟨Nat.zero_le _, Nat.zero_le _⟩) (fun H locs hU hS => ?_)
    obtain ⟨u71, e71, hf⟩ := k_ltE hf
    rw [← e71] at hU
    refine lv_aload_n X.1 X.2.1 dX10_append_74 rfl (lv_at hl 1 rfl) ?_
    refine k_get (v := .ref (ad 1 0)) X hU sh_0_0 fl_X10_10 rfl dX10_append_75 ?_
    refine lv_iload X.1 X.2.1 dX10_append_78 (lv_at hl 5 rfl) ?_
    obtain ⟨r80, hr80, hf⟩ := k_bdE hf
    refine k_backv X hS (k_runV (As := [.int a4]) (rest := []) X hS hU sh_1_0 (by decide) rfl vl_X10_85 (c_X4_addBytesOf X.2.2.2.2.2.2.1 rfl hr80) rfl rfl rfl hl.1 ⟨Nat.le_of_ble_eq_true rfl, Nat.le_of_ble_eq_true rfl⟩ (Nat.le_of_ble_eq_true rfl) dX10_append_80 ⟨Nat.zero_le _, Nat.zero_le _⟩) (fun H locs hU hS => ?_)
    obtain ⟨u80, e80, hf⟩ := k_ltE hf
    rw [← e80] at hU
    refine lv_aload_n X.1 X.2.1 dX10_append_83 rfl (lv_at hl 1 rfl) ?_
    refine k_get (v := .ref (ad 1 0)) X hU sh_0_0 fl_X10_10 rfl dX10_append_84 ?_
    refine lv_iload X.1 X.2.1 dX10_append_87 (lv_at hl 6 rfl) ?_
    obtain ⟨r89, hr89, hf⟩ := k_bdE hf
    refine k_backv X hS (k_runV (As := [.int a5]) (rest := []) X hS hU sh_1_0 (by decide) rfl vl_X10_85 (c_X4_addBytesOf X.2.2.2.2.2.2.1 rfl hr89) rfl rfl rfl hl.1 ⟨Nat.le_of_ble_eq_true rfl, Nat.le_of_ble_eq_true rfl⟩ (Nat.le_of_ble_eq_true rfl) dX10_append_89 ⟨Nat.zero_le _, Nat.zero_le _⟩) (fun H locs hU hS => ?_)
    obtain ⟨u89, e89, hf⟩ := k_ltE hf
    rw [← e89] at hU
    refine lv_aload_n X.1 X.2.1 dX10_append_92 rfl (lv_at hl 1 rfl) ?_
    refine k_get (v := .ref (ad 1 0)) X hU sh_0_0 fl_X10_10 rfl dX10_append_93 ?_
    refine k_get (v := .int (u89 1 0 2)) X hU sh_1_0 fl_X10_89 rfl dX10_append_96 ?_
    exact absurd hf k_ninr
  · replace hf := k_ifN hf c37
    obtain ⟨hz1, hz2⟩ := k_injr hf
    subst hz1
    subst hz2
    exact k_thrS X hlT hU hS (i := 33) rfl xw_78 (by decide +kernel) rfl hl.1 dX10_append_40 dX10_append_43 dX10_append_44 dX10_append_46 dX10_append_49 hex (Nat.le_of_ble_eq_true rfl) (Nat.le_of_ble_eq_true rfl) ⟨Nat.le_of_ble_eq_true rfl, Nat.le_of_ble_eq_true rfl⟩ hlk ⟨Nat.le_of_ble_eq_true rfl, Nat.le_of_ble_eq_true rfl⟩
def rm_X4_advance : Room := { frames := 0, cells := 0, slots := 0, locals := 0 }
set_option maxRecDepth 100000 in
set_option maxHeartbeats 4000000 in
theorem c_X4_advance {l : Launch} {D : va_G} {G : Nat → ClassId} {ad : Nat → Nat → Nat} {u : k_U} (hI : k_ok ad) {w : k_M} (hw : u 1 = w) {sz : Nat} {r : k_M} (hf : f_X4_advance w = some r) : Met l yX4_advance (.code yX4_advance cX4_advance 1 none :: lw_g) rm_X4_advance (k_Pre D G ad u sz [.ref (ad 1 0)]) (k_Qv D G ad (k_uc u 1 r) sz) 0 0 (k_A ad sz) := by
  refine k_ofW (by decide +kernel) hI (Nat.le_of_ble_eq_true rfl) ?_
  intro p e s m args below meth c X hr hlk hU hS ls hl
  have hl : lv_has ls 1 [(0, .ref (ad 1 0))] := hl
  have hU : k_Uv D G ad (k_uc u 1 w) s.heap := by rw [← hw, k_uc_id]; exact hU
  have L170 : ∀ (n170 : Nat) (H : Heap) (locs : List Loc) (ls : Array Slot) (w : k_M), k_Uv D G ad (k_uc u 1 w) H → va_S (k_A ad sz) s.heap H locs → lv_has ls 1 [(0, .ref (ad 1 0))] → f_X4_advance_170 n170 w = some r → W p l e rm_X4_advance s m args below meth c H locs 0 0 (MQ below (k_Qv D G ad (k_uc u 1 r) sz) args s 0 0 (k_A ad sz)) (F0 m 170 ls []) := by
    intro n170
    induction n170 with
    | zero =>
      intro H locs ls w hU hS hl hf
      cases (show none = some r from hf)
    | succ n170 ih170 =>
      have J227 : ∀ (H : Heap) (locs : List Loc) (ls : Array Slot) (w : k_M), k_Uv D G ad (k_uc u 1 w) H → va_S (k_A ad sz) s.heap H locs → lv_has ls 1 [(0, .ref (ad 1 0))] → f_X4_advance_227 (f_X4_advance_170 n170) w = some r → W p l e rm_X4_advance s m args below meth c H locs 0 0 (MQ below (k_Qv D G ad (k_uc u 1 r) sz) args s 0 0 (k_A ad sz)) (F0 m 227 ls []) := by
        intro H locs ls w hU hS hl hf
        unfold f_X4_advance_227 at hf
        refine lv_aload_n X.1 X.2.1 dX4_advance_227 rfl (lv_at hl 0 rfl) ?_
        refine lv_dup X.1 X.2.1 dX4_advance_228 rfl ?_
        refine k_getw (v := .int (w 0 7)) X hU sh_1_0 fl_X4_32 rfl dX4_advance_229 ?_
        refine lv_iconst (v := 1) X.1 X.2.1 dX4_advance_232 (by decide) ?_
        refine lv_iadd X.1 X.2.1 dX4_advance_233 ?_
        obtain ⟨w234, e234, hf⟩ := k_ltE hf
        refine k_putw X hU hS sh_1_0 fp_X4_32 rfl e234 rfl rfl dX4_advance_234 (fun H locs hU hS => ?_)
        refine lv_goto (tgt := 170) X.1 X.2.1 dX4_advance_237 (by decide) ?_
        exact ih170 _ _ _ w234 hU hS (lv_sub hl [0] rfl) hf
      intro H locs ls w hU hS hl hf
      replace hf : f_X4_advance_170_b (f_X4_advance_170 n170) w = some r := hf
      unfold f_X4_advance_170_b at hf
      refine lv_aload_n X.1 X.2.1 dX4_advance_170 rfl (lv_at hl 0 rfl) ?_
      refine k_getw (v := .int (w 0 7)) X hU sh_1_0 fl_X4_32 rfl dX4_advance_171 ?_
      refine lv_aload_n X.1 X.2.1 dX4_advance_174 rfl (lv_at hl 0 rfl) ?_
      refine k_getw (v := .int (w 0 2)) X hU sh_1_0 fl_X4_22 rfl dX4_advance_175 ?_
      refine lv_icmp_ge (tgt := 240) X.1 X.2.1 dX4_advance_178 (by decide) (fun c178 => ?_) (fun c178 => ?_)
      · replace hf := k_ifP hf c178
        have hz := Option.some.inj hf
        subst hz
        exact k_vret X hU hS hr hlk dX4_advance_240
      · replace hf := k_ifN hf c178
        refine lv_aload_n X.1 X.2.1 dX4_advance_181 rfl (lv_at hl 0 rfl) ?_
        refine k_getw (v := .ref (ad 1 2)) X hU sh_1_0 fl_X4_15 rfl dX4_advance_182 ?_
        refine lv_aload_n X.1 X.2.1 dX4_advance_185 rfl (lv_at hl 0 rfl) ?_
        refine k_getw (v := .int (w 0 7)) X hU sh_1_0 fl_X4_32 rfl dX4_advance_186 ?_
        obtain ⟨hi189, hf⟩ := k_ckE hf
        refine k_ildw (j0 := (w 0 7).toNatClampNeg) X hU sh_1_2 (k_vin (n := 600) hi189 (by decide)) rfl dX4_advance_189 ?_
        refine lv_iconst (v := 2) X.1 X.2.1 dX4_advance_190 (by decide) ?_
        refine lv_icmp_ne (tgt := 240) X.1 X.2.1 dX4_advance_191 (by decide) (fun c191 => ?_) (fun c191 => ?_)
        · replace hf := k_ifN hf c191
          have hz := Option.some.inj hf
          subst hz
          exact k_vret X hU hS hr hlk dX4_advance_240
        · replace hf := k_ifP hf c191
          refine lv_aload_n X.1 X.2.1 dX4_advance_194 rfl (lv_at hl 0 rfl) ?_
          refine k_getw (v := .int (w 0 8)) X hU sh_1_0 fl_X4_56 rfl dX4_advance_195 ?_
          refine lv_ldc (v := 1000000) X.1 X.2.1 X.2.2.2.1 (X.2.2.2.2.1 _ t_394) dX4_advance_198 ?_
          refine lv_icmp_ge (tgt := 227) X.1 X.2.1 dX4_advance_200 (by decide) (fun c200 => ?_) (fun c200 => ?_)
          · replace hf := k_ifP hf c200
            exact J227 _ _ _ w hU hS (lv_sub hl [0] rfl) hf
          · replace hf := k_ifN hf c200
            refine lv_aload_n X.1 X.2.1 dX4_advance_203 rfl (lv_at hl 0 rfl) ?_
            refine lv_aload_n X.1 X.2.1 dX4_advance_204 rfl (lv_at hl 0 rfl) ?_
            refine k_getw (v := .int (w 0 8)) X hU sh_1_0 fl_X4_56 rfl dX4_advance_205 ?_
            refine lv_bipush (v := 10) X.1 X.2.1 dX4_advance_208 (by decide) ?_
            refine lv_imul X.1 X.2.1 dX4_advance_210 ?_
            refine lv_aload_n X.1 X.2.1 dX4_advance_211 rfl (lv_at hl 0 rfl) ?_
            refine k_getw (v := .ref (ad 1 1)) X hU sh_1_0 fl_X4_11 rfl dX4_advance_212 ?_
            refine lv_aload_n X.1 X.2.1 dX4_advance_215 rfl (lv_at hl 0 rfl) ?_
            refine k_getw (v := .int (w 0 7)) X hU sh_1_0 fl_X4_32 rfl dX4_advance_216 ?_
            obtain ⟨hi219, hf⟩ := k_ckE hf
            refine k_ildw (j0 := (w 0 7).toNatClampNeg) X hU sh_1_1 (k_vin (n := 600) hi219 (by decide)) rfl dX4_advance_219 ?_
            refine lv_iadd X.1 X.2.1 dX4_advance_220 ?_
            refine lv_bipush (v := 48) X.1 X.2.1 dX4_advance_221 (by decide) ?_
            refine lv_isub X.1 X.2.1 dX4_advance_223 ?_
            obtain ⟨w224, e224, hf⟩ := k_ltE hf
            refine k_putw X hU hS sh_1_0 fp_X4_56 rfl e224 rfl rfl dX4_advance_224 (fun H locs hU hS => ?_)
            exact J227 _ _ _ w224 hU hS (lv_sub hl [0] rfl) hf
  have L109 : ∀ (n109 : Nat) (H : Heap) (locs : List Loc) (ls : Array Slot) (w : k_M), k_Uv D G ad (k_uc u 1 w) H → va_S (k_A ad sz) s.heap H locs → lv_has ls 1 [(0, .ref (ad 1 0))] → f_X4_advance_109 n109 w = some r → W p l e rm_X4_advance s m args below meth c H locs 0 0 (MQ below (k_Qv D G ad (k_uc u 1 r) sz) args s 0 0 (k_A ad sz)) (F0 m 109 ls []) := by
    intro n109
    induction n109 with
    | zero =>
      intro H locs ls w hU hS hl hf
      cases (show none = some r from hf)
    | succ n109 ih109 =>
      intro H locs ls w hU hS hl hf
      replace hf : f_X4_advance_109_b (f_X4_advance_109 n109) w = some r := hf
      unfold f_X4_advance_109_b at hf
      refine lv_aload_n X.1 X.2.1 dX4_advance_109 rfl (lv_at hl 0 rfl) ?_
      refine k_getw (v := .int (w 0 7)) X hU sh_1_0 fl_X4_32 rfl dX4_advance_110 ?_
      refine lv_aload_n X.1 X.2.1 dX4_advance_113 rfl (lv_at hl 0 rfl) ?_
      refine k_getw (v := .int (w 0 2)) X hU sh_1_0 fl_X4_22 rfl dX4_advance_114 ?_
      refine lv_icmp_ge (tgt := 240) X.1 X.2.1 dX4_advance_117 (by decide) (fun c117 => ?_) (fun c117 => ?_)
      · replace hf := k_ifP hf c117
        have hz := Option.some.inj hf
        subst hz
        exact k_vret X hU hS hr hlk dX4_advance_240
      · replace hf := k_ifN hf c117
        refine lv_aload_n X.1 X.2.1 dX4_advance_120 rfl (lv_at hl 0 rfl) ?_
        refine k_getw (v := .ref (ad 1 2)) X hU sh_1_0 fl_X4_15 rfl dX4_advance_121 ?_
        refine lv_aload_n X.1 X.2.1 dX4_advance_124 rfl (lv_at hl 0 rfl) ?_
        refine k_getw (v := .int (w 0 7)) X hU sh_1_0 fl_X4_32 rfl dX4_advance_125 ?_
        obtain ⟨hi128, hf⟩ := k_ckE hf
        refine k_ildw (j0 := (w 0 7).toNatClampNeg) X hU sh_1_2 (k_vin (n := 600) hi128 (by decide)) rfl dX4_advance_128 ?_
        refine lv_iconst (v := 1) X.1 X.2.1 dX4_advance_129 (by decide) ?_
        refine lv_icmp_ne (tgt := 240) X.1 X.2.1 dX4_advance_130 (by decide) (fun c130 => ?_) (fun c130 => ?_)
        · replace hf := k_ifN hf c130
          have hz := Option.some.inj hf
          subst hz
          exact k_vret X hU hS hr hlk dX4_advance_240
        · replace hf := k_ifP hf c130
          refine lv_aload_n X.1 X.2.1 dX4_advance_133 rfl (lv_at hl 0 rfl) ?_
          refine lv_dup X.1 X.2.1 dX4_advance_134 rfl ?_
          refine k_getw (v := .int (w 0 7)) X hU sh_1_0 fl_X4_32 rfl dX4_advance_135 ?_
          refine lv_iconst (v := 1) X.1 X.2.1 dX4_advance_138 (by decide) ?_
          refine lv_iadd X.1 X.2.1 dX4_advance_139 ?_
          obtain ⟨w140, e140, hf⟩ := k_ltE hf
          refine k_putw X hU hS sh_1_0 fp_X4_32 rfl e140 rfl rfl dX4_advance_140 (fun H locs hU hS => ?_)
          refine lv_goto (tgt := 109) X.1 X.2.1 dX4_advance_143 (by decide) ?_
          exact ih109 _ _ _ w140 hU hS (lv_sub hl [0] rfl) hf
  have J53 : ∀ (H : Heap) (locs : List Loc) (ls : Array Slot) (w : k_M), k_Uv D G ad (k_uc u 1 w) H → va_S (k_A ad sz) s.heap H locs → lv_has ls 1 [(0, .ref (ad 1 0))] → f_X4_advance_53 w = some r → W p l e rm_X4_advance s m args below meth c H locs 0 0 (MQ below (k_Qv D G ad (k_uc u 1 r) sz) args s 0 0 (k_A ad sz)) (F0 m 53 ls []) := by
    intro H locs ls w hU hS hl hf
    unfold f_X4_advance_53 at hf
    refine lv_aload_n X.1 X.2.1 dX4_advance_53 rfl (lv_at hl 0 rfl) ?_
    refine lv_aload_n X.1 X.2.1 dX4_advance_54 rfl (lv_at hl 0 rfl) ?_
    refine k_getw (v := .int (w 0 6)) X hU sh_1_0 fl_X4_49 rfl dX4_advance_55 ?_
    obtain ⟨w58, e58, hf⟩ := k_ltE hf
    refine k_putw X hU hS sh_1_0 fp_X4_32 rfl e58 rfl rfl dX4_advance_58 (fun H locs hU hS => ?_)
    refine lv_aload_n X.1 X.2.1 dX4_advance_61 rfl (lv_at hl 0 rfl) ?_
    refine k_getw (v := .int (w58 0 6)) X hU sh_1_0 fl_X4_49 rfl dX4_advance_62 ?_
    refine lv_aload_n X.1 X.2.1 dX4_advance_65 rfl (lv_at hl 0 rfl) ?_
    refine k_getw (v := .int (w58 0 2)) X hU sh_1_0 fl_X4_22 rfl dX4_advance_66 ?_
    refine lv_icmp_lt (tgt := 78) X.1 X.2.1 dX4_advance_69 (by decide) (fun c69 => ?_) (fun c69 => ?_)
    · replace hf := k_ifP hf c69
      refine lv_aload_n X.1 X.2.1 dX4_advance_78 rfl (lv_at hl 0 rfl) ?_
      refine lv_aload_n X.1 X.2.1 dX4_advance_79 rfl (lv_at hl 0 rfl) ?_
      refine k_getw (v := .ref (ad 1 2)) X hU sh_1_0 fl_X4_15 rfl dX4_advance_80 ?_
      refine lv_aload_n X.1 X.2.1 dX4_advance_83 rfl (lv_at hl 0 rfl) ?_
      refine k_getw (v := .int (w58 0 6)) X hU sh_1_0 fl_X4_49 rfl dX4_advance_84 ?_
      obtain ⟨hi87, hf⟩ := k_ckE hf
      refine k_ildw (j0 := (w58 0 6).toNatClampNeg) X hU sh_1_2 (k_vin (n := 600) hi87 (by decide)) rfl dX4_advance_87 ?_
      obtain ⟨w88, e88, hf⟩ := k_ltE hf
      refine k_putw X hU hS sh_1_0 fp_X4_42 rfl e88 rfl rfl dX4_advance_88 (fun H locs hU hS => ?_)
      refine lv_aload_n X.1 X.2.1 dX4_advance_91 rfl (lv_at hl 0 rfl) ?_
      refine lv_dup X.1 X.2.1 dX4_advance_92 rfl ?_
      refine k_getw (v := .int (w88 0 7)) X hU sh_1_0 fl_X4_32 rfl dX4_advance_93 ?_
      refine lv_iconst (v := 1) X.1 X.2.1 dX4_advance_96 (by decide) ?_
      refine lv_iadd X.1 X.2.1 dX4_advance_97 ?_
      obtain ⟨w98, e98, hf⟩ := k_ltE hf
      refine k_putw X hU hS sh_1_0 fp_X4_32 rfl e98 rfl rfl dX4_advance_98 (fun H locs hU hS => ?_)
      refine lv_aload_n X.1 X.2.1 dX4_advance_101 rfl (lv_at hl 0 rfl) ?_
      refine k_getw (v := .int (w98 0 5)) X hU sh_1_0 fl_X4_42 rfl dX4_advance_102 ?_
      refine lv_iconst (v := 1) X.1 X.2.1 dX4_advance_105 (by decide) ?_
      refine lv_icmp_ne (tgt := 146) X.1 X.2.1 dX4_advance_106 (by decide) (fun c106 => ?_) (fun c106 => ?_)
      · replace hf := k_ifN hf c106
        refine lv_aload_n X.1 X.2.1 dX4_advance_146 rfl (lv_at hl 0 rfl) ?_
        refine k_getw (v := .int (w98 0 5)) X hU sh_1_0 fl_X4_42 rfl dX4_advance_147 ?_
        refine lv_iconst (v := 2) X.1 X.2.1 dX4_advance_150 (by decide) ?_
        refine lv_icmp_ne (tgt := 240) X.1 X.2.1 dX4_advance_151 (by decide) (fun c151 => ?_) (fun c151 => ?_)
        · replace hf := k_ifN hf c151
          have hz := Option.some.inj hf
          subst hz
          exact k_vret X hU hS hr hlk dX4_advance_240
        · replace hf := k_ifP hf c151
          refine lv_aload_n X.1 X.2.1 dX4_advance_154 rfl (lv_at hl 0 rfl) ?_
          refine lv_aload_n X.1 X.2.1 dX4_advance_155 rfl (lv_at hl 0 rfl) ?_
          refine k_getw (v := .ref (ad 1 1)) X hU sh_1_0 fl_X4_11 rfl dX4_advance_156 ?_
          refine lv_aload_n X.1 X.2.1 dX4_advance_159 rfl (lv_at hl 0 rfl) ?_
          refine k_getw (v := .int (w98 0 6)) X hU sh_1_0 fl_X4_49 rfl dX4_advance_160 ?_
          obtain ⟨hi163, hf⟩ := k_ckE hf
          refine k_ildw (j0 := (w98 0 6).toNatClampNeg) X hU sh_1_1 (k_vin (n := 600) hi163 (by decide)) rfl dX4_advance_163 ?_
          refine lv_bipush (v := 48) X.1 X.2.1 dX4_advance_164 (by decide) ?_
          refine lv_isub X.1 X.2.1 dX4_advance_166 ?_
          obtain ⟨w167, e167, hf⟩ := k_ltE hf
          refine k_putw X hU hS sh_1_0 fp_X4_56 rfl e167 rfl rfl dX4_advance_167 (fun H locs hU hS => ?_)
          exact L170 k_N _ _ _ w167 hU hS (lv_sub hl [0] rfl) hf
      · replace hf := k_ifP hf c106
        exact L109 k_N _ _ _ w98 hU hS (lv_sub hl [0] rfl) hf
    · replace hf := k_ifN hf c69
      refine lv_aload_n X.1 X.2.1 dX4_advance_72 rfl (lv_at hl 0 rfl) ?_
      refine lv_iconst (v := 0) X.1 X.2.1 dX4_advance_73 (by decide) ?_
      obtain ⟨w74, e74, hf⟩ := k_ltE hf
      refine k_putw X hU hS sh_1_0 fp_X4_42 rfl e74 rfl rfl dX4_advance_74 (fun H locs hU hS => ?_)
      have hz := Option.some.inj hf
      subst hz
      exact k_vret X hU hS hr hlk dX4_advance_77
  have L16 : ∀ (n16 : Nat) (H : Heap) (locs : List Loc) (ls : Array Slot) (w : k_M), k_Uv D G ad (k_uc u 1 w) H → va_S (k_A ad sz) s.heap H locs → lv_has ls 1 [(0, .ref (ad 1 0))] → f_X4_advance_16 n16 w = some r → W p l e rm_X4_advance s m args below meth c H locs 0 0 (MQ below (k_Qv D G ad (k_uc u 1 r) sz) args s 0 0 (k_A ad sz)) (F0 m 16 ls []) := by
    intro n16
    induction n16 with
    | zero =>
      intro H locs ls w hU hS hl hf
      cases (show none = some r from hf)
    | succ n16 ih16 =>
      intro H locs ls w hU hS hl hf
      replace hf : f_X4_advance_16_b (f_X4_advance_16 n16) w = some r := hf
      unfold f_X4_advance_16_b at hf
      refine lv_aload_n X.1 X.2.1 dX4_advance_16 rfl (lv_at hl 0 rfl) ?_
      refine k_getw (v := .int (w 0 6)) X hU sh_1_0 fl_X4_49 rfl dX4_advance_17 ?_
      refine lv_aload_n X.1 X.2.1 dX4_advance_20 rfl (lv_at hl 0 rfl) ?_
      refine k_getw (v := .int (w 0 2)) X hU sh_1_0 fl_X4_22 rfl dX4_advance_21 ?_
      refine lv_icmp_ge (tgt := 53) X.1 X.2.1 dX4_advance_24 (by decide) (fun c24 => ?_) (fun c24 => ?_)
      · replace hf := k_ifP hf c24
        exact J53 _ _ _ w hU hS (lv_sub hl [0] rfl) hf
      · replace hf := k_ifN hf c24
        refine lv_aload_n X.1 X.2.1 dX4_advance_27 rfl (lv_at hl 0 rfl) ?_
        refine k_getw (v := .ref (ad 1 2)) X hU sh_1_0 fl_X4_15 rfl dX4_advance_28 ?_
        refine lv_aload_n X.1 X.2.1 dX4_advance_31 rfl (lv_at hl 0 rfl) ?_
        refine k_getw (v := .int (w 0 6)) X hU sh_1_0 fl_X4_49 rfl dX4_advance_32 ?_
        obtain ⟨hi35, hf⟩ := k_ckE hf
        refine k_ildw (j0 := (w 0 6).toNatClampNeg) X hU sh_1_2 (k_vin (n := 600) hi35 (by decide)) rfl dX4_advance_35 ?_
        refine lv_iconst (v := 5) X.1 X.2.1 dX4_advance_36 (by decide) ?_
        refine lv_icmp_ne (tgt := 53) X.1 X.2.1 dX4_advance_37 (by decide) (fun c37 => ?_) (fun c37 => ?_)
        · replace hf := k_ifN hf c37
          exact J53 _ _ _ w hU hS (lv_sub hl [0] rfl) hf
        · replace hf := k_ifP hf c37
          refine lv_aload_n X.1 X.2.1 dX4_advance_40 rfl (lv_at hl 0 rfl) ?_
          refine lv_dup X.1 X.2.1 dX4_advance_41 rfl ?_
          refine k_getw (v := .int (w 0 6)) X hU sh_1_0 fl_X4_49 rfl dX4_advance_42 ?_
          refine lv_iconst (v := 1) X.1 X.2.1 dX4_advance_45 (by decide) ?_
          refine lv_iadd X.1 X.2.1 dX4_advance_46 ?_
          obtain ⟨w47, e47, hf⟩ := k_ltE hf
          refine k_putw X hU hS sh_1_0 fp_X4_49 rfl e47 rfl rfl dX4_advance_47 (fun H locs hU hS => ?_)
          refine lv_goto (tgt := 16) X.1 X.2.1 dX4_advance_50 (by decide) ?_
          exact ih16 _ _ _ w47 hU hS (lv_sub hl [0] rfl) hf
  unfold f_X4_advance at hf
  refine lv_aload_n X.1 X.2.1 dX4_advance_0 rfl (lv_at hl 0 rfl) ?_
  refine lv_aload_n X.1 X.2.1 dX4_advance_1 rfl (lv_at hl 0 rfl) ?_
  refine k_getw (v := .int (w 0 6)) X hU sh_1_0 fl_X4_49 rfl dX4_advance_2 ?_
  obtain ⟨w5, e5, hf⟩ := k_ltE hf
  refine k_putw X hU hS sh_1_0 fp_X4_63 rfl e5 rfl rfl dX4_advance_5 (fun H locs hU hS => ?_)
  refine lv_aload_n X.1 X.2.1 dX4_advance_8 rfl (lv_at hl 0 rfl) ?_
  refine lv_aload_n X.1 X.2.1 dX4_advance_9 rfl (lv_at hl 0 rfl) ?_
  refine k_getw (v := .int (w5 0 7)) X hU sh_1_0 fl_X4_32 rfl dX4_advance_10 ?_
  obtain ⟨w13, e13, hf⟩ := k_ltE hf
  refine k_putw X hU hS sh_1_0 fp_X4_49 rfl e13 rfl rfl dX4_advance_13 (fun H locs hU hS => ?_)
  exact L16 k_N _ _ _ w13 hU hS (lv_sub hl [0] rfl) hf
def rm_X4_begin : Room := { frames := 1, cells := 0, slots := 0, locals := 20 }
set_option maxRecDepth 100000 in
set_option maxHeartbeats 4000000 in
theorem c_X4_begin {l : Launch} {D : va_G} {G : Nat → ClassId} {ad : Nat → Nat → Nat} {u : k_U} (hI : k_ok ad) {w : k_M} (hw : u 1 = w) {sz : Nat} {r : k_M} (hf : f_X4_begin w = some r) : Met l yX4_begin (.code yX4_begin cX4_begin 1 none :: lw_g) rm_X4_begin (k_Pre D G ad u sz [.ref (ad 1 0)]) (k_Qv D G ad (k_uc u 1 r) sz) 0 0 (k_A ad sz) := by
  refine k_ofW (by decide +kernel) hI (Nat.le_of_ble_eq_true rfl) ?_
  intro p e s m args below meth c X hr hlk hU hS ls hl
  have hl : lv_has ls 1 [(0, .ref (ad 1 0))] := hl
  have hU : k_Uv D G ad (k_uc u 1 w) s.heap := by rw [← hw, k_uc_id]; exact hU
  unfold f_X4_begin at hf
  refine lv_aload_n X.1 X.2.1 dX4_begin_0 rfl (lv_at hl 0 rfl) ?_
  refine lv_iconst (v := 0) X.1 X.2.1 dX4_begin_1 (by decide) ?_
  obtain ⟨w2, e2, hf⟩ := k_ltE hf
  refine k_putw X hU hS sh_1_0 fp_X4_29 rfl e2 rfl rfl dX4_begin_2 (fun H locs hU hS => ?_)
  refine lv_aload_n X.1 X.2.1 dX4_begin_5 rfl (lv_at hl 0 rfl) ?_
  refine lv_iconst (v := (-1)) X.1 X.2.1 dX4_begin_6 (by decide) ?_
  obtain ⟨w7, e7, hf⟩ := k_ltE hf
  refine k_putw X hU hS sh_1_0 fp_X4_18 rfl e7 rfl rfl dX4_begin_7 (fun H locs hU hS => ?_)
  refine lv_aload_n X.1 X.2.1 dX4_begin_10 rfl (lv_at hl 0 rfl) ?_
  refine lv_iconst (v := 0) X.1 X.2.1 dX4_begin_11 (by decide) ?_
  obtain ⟨w12, e12, hf⟩ := k_ltE hf
  refine k_putw X hU hS sh_1_0 fp_X4_32 rfl e12 rfl rfl dX4_begin_12 (fun H locs hU hS => ?_)
  refine lv_aload_n X.1 X.2.1 dX4_begin_15 rfl (lv_at hl 0 rfl) ?_
  obtain ⟨r16, hr16, hf⟩ := k_bdE hf
  refine k_backv X hS (k_runV (As := []) (rest := []) X hS hU sh_1_0 (by decide) rfl vl_X4_35 (c_X4_advance X.2.2.2.2.2.2.1 (k_uc_s _ _ _) hr16) rfl rfl rfl hl.1 ⟨Nat.le_of_ble_eq_true rfl, Nat.le_of_ble_eq_true rfl⟩ (Nat.le_of_ble_eq_true rfl) dX4_begin_16 ⟨Nat.zero_le _, Nat.zero_le _⟩) (fun H locs hU hS => ?_)
  rw [k_uc_uc] at hU
  have hz := Option.some.inj hf
  subst hz
  exact k_vret X hU hS hr hlk dX4_begin_19
def rm_X4_isAt : Room := { frames := 4, cells := 0, slots := 0, locals := 101 }
set_option maxRecDepth 100000 in
set_option maxHeartbeats 4000000 in
theorem c_X4_isAt {l : Launch} {D : va_G} {G : Nat → ClassId} {ad : Nat → Nat → Nat} {u : k_U} (hI : k_ok ad) {w : k_M} (hw : u 1 = w) {t1 : Nat} (ht1 : t1 < 33) {sz : Nat} {r : Int32} (hf : f_X4_isAt w t1 = some r) : Met l yX4_isAt (.code yX4_isAt cX4_isAt 3 (some .boolean) :: lw_g) rm_X4_isAt (k_Pre D G ad u sz [.ref (ad 1 0), .ref (ad 30 t1)]) (k_Qi D G ad u r sz) 0 0 (k_A ad sz) := by
  refine k_ofW (by decide +kernel) hI (Nat.le_of_ble_eq_true rfl) ?_
  intro p e s m args below meth c X hr hlk hU hS ls hl
  have hl : lv_has ls 3 [(0, .ref (ad 1 0)), (1, .ref (ad 30 t1))] := hl
  have hU : k_Uv D G ad (k_uc u 1 w) s.heap := by rw [← hw, k_uc_id]; exact hU
  have L28 : ∀ (n28 : Nat) (H : Heap) (locs : List Loc) (ls : Array Slot) (a2 : Int32), k_Uv D G ad (k_uc u 1 w) H → va_S (k_A ad sz) s.heap H locs → lv_has ls 3 [(0, .ref (ad 1 0)), (1, .ref (ad 30 t1)), (2, .int a2)] → f_X4_isAt_28 n28 w t1 a2 = some r → W p l e rm_X4_isAt s m args below meth c H locs 0 0 (MQ below (k_Qi D G ad u r sz) args s 0 0 (k_A ad sz)) (F0 m 28 ls []) := by
    intro n28
    induction n28 with
    | zero =>
      intro H locs ls a2 hU hS hl hf
      cases (show none = some r from hf)
    | succ n28 ih28 =>
      intro H locs ls a2 hU hS hl hf
      replace hf : f_X4_isAt_28_b (f_X4_isAt_28 n28) w t1 a2 = some r := hf
      unfold f_X4_isAt_28_b at hf
      refine lv_iload_n X.1 X.2.1 dX4_isAt_28 rfl (lv_at hl 2 rfl) ?_
      refine lv_aload_n X.1 X.2.1 dX4_isAt_29 rfl (lv_at hl 1 rfl) ?_
      refine k_backi X hS (k_runT (As := []) (rest := [.int a2]) X hS hU ht1 vl_X4_66 (c_J0_length X.2.2.2.2.2.2.1 ht1) rfl rfl rfl hl.1 ⟨Nat.le_of_ble_eq_true rfl, Nat.le_of_ble_eq_true rfl⟩ (Nat.le_of_ble_eq_true rfl) dX4_isAt_30 ⟨Nat.zero_le _, Nat.zero_le _⟩) (fun H locs hU hS => ?_)
      refine lv_icmp_ge (tgt := 63) X.1 X.2.1 dX4_isAt_33 (by decide) (fun c33 => ?_) (fun c33 => ?_)
      · replace hf := k_ifP hf c33
        refine lv_iconst (v := 1) X.1 X.2.1 dX4_isAt_63 (by decide) ?_
        rw [← hw, k_uc_id] at hU
        have hz := Option.some.inj hf
        subst hz
        exact k_iret (v := 1) X hU hS hr hlk rfl rfl dX4_isAt_64
      · replace hf := k_ifN hf c33
        refine lv_aload_n X.1 X.2.1 dX4_isAt_36 rfl (lv_at hl 0 rfl) ?_
        refine k_getw (v := .ref (ad 1 1)) X hU sh_1_0 fl_X4_11 rfl dX4_isAt_37 ?_
        refine lv_aload_n X.1 X.2.1 dX4_isAt_40 rfl (lv_at hl 0 rfl) ?_
        refine k_getw (v := .int (w 0 6)) X hU sh_1_0 fl_X4_49 rfl dX4_isAt_41 ?_
        refine lv_iload_n X.1 X.2.1 dX4_isAt_44 rfl (lv_at hl 2 rfl) ?_
        refine lv_iadd X.1 X.2.1 dX4_isAt_45 ?_
        obtain ⟨hi46, hf⟩ := k_ckE hf
        refine k_ildw (j0 := ((w 0 6) + a2).toNatClampNeg) X hU sh_1_1 (k_vin (n := 600) hi46 (by decide)) rfl dX4_isAt_46 ?_
        refine lv_aload_n X.1 X.2.1 dX4_isAt_47 rfl (lv_at hl 1 rfl) ?_
        refine lv_iload_n X.1 X.2.1 dX4_isAt_48 rfl (lv_at hl 2 rfl) ?_
        obtain ⟨hi49, hf⟩ := k_ckE hf
        refine k_backi X hS (k_runT (As := [.int a2]) (rest := [.int (w 1 (((w 0 6) + a2).toNatClampNeg))]) X hS hU ht1 vl_X4_71 (c_J0_charAt X.2.2.2.2.2.2.1 ht1 hi49) rfl rfl rfl hl.1 ⟨Nat.le_of_ble_eq_true rfl, Nat.le_of_ble_eq_true rfl⟩ (Nat.le_of_ble_eq_true rfl) dX4_isAt_49 ⟨Nat.zero_le _, Nat.zero_le _⟩) (fun H locs hU hS => ?_)
        refine lv_icmp_eq (tgt := 57) X.1 X.2.1 dX4_isAt_52 (by decide) (fun c52 => ?_) (fun c52 => ?_)
        · replace hf := k_ifP hf c52
          obtain ⟨x57, e57, hf⟩ := k_ltE hf
          refine lv_iinc (v := x57) (lv' := [(2, .int x57), (0, .ref (ad 1 0)), (1, .ref (ad 30 t1))]) X.1 X.2.1 dX4_isAt_57 hl (k := 2) rfl (by rw [e57]; rfl) (by decide) rfl (fun ls hl => ?_)
          refine lv_goto (tgt := 28) X.1 X.2.1 dX4_isAt_60 (by decide) ?_
          exact ih28 _ _ _ x57 hU hS (lv_sub hl [1, 2, 0] rfl) hf
        · replace hf := k_ifN hf c52
          refine lv_iconst (v := 0) X.1 X.2.1 dX4_isAt_55 (by decide) ?_
          rw [← hw, k_uc_id] at hU
          have hz := Option.some.inj hf
          subst hz
          exact k_iret (v := 0) X hU hS hr hlk rfl rfl dX4_isAt_56
  unfold f_X4_isAt at hf
  refine lv_aload_n X.1 X.2.1 dX4_isAt_0 rfl (lv_at hl 0 rfl) ?_
  refine k_getw (v := .int (w 0 5)) X hU sh_1_0 fl_X4_42 rfl dX4_isAt_1 ?_
  refine lv_iconst (v := 1) X.1 X.2.1 dX4_isAt_4 (by decide) ?_
  refine lv_icmp_ne (tgt := 24) X.1 X.2.1 dX4_isAt_5 (by decide) (fun c5 => ?_) (fun c5 => ?_)
  · replace hf := k_ifN hf c5
    refine lv_iconst (v := 0) X.1 X.2.1 dX4_isAt_24 (by decide) ?_
    rw [← hw, k_uc_id] at hU
    have hz := Option.some.inj hf
    subst hz
    exact k_iret (v := 0) X hU hS hr hlk rfl rfl dX4_isAt_25
  · replace hf := k_ifP hf c5
    refine lv_aload_n X.1 X.2.1 dX4_isAt_8 rfl (lv_at hl 0 rfl) ?_
    refine k_getw (v := .int (w 0 7)) X hU sh_1_0 fl_X4_32 rfl dX4_isAt_9 ?_
    refine lv_aload_n X.1 X.2.1 dX4_isAt_12 rfl (lv_at hl 0 rfl) ?_
    refine k_getw (v := .int (w 0 6)) X hU sh_1_0 fl_X4_49 rfl dX4_isAt_13 ?_
    refine lv_isub X.1 X.2.1 dX4_isAt_16 ?_
    refine lv_aload_n X.1 X.2.1 dX4_isAt_17 rfl (lv_at hl 1 rfl) ?_
    refine k_backi X hS (k_runT (As := []) (rest := [.int ((w 0 7) - (w 0 6))]) X hS hU ht1 vl_X4_66 (c_J0_length X.2.2.2.2.2.2.1 ht1) rfl rfl rfl hl.1 ⟨Nat.le_of_ble_eq_true rfl, Nat.le_of_ble_eq_true rfl⟩ (Nat.le_of_ble_eq_true rfl) dX4_isAt_18 ⟨Nat.zero_le _, Nat.zero_le _⟩) (fun H locs hU hS => ?_)
    refine lv_icmp_eq (tgt := 26) X.1 X.2.1 dX4_isAt_21 (by decide) (fun c21 => ?_) (fun c21 => ?_)
    · replace hf := k_ifP hf c21
      refine lv_iconst (v := 0) X.1 X.2.1 dX4_isAt_26 (by decide) ?_
      refine lv_istore_n (lv' := [(2, .int 0), (0, .ref (ad 1 0)), (1, .ref (ad 30 t1))]) X.1 X.2.1 dX4_isAt_27 rfl hl (by decide) rfl (fun ls hl => ?_)
      exact L28 k_N _ _ _ 0 hU hS (lv_sub hl [1, 2, 0] rfl) hf
    · replace hf := k_ifN hf c21
      refine lv_iconst (v := 0) X.1 X.2.1 dX4_isAt_24 (by decide) ?_
      rw [← hw, k_uc_id] at hU
      have hz := Option.some.inj hf
      subst hz
      exact k_iret (v := 0) X hU hS hr hlk rfl rfl dX4_isAt_25
def rm_X4_hasFailed : Room := { frames := 0, cells := 0, slots := 0, locals := 0 }
set_option maxRecDepth 100000 in
set_option maxHeartbeats 4000000 in
theorem c_X4_hasFailed {l : Launch} {D : va_G} {G : Nat → ClassId} {ad : Nat → Nat → Nat} {u : k_U} (hI : k_ok ad) {w : k_M} (hw : u 1 = w) {sz : Nat} {r : Int32} (hf : f_X4_hasFailed w = some r) : Met l yX4_hasFailed (.code yX4_hasFailed cX4_hasFailed 1 (some .boolean) :: lw_g) rm_X4_hasFailed (k_Pre D G ad u sz [.ref (ad 1 0)]) (k_Qi D G ad u r sz) 0 0 (k_A ad sz) := by
  refine k_ofW (by decide +kernel) hI (Nat.le_of_ble_eq_true rfl) ?_
  intro p e s m args below meth c X hr hlk hU hS ls hl
  have hl : lv_has ls 1 [(0, .ref (ad 1 0))] := hl
  have hU : k_Uv D G ad (k_uc u 1 w) s.heap := by rw [← hw, k_uc_id]; exact hU
  unfold f_X4_hasFailed at hf
  refine lv_aload_n X.1 X.2.1 dX4_hasFailed_0 rfl (lv_at hl 0 rfl) ?_
  refine k_getw (v := .int (w 0 3)) X hU sh_1_0 fl_X4_29 rfl dX4_hasFailed_1 ?_
  refine lv_if_eq (tgt := 11) X.1 X.2.1 dX4_hasFailed_4 (by decide) (fun c4 => ?_) (fun c4 => ?_)
  · replace hf := k_ifP hf c4
    refine lv_iconst (v := 0) X.1 X.2.1 dX4_hasFailed_11 (by decide) ?_
    rw [← hw, k_uc_id] at hU
    have hz := Option.some.inj hf
    subst hz
    exact k_iret (v := 0) X hU hS hr hlk rfl rfl dX4_hasFailed_12
  · replace hf := k_ifN hf c4
    refine lv_iconst (v := 1) X.1 X.2.1 dX4_hasFailed_7 (by decide) ?_
    refine lv_goto (tgt := 12) X.1 X.2.1 dX4_hasFailed_8 (by decide) ?_
    rw [← hw, k_uc_id] at hU
    have hz := Option.some.inj hf
    subst hz
    exact k_iret (v := 1) X hU hS hr hlk rfl rfl dX4_hasFailed_12
def rm_X4_failAt : Room := { frames := 0, cells := 0, slots := 0, locals := 0 }
set_option maxRecDepth 100000 in
set_option maxHeartbeats 4000000 in
theorem c_X4_failAt {l : Launch} {D : va_G} {G : Nat → ClassId} {ad : Nat → Nat → Nat} {u : k_U} (hI : k_ok ad) {w : k_M} (hw : u 1 = w) {a1 : Int32} {a2 : Int32} {sz : Nat} {r : k_M} (hf : f_X4_failAt w a1 a2 = some r) : Met l yX4_failAt (.code yX4_failAt cX4_failAt 3 none :: lw_g) rm_X4_failAt (k_Pre D G ad u sz [.ref (ad 1 0), .int a1, .int a2]) (k_Qv D G ad (k_uc u 1 r) sz) 0 0 (k_A ad sz) := by
  refine k_ofW (by decide +kernel) hI (Nat.le_of_ble_eq_true rfl) ?_
  intro p e s m args below meth c X hr hlk hU hS ls hl
  have hl : lv_has ls 3 [(0, .ref (ad 1 0)), (1, .int a1), (2, .int a2)] := hl
  have hU : k_Uv D G ad (k_uc u 1 w) s.heap := by rw [← hw, k_uc_id]; exact hU
  unfold f_X4_failAt at hf
  refine lv_aload_n X.1 X.2.1 dX4_failAt_0 rfl (lv_at hl 0 rfl) ?_
  refine k_getw (v := .int (w 0 3)) X hU sh_1_0 fl_X4_29 rfl dX4_failAt_1 ?_
  refine lv_if_ne (tgt := 17) X.1 X.2.1 dX4_failAt_4 (by decide) (fun c4 => ?_) (fun c4 => ?_)
  · replace hf := k_ifN hf c4
    have hz := Option.some.inj hf
    subst hz
    exact k_vret X hU hS hr hlk dX4_failAt_17
  · replace hf := k_ifP hf c4
    refine lv_aload_n X.1 X.2.1 dX4_failAt_7 rfl (lv_at hl 0 rfl) ?_
    refine lv_iload_n X.1 X.2.1 dX4_failAt_8 rfl (lv_at hl 2 rfl) ?_
    obtain ⟨w9, e9, hf⟩ := k_ltE hf
    refine k_putw X hU hS sh_1_0 fp_X4_29 rfl e9 rfl rfl dX4_failAt_9 (fun H locs hU hS => ?_)
    refine lv_aload_n X.1 X.2.1 dX4_failAt_12 rfl (lv_at hl 0 rfl) ?_
    refine lv_iload_n X.1 X.2.1 dX4_failAt_13 rfl (lv_at hl 1 rfl) ?_
    obtain ⟨w14, e14, hf⟩ := k_ltE hf
    refine k_putw X hU hS sh_1_0 fp_X4_18 rfl e14 rfl rfl dX4_failAt_14 (fun H locs hU hS => ?_)
    have hz := Option.some.inj hf
    subst hz
    exact k_vret X hU hS hr hlk dX4_failAt_17
def rm_X4_takeWord : Room := { frames := 5, cells := 0, slots := 0, locals := 123 }
set_option maxRecDepth 100000 in
set_option maxHeartbeats 4000000 in
theorem c_X4_takeWord {l : Launch} {D : va_G} {G : Nat → ClassId} {ad : Nat → Nat → Nat} {u : k_U} (hI : k_ok ad) {w : k_M} (hw : u 1 = w) {t1 : Nat} (ht1 : t1 < 33) {sz : Nat} {r : k_M} (hf : f_X4_takeWord w t1 = some r) : Met l yX4_takeWord (.code yX4_takeWord cX4_takeWord 2 none :: lw_g) rm_X4_takeWord (k_Pre D G ad u sz [.ref (ad 1 0), .ref (ad 30 t1)]) (k_Qv D G ad (k_uc u 1 r) sz) 0 0 (k_A ad sz) := by
  refine k_ofW (by decide +kernel) hI (Nat.le_of_ble_eq_true rfl) ?_
  intro p e s m args below meth c X hr hlk hU hS ls hl
  have hl : lv_has ls 2 [(0, .ref (ad 1 0)), (1, .ref (ad 30 t1))] := hl
  have hU : k_Uv D G ad (k_uc u 1 w) s.heap := by rw [← hw, k_uc_id]; exact hU
  unfold f_X4_takeWord at hf
  refine lv_aload_n X.1 X.2.1 dX4_takeWord_0 rfl (lv_at hl 0 rfl) ?_
  refine lv_aload_n X.1 X.2.1 dX4_takeWord_1 rfl (lv_at hl 1 rfl) ?_
  obtain ⟨r2, hr2, hf⟩ := k_bdE hf
  refine k_backi X hS (k_runV (As := [.ref (ad 30 t1)]) (rest := []) X hS hU sh_1_0 (by decide) rfl vl_X4_45 (c_X4_isAt X.2.2.2.2.2.2.1 (k_uc_s _ _ _) ht1 hr2) rfl rfl rfl hl.1 ⟨Nat.le_of_ble_eq_true rfl, Nat.le_of_ble_eq_true rfl⟩ (Nat.le_of_ble_eq_true rfl) dX4_takeWord_2 ⟨Nat.zero_le _, Nat.zero_le _⟩) (fun H locs hU hS => ?_)
  refine lv_if_ne (tgt := 20) X.1 X.2.1 dX4_takeWord_5 (by decide) (fun c5 => ?_) (fun c5 => ?_)
  · replace hf := k_ifN hf c5
    refine lv_aload_n X.1 X.2.1 dX4_takeWord_20 rfl (lv_at hl 0 rfl) ?_
    obtain ⟨r21, hr21, hf⟩ := k_bdE hf
    refine k_backi X hS (k_runV (As := []) (rest := []) X hS hU sh_1_0 (by decide) rfl vl_X4_38 (c_X4_hasFailed X.2.2.2.2.2.2.1 (k_uc_s _ _ _) hr21) rfl rfl rfl hl.1 ⟨Nat.le_of_ble_eq_true rfl, Nat.le_of_ble_eq_true rfl⟩ (Nat.le_of_ble_eq_true rfl) dX4_takeWord_21 ⟨Nat.zero_le _, Nat.zero_le _⟩) (fun H locs hU hS => ?_)
    refine lv_if_ne (tgt := 31) X.1 X.2.1 dX4_takeWord_24 (by decide) (fun c24 => ?_) (fun c24 => ?_)
    · replace hf := k_ifN hf c24
      have hz := Option.some.inj hf
      subst hz
      exact k_vret X hU hS hr hlk dX4_takeWord_31
    · replace hf := k_ifP hf c24
      refine lv_aload_n X.1 X.2.1 dX4_takeWord_27 rfl (lv_at hl 0 rfl) ?_
      obtain ⟨r28, hr28, hf⟩ := k_bdE hf
      refine k_backv X hS (k_runV (As := []) (rest := []) X hS hU sh_1_0 (by decide) rfl vl_X4_35 (c_X4_advance X.2.2.2.2.2.2.1 (k_uc_s _ _ _) hr28) rfl rfl rfl hl.1 ⟨Nat.le_of_ble_eq_true rfl, Nat.le_of_ble_eq_true rfl⟩ (Nat.le_of_ble_eq_true rfl) dX4_takeWord_28 ⟨Nat.zero_le _, Nat.zero_le _⟩) (fun H locs hU hS => ?_)
      rw [k_uc_uc] at hU
      have hz := Option.some.inj hf
      subst hz
      exact k_vret X hU hS hr hlk dX4_takeWord_31
  · replace hf := k_ifP hf c5
    refine lv_aload_n X.1 X.2.1 dX4_takeWord_8 rfl (lv_at hl 0 rfl) ?_
    refine lv_aload_n X.1 X.2.1 dX4_takeWord_9 rfl (lv_at hl 0 rfl) ?_
    refine k_getw (v := .int (w 0 6)) X hU sh_1_0 fl_X4_49 rfl dX4_takeWord_10 ?_
    refine lv_iconst (v := 1) X.1 X.2.1 dX4_takeWord_13 (by decide) ?_
    obtain ⟨r14, hr14, hf⟩ := k_bdE hf
    refine k_backv X hS (k_runV (As := [.int (w 0 6), .int 1]) (rest := []) X hS hU sh_1_0 (by decide) rfl vl_X4_52 (c_X4_failAt X.2.2.2.2.2.2.1 (k_uc_s _ _ _) hr14) rfl rfl rfl hl.1 ⟨Nat.le_of_ble_eq_true rfl, Nat.le_of_ble_eq_true rfl⟩ (Nat.le_of_ble_eq_true rfl) dX4_takeWord_14 ⟨Nat.zero_le _, Nat.zero_le _⟩) (fun H locs hU hS => ?_)
    rw [k_uc_uc] at hU
    refine lv_goto (tgt := 31) X.1 X.2.1 dX4_takeWord_17 (by decide) ?_
    have hz := Option.some.inj hf
    subst hz
    exact k_vret X hU hS hr hlk dX4_takeWord_31
def rm_X4_takeNumber : Room := { frames := 1, cells := 0, slots := 0, locals := 22 }
set_option maxRecDepth 100000 in
set_option maxHeartbeats 4000000 in
theorem c_X4_takeNumber {l : Launch} {D : va_G} {G : Nat → ClassId} {ad : Nat → Nat → Nat} {u : k_U} (hI : k_ok ad) {w : k_M} (hw : u 1 = w) {a1 : Int32} {a2 : Int32} {sz : Nat} {r : (k_M × Int32)} (hf : f_X4_takeNumber w a1 a2 = some r) : Met l yX4_takeNumber (.code yX4_takeNumber cX4_takeNumber 4 (some .int) :: lw_g) rm_X4_takeNumber (k_Pre D G ad u sz [.ref (ad 1 0), .int a1, .int a2]) (k_Qi D G ad (k_uc u 1 r.1) r.2 sz) 0 0 (k_A ad sz) := by
  refine k_ofW (by decide +kernel) hI (Nat.le_of_ble_eq_true rfl) ?_
  intro p e s m args below meth c X hr hlk hU hS ls hl
  have hl : lv_has ls 4 [(0, .ref (ad 1 0)), (1, .int a1), (2, .int a2)] := hl
  have hU : k_Uv D G ad (k_uc u 1 w) s.heap := by rw [← hw, k_uc_id]; exact hU
  have J45 : ∀ (H : Heap) (locs : List Loc) (ls : Array Slot) (w : k_M), k_Uv D G ad (k_uc u 1 w) H → va_S (k_A ad sz) s.heap H locs → lv_has ls 4 [(0, .ref (ad 1 0))] → f_X4_takeNumber_45 w a1 a2 = some r → W p l e rm_X4_takeNumber s m args below meth c H locs 0 0 (MQ below (k_Qi D G ad (k_uc u 1 r.1) r.2 sz) args s 0 0 (k_A ad sz)) (F0 m 45 ls []) := by
    intro H locs ls w hU hS hl hf
    unfold f_X4_takeNumber_45 at hf
    refine lv_aload_n X.1 X.2.1 dX4_takeNumber_45 rfl (lv_at hl 0 rfl) ?_
    obtain ⟨r46, hr46, hf⟩ := k_bdE hf
    refine k_backi X hS (k_runV (As := []) (rest := []) X hS hU sh_1_0 (by decide) rfl vl_X4_38 (c_X4_hasFailed X.2.2.2.2.2.2.1 (k_uc_s _ _ _) hr46) rfl rfl rfl hl.1 ⟨Nat.le_of_ble_eq_true rfl, Nat.le_of_ble_eq_true rfl⟩ (Nat.le_of_ble_eq_true rfl) dX4_takeNumber_46 ⟨Nat.zero_le _, Nat.zero_le _⟩) (fun H locs hU hS => ?_)
    refine lv_if_eq (tgt := 54) X.1 X.2.1 dX4_takeNumber_49 (by decide) (fun c49 => ?_) (fun c49 => ?_)
    · replace hf := k_ifP hf c49
      refine lv_aload_n X.1 X.2.1 dX4_takeNumber_54 rfl (lv_at hl 0 rfl) ?_
      refine k_getw (v := .int (w 0 8)) X hU sh_1_0 fl_X4_56 rfl dX4_takeNumber_55 ?_
      obtain ⟨x58, e58, hf⟩ := k_ltE hf
      refine k_nmi e58 ?_
      refine lv_istore_n (lv' := [(3, .int x58), (0, .ref (ad 1 0))]) X.1 X.2.1 dX4_takeNumber_58 rfl hl (by decide) rfl (fun ls hl => ?_)
      refine lv_aload_n X.1 X.2.1 dX4_takeNumber_59 rfl (lv_at hl 1 rfl) ?_
      obtain ⟨r60, hr60, hf⟩ := k_bdE hf
      refine k_backv X hS (k_runV (As := []) (rest := []) X hS hU sh_1_0 (by decide) rfl vl_X4_35 (c_X4_advance X.2.2.2.2.2.2.1 (k_uc_s _ _ _) hr60) rfl rfl rfl hl.1 ⟨Nat.le_of_ble_eq_true rfl, Nat.le_of_ble_eq_true rfl⟩ (Nat.le_of_ble_eq_true rfl) dX4_takeNumber_60 ⟨Nat.zero_le _, Nat.zero_le _⟩) (fun H locs hU hS => ?_)
      rw [k_uc_uc] at hU
      refine lv_iload_n X.1 X.2.1 dX4_takeNumber_63 rfl (lv_at hl 0 rfl) ?_
      have hz := Option.some.inj hf
      subst hz
      exact k_iret (v := x58) X hU hS hr hlk rfl rfl dX4_takeNumber_64
    · replace hf := k_ifN hf c49
      refine lv_iconst (v := 0) X.1 X.2.1 dX4_takeNumber_52 (by decide) ?_
      have hz := Option.some.inj hf
      subst hz
      exact k_iret (v := 0) X hU hS hr hlk rfl rfl dX4_takeNumber_53
  have J36 : ∀ (H : Heap) (locs : List Loc) (ls : Array Slot) (w : k_M), k_Uv D G ad (k_uc u 1 w) H → va_S (k_A ad sz) s.heap H locs → lv_has ls 4 [(0, .ref (ad 1 0))] → f_X4_takeNumber_36 w a1 a2 = some r → W p l e rm_X4_takeNumber s m args below meth c H locs 0 0 (MQ below (k_Qi D G ad (k_uc u 1 r.1) r.2 sz) args s 0 0 (k_A ad sz)) (F0 m 36 ls []) := by
    intro H locs ls w hU hS hl hf
    unfold f_X4_takeNumber_36 at hf
    refine lv_aload_n X.1 X.2.1 dX4_takeNumber_36 rfl (lv_at hl 0 rfl) ?_
    refine lv_aload_n X.1 X.2.1 dX4_takeNumber_37 rfl (lv_at hl 0 rfl) ?_
    refine k_getw (v := .int (w 0 6)) X hU sh_1_0 fl_X4_49 rfl dX4_takeNumber_38 ?_
    refine lv_iconst (v := 2) X.1 X.2.1 dX4_takeNumber_41 (by decide) ?_
    obtain ⟨r42, hr42, hf⟩ := k_bdE hf
    refine k_backv X hS (k_runV (As := [.int (w 0 6), .int 2]) (rest := []) X hS hU sh_1_0 (by decide) rfl vl_X4_52 (c_X4_failAt X.2.2.2.2.2.2.1 (k_uc_s _ _ _) hr42) rfl rfl rfl hl.1 ⟨Nat.le_of_ble_eq_true rfl, Nat.le_of_ble_eq_true rfl⟩ (Nat.le_of_ble_eq_true rfl) dX4_takeNumber_42 ⟨Nat.zero_le _, Nat.zero_le _⟩) (fun H locs hU hS => ?_)
    rw [k_uc_uc] at hU
    exact J45 _ _ _ r42 hU hS (lv_sub hl [0] rfl) hf
  unfold f_X4_takeNumber at hf
  refine lv_aload_n X.1 X.2.1 dX4_takeNumber_0 rfl (lv_at hl 0 rfl) ?_
  refine k_getw (v := .int (w 0 5)) X hU sh_1_0 fl_X4_42 rfl dX4_takeNumber_1 ?_
  refine lv_iconst (v := 2) X.1 X.2.1 dX4_takeNumber_4 (by decide) ?_
  refine lv_icmp_eq (tgt := 20) X.1 X.2.1 dX4_takeNumber_5 (by decide) (fun c5 => ?_) (fun c5 => ?_)
  · replace hf := k_ifP hf c5
    refine lv_aload_n X.1 X.2.1 dX4_takeNumber_20 rfl (lv_at hl 0 rfl) ?_
    refine k_getw (v := .int (w 0 8)) X hU sh_1_0 fl_X4_56 rfl dX4_takeNumber_21 ?_
    refine lv_iload_n X.1 X.2.1 dX4_takeNumber_24 rfl (lv_at hl 1 rfl) ?_
    refine lv_icmp_lt (tgt := 36) X.1 X.2.1 dX4_takeNumber_25 (by decide) (fun c25 => ?_) (fun c25 => ?_)
    · replace hf := k_ifP hf c25
      exact J36 _ _ _ w hU hS (lv_sub hl [0] rfl) hf
    · replace hf := k_ifN hf c25
      refine lv_aload_n X.1 X.2.1 dX4_takeNumber_28 rfl (lv_at hl 0 rfl) ?_
      refine k_getw (v := .int (w 0 8)) X hU sh_1_0 fl_X4_56 rfl dX4_takeNumber_29 ?_
      refine lv_iload_n X.1 X.2.1 dX4_takeNumber_32 rfl (lv_at hl 2 rfl) ?_
      refine lv_icmp_le (tgt := 45) X.1 X.2.1 dX4_takeNumber_33 (by decide) (fun c33 => ?_) (fun c33 => ?_)
      · replace hf := k_ifP hf c33
        exact J45 _ _ _ w hU hS (lv_sub hl [0] rfl) hf
      · replace hf := k_ifN hf c33
        exact J36 _ _ _ w hU hS (lv_sub hl [0] rfl) hf
  · replace hf := k_ifN hf c5
    refine lv_aload_n X.1 X.2.1 dX4_takeNumber_8 rfl (lv_at hl 0 rfl) ?_
    refine lv_aload_n X.1 X.2.1 dX4_takeNumber_9 rfl (lv_at hl 0 rfl) ?_
    refine k_getw (v := .int (w 0 6)) X hU sh_1_0 fl_X4_49 rfl dX4_takeNumber_10 ?_
    refine lv_iconst (v := 1) X.1 X.2.1 dX4_takeNumber_13 (by decide) ?_
    obtain ⟨r14, hr14, hf⟩ := k_bdE hf
    refine k_backv X hS (k_runV (As := [.int (w 0 6), .int 1]) (rest := []) X hS hU sh_1_0 (by decide) rfl vl_X4_52 (c_X4_failAt X.2.2.2.2.2.2.1 (k_uc_s _ _ _) hr14) rfl rfl rfl hl.1 ⟨Nat.le_of_ble_eq_true rfl, Nat.le_of_ble_eq_true rfl⟩ (Nat.le_of_ble_eq_true rfl) dX4_takeNumber_14 ⟨Nat.zero_le _, Nat.zero_le _⟩) (fun H locs hU hS => ?_)
    rw [k_uc_uc] at hU
    refine lv_goto (tgt := 45) X.1 X.2.1 dX4_takeNumber_17 (by decide) ?_
    exact J45 _ _ _ r14 hU hS (lv_sub hl [0] rfl) hf
def rm_X4_takeSemicolon : Room := { frames := 1, cells := 0, slots := 0, locals := 22 }
set_option maxRecDepth 100000 in
set_option maxHeartbeats 4000000 in
theorem c_X4_takeSemicolon {l : Launch} {D : va_G} {G : Nat → ClassId} {ad : Nat → Nat → Nat} {u : k_U} (hI : k_ok ad) {w : k_M} (hw : u 1 = w) {sz : Nat} {r : k_M} (hf : f_X4_takeSemicolon w = some r) : Met l yX4_takeSemicolon (.code yX4_takeSemicolon cX4_takeSemicolon 1 none :: lw_g) rm_X4_takeSemicolon (k_Pre D G ad u sz [.ref (ad 1 0)]) (k_Qv D G ad (k_uc u 1 r) sz) 0 0 (k_A ad sz) := by
  refine k_ofW (by decide +kernel) hI (Nat.le_of_ble_eq_true rfl) ?_
  intro p e s m args below meth c X hr hlk hU hS ls hl
  have hl : lv_has ls 1 [(0, .ref (ad 1 0))] := hl
  have hU : k_Uv D G ad (k_uc u 1 w) s.heap := by rw [← hw, k_uc_id]; exact hU
  unfold f_X4_takeSemicolon at hf
  refine lv_aload_n X.1 X.2.1 dX4_takeSemicolon_0 rfl (lv_at hl 0 rfl) ?_
  refine k_getw (v := .int (w 0 5)) X hU sh_1_0 fl_X4_42 rfl dX4_takeSemicolon_1 ?_
  refine lv_iconst (v := 4) X.1 X.2.1 dX4_takeSemicolon_4 (by decide) ?_
  refine lv_icmp_eq (tgt := 20) X.1 X.2.1 dX4_takeSemicolon_5 (by decide) (fun c5 => ?_) (fun c5 => ?_)
  · replace hf := k_ifP hf c5
    refine lv_aload_n X.1 X.2.1 dX4_takeSemicolon_20 rfl (lv_at hl 0 rfl) ?_
    obtain ⟨r21, hr21, hf⟩ := k_bdE hf
    refine k_backi X hS (k_runV (As := []) (rest := []) X hS hU sh_1_0 (by decide) rfl vl_X4_38 (c_X4_hasFailed X.2.2.2.2.2.2.1 (k_uc_s _ _ _) hr21) rfl rfl rfl hl.1 ⟨Nat.le_of_ble_eq_true rfl, Nat.le_of_ble_eq_true rfl⟩ (Nat.le_of_ble_eq_true rfl) dX4_takeSemicolon_21 ⟨Nat.zero_le _, Nat.zero_le _⟩) (fun H locs hU hS => ?_)
    refine lv_if_ne (tgt := 31) X.1 X.2.1 dX4_takeSemicolon_24 (by decide) (fun c24 => ?_) (fun c24 => ?_)
    · replace hf := k_ifN hf c24
      have hz := Option.some.inj hf
      subst hz
      exact k_vret X hU hS hr hlk dX4_takeSemicolon_31
    · replace hf := k_ifP hf c24
      refine lv_aload_n X.1 X.2.1 dX4_takeSemicolon_27 rfl (lv_at hl 0 rfl) ?_
      obtain ⟨r28, hr28, hf⟩ := k_bdE hf
      refine k_backv X hS (k_runV (As := []) (rest := []) X hS hU sh_1_0 (by decide) rfl vl_X4_35 (c_X4_advance X.2.2.2.2.2.2.1 (k_uc_s _ _ _) hr28) rfl rfl rfl hl.1 ⟨Nat.le_of_ble_eq_true rfl, Nat.le_of_ble_eq_true rfl⟩ (Nat.le_of_ble_eq_true rfl) dX4_takeSemicolon_28 ⟨Nat.zero_le _, Nat.zero_le _⟩) (fun H locs hU hS => ?_)
      rw [k_uc_uc] at hU
      have hz := Option.some.inj hf
      subst hz
      exact k_vret X hU hS hr hlk dX4_takeSemicolon_31
  · replace hf := k_ifN hf c5
    refine lv_aload_n X.1 X.2.1 dX4_takeSemicolon_8 rfl (lv_at hl 0 rfl) ?_
    refine lv_aload_n X.1 X.2.1 dX4_takeSemicolon_9 rfl (lv_at hl 0 rfl) ?_
    refine k_getw (v := .int (w 0 6)) X hU sh_1_0 fl_X4_49 rfl dX4_takeSemicolon_10 ?_
    refine lv_iconst (v := 1) X.1 X.2.1 dX4_takeSemicolon_13 (by decide) ?_
    obtain ⟨r14, hr14, hf⟩ := k_bdE hf
    refine k_backv X hS (k_runV (As := [.int (w 0 6), .int 1]) (rest := []) X hS hU sh_1_0 (by decide) rfl vl_X4_52 (c_X4_failAt X.2.2.2.2.2.2.1 (k_uc_s _ _ _) hr14) rfl rfl rfl hl.1 ⟨Nat.le_of_ble_eq_true rfl, Nat.le_of_ble_eq_true rfl⟩ (Nat.le_of_ble_eq_true rfl) dX4_takeSemicolon_14 ⟨Nat.zero_le _, Nat.zero_le _⟩) (fun H locs hU hS => ?_)
    rw [k_uc_uc] at hU
    refine lv_goto (tgt := 31) X.1 X.2.1 dX4_takeSemicolon_17 (by decide) ?_
    have hz := Option.some.inj hf
    subst hz
    exact k_vret X hU hS hr hlk dX4_takeSemicolon_31
def rm_X1_forget : Room := { frames := 0, cells := 0, slots := 0, locals := 0 }
set_option maxRecDepth 100000 in
set_option maxHeartbeats 4000000 in
theorem c_X1_forget {l : Launch} {D : va_G} {G : Nat → ClassId} {ad : Nat → Nat → Nat} {u : k_U} (hI : k_ok ad) {k : Nat} (hk : k_isW k) {w : k_M} (hw : u k = w) {sz : Nat} {r : k_M} (hf : f_X1_forget w = some r) : Met l yX1_forget (.code yX1_forget cX1_forget 1 none :: lw_g) rm_X1_forget (k_Pre D G ad u sz [.ref (ad k 13)]) (k_Qv D G ad (k_uc u k r) sz) 0 0 (k_A ad sz) := by
  refine k_ofW (by decide +kernel) hI (Nat.le_of_ble_eq_true rfl) ?_
  intro p e s m args below meth c X hr hlk hU hS ls hl
  have hl : lv_has ls 1 [(0, .ref (ad k 13))] := hl
  have hU : k_Uv D G ad (k_uc u k w) s.heap := by rw [← hw, k_uc_id]; exact hU
  unfold f_X1_forget at hf
  refine lv_aload_n X.1 X.2.1 dX1_forget_0 rfl (lv_at hl 0 rfl) ?_
  refine lv_iconst (v := 0) X.1 X.2.1 dX1_forget_1 (by decide) ?_
  obtain ⟨w2, e2, hf⟩ := k_ltE hf
  refine k_putw X hU hS (sW_13 hk) fp_X1_19 rfl e2 rfl rfl dX1_forget_2 (fun H locs hU hS => ?_)
  refine lv_aload_n X.1 X.2.1 dX1_forget_5 rfl (lv_at hl 0 rfl) ?_
  refine lv_iconst (v := 0) X.1 X.2.1 dX1_forget_6 (by decide) ?_
  obtain ⟨w7, e7, hf⟩ := k_ltE hf
  refine k_putw X hU hS (sW_13 hk) fp_X1_23 rfl e7 rfl rfl dX1_forget_7 (fun H locs hU hS => ?_)
  have hz := Option.some.inj hf
  subst hz
  exact k_vret X hU hS hr hlk dX1_forget_10
def rm_X9_begin : Room := { frames := 1, cells := 0, slots := 0, locals := 20 }
set_option maxRecDepth 100000 in
set_option maxHeartbeats 4000000 in
theorem c_X9_begin {l : Launch} {D : va_G} {G : Nat → ClassId} {ad : Nat → Nat → Nat} {u : k_U} (hI : k_ok ad) {k : Nat} (hk : k_isW k) {w : k_M} (hw : u k = w) {a1 : Int32} {a2 : Int32} {a3 : Int32} {sz : Nat} {r : k_M} (hf : f_X9_begin w a1 a2 a3 = some r) : Met l yX9_begin (.code yX9_begin cX9_begin 4 none :: lw_g) rm_X9_begin (k_Pre D G ad u sz [.ref (ad k 0), .int a1, .int a2, .int a3]) (k_Qv D G ad (k_uc u k r) sz) 0 0 (k_A ad sz) := by
  refine k_ofW (by decide +kernel) hI (Nat.le_of_ble_eq_true rfl) ?_
  intro p e s m args below meth c X hr hlk hU hS ls hl
  have hl : lv_has ls 4 [(0, .ref (ad k 0)), (1, .int a1), (2, .int a2), (3, .int a3)] := hl
  have hU : k_Uv D G ad (k_uc u k w) s.heap := by rw [← hw, k_uc_id]; exact hU
  unfold f_X9_begin at hf
  refine lv_aload_n X.1 X.2.1 dX9_begin_0 rfl (lv_at hl 0 rfl) ?_
  refine lv_iload_n X.1 X.2.1 dX9_begin_1 rfl (lv_at hl 1 rfl) ?_
  obtain ⟨w2, e2, hf⟩ := k_ltE hf
  refine k_putw X hU hS (sW_0 hk) fp_X9_46 rfl e2 rfl rfl dX9_begin_2 (fun H locs hU hS => ?_)
  refine lv_aload_n X.1 X.2.1 dX9_begin_5 rfl (lv_at hl 0 rfl) ?_
  refine lv_iload_n X.1 X.2.1 dX9_begin_6 rfl (lv_at hl 2 rfl) ?_
  obtain ⟨w7, e7, hf⟩ := k_ltE hf
  refine k_putw X hU hS (sW_0 hk) fp_X9_50 rfl e7 rfl rfl dX9_begin_7 (fun H locs hU hS => ?_)
  refine lv_aload_n X.1 X.2.1 dX9_begin_10 rfl (lv_at hl 0 rfl) ?_
  refine lv_iload_n X.1 X.2.1 dX9_begin_11 rfl (lv_at hl 3 rfl) ?_
  obtain ⟨w12, e12, hf⟩ := k_ltE hf
  refine k_putw X hU hS (sW_0 hk) fp_X9_53 rfl e12 rfl rfl dX9_begin_12 (fun H locs hU hS => ?_)
  refine lv_aload_n X.1 X.2.1 dX9_begin_15 rfl (lv_at hl 0 rfl) ?_
  refine lv_iconst (v := 0) X.1 X.2.1 dX9_begin_16 (by decide) ?_
  obtain ⟨w17, e17, hf⟩ := k_ltE hf
  refine k_putw X hU hS (sW_0 hk) fp_X9_56 rfl e17 rfl rfl dX9_begin_17 (fun H locs hU hS => ?_)
  refine lv_aload_n X.1 X.2.1 dX9_begin_20 rfl (lv_at hl 0 rfl) ?_
  refine lv_iconst (v := 0) X.1 X.2.1 dX9_begin_21 (by decide) ?_
  obtain ⟨w22, e22, hf⟩ := k_ltE hf
  refine k_putw X hU hS (sW_0 hk) fp_X9_59 rfl e22 rfl rfl dX9_begin_22 (fun H locs hU hS => ?_)
  refine lv_aload_n X.1 X.2.1 dX9_begin_25 rfl (lv_at hl 0 rfl) ?_
  refine lv_iconst (v := 0) X.1 X.2.1 dX9_begin_26 (by decide) ?_
  obtain ⟨w27, e27, hf⟩ := k_ltE hf
  refine k_putw X hU hS (sW_0 hk) fp_X9_62 rfl e27 rfl rfl dX9_begin_27 (fun H locs hU hS => ?_)
  refine lv_aload_n X.1 X.2.1 dX9_begin_30 rfl (lv_at hl 0 rfl) ?_
  refine lv_iconst (v := 0) X.1 X.2.1 dX9_begin_31 (by decide) ?_
  obtain ⟨w32, e32, hf⟩ := k_ltE hf
  refine k_putw X hU hS (sW_0 hk) fp_X9_65 rfl e32 rfl rfl dX9_begin_32 (fun H locs hU hS => ?_)
  refine lv_aload_n X.1 X.2.1 dX9_begin_35 rfl (lv_at hl 0 rfl) ?_
  refine lv_bipush (v := 20) X.1 X.2.1 dX9_begin_36 (by decide) ?_
  obtain ⟨w38, e38, hf⟩ := k_ltE hf
  refine k_putw X hU hS (sW_0 hk) fp_X9_68 rfl e38 rfl rfl dX9_begin_38 (fun H locs hU hS => ?_)
  refine lv_aload_n X.1 X.2.1 dX9_begin_41 rfl (lv_at hl 0 rfl) ?_
  refine lv_iconst (v := 0) X.1 X.2.1 dX9_begin_42 (by decide) ?_
  obtain ⟨w43, e43, hf⟩ := k_ltE hf
  refine k_putw X hU hS (sW_0 hk) fp_X9_71 rfl e43 rfl rfl dX9_begin_43 (fun H locs hU hS => ?_)
  refine lv_aload_n X.1 X.2.1 dX9_begin_46 rfl (lv_at hl 0 rfl) ?_
  refine lv_iconst (v := 0) X.1 X.2.1 dX9_begin_47 (by decide) ?_
  obtain ⟨w48, e48, hf⟩ := k_ltE hf
  refine k_putw X hU hS (sW_0 hk) fp_X9_74 rfl e48 rfl rfl dX9_begin_48 (fun H locs hU hS => ?_)
  refine lv_aload_n X.1 X.2.1 dX9_begin_51 rfl (lv_at hl 0 rfl) ?_
  refine lv_iconst (v := 0) X.1 X.2.1 dX9_begin_52 (by decide) ?_
  obtain ⟨w53, e53, hf⟩ := k_ltE hf
  refine k_putw X hU hS (sW_0 hk) fp_X9_77 rfl e53 rfl rfl dX9_begin_53 (fun H locs hU hS => ?_)
  refine lv_aload_n X.1 X.2.1 dX9_begin_56 rfl (lv_at hl 0 rfl) ?_
  refine lv_iconst (v := 0) X.1 X.2.1 dX9_begin_57 (by decide) ?_
  obtain ⟨w58, e58, hf⟩ := k_ltE hf
  refine k_putw X hU hS (sW_0 hk) fp_X9_80 rfl e58 rfl rfl dX9_begin_58 (fun H locs hU hS => ?_)
  refine lv_aload_n X.1 X.2.1 dX9_begin_61 rfl (lv_at hl 0 rfl) ?_
  refine k_getw (v := .ref (ad k 3)) X hU (sW_0 hk) fl_X9_25 rfl dX9_begin_62 ?_
  refine lv_iconst (v := 0) X.1 X.2.1 dX9_begin_65 (by decide) ?_
  obtain ⟨w66, e66, hf⟩ := k_ltE hf
  refine k_putw X hU hS (k_sT hk k_isT_3) fp_X9_84 rfl e66 rfl rfl dX9_begin_66 (fun H locs hU hS => ?_)
  refine lv_aload_n X.1 X.2.1 dX9_begin_69 rfl (lv_at hl 0 rfl) ?_
  refine k_getw (v := .ref (ad k 6)) X hU (sW_0 hk) fl_X9_29 rfl dX9_begin_70 ?_
  refine lv_iconst (v := 0) X.1 X.2.1 dX9_begin_73 (by decide) ?_
  obtain ⟨w74, e74, hf⟩ := k_ltE hf
  refine k_putw X hU hS (k_sT hk k_isT_6) fp_X9_84 rfl e74 rfl rfl dX9_begin_74 (fun H locs hU hS => ?_)
  refine lv_aload_n X.1 X.2.1 dX9_begin_77 rfl (lv_at hl 0 rfl) ?_
  refine k_getw (v := .ref (ad k 9)) X hU (sW_0 hk) fl_X9_35 rfl dX9_begin_78 ?_
  refine lv_iconst (v := 0) X.1 X.2.1 dX9_begin_81 (by decide) ?_
  obtain ⟨w82, e82, hf⟩ := k_ltE hf
  refine k_putw X hU hS (sW_9 hk) fp_X9_87 rfl e82 rfl rfl dX9_begin_82 (fun H locs hU hS => ?_)
  refine lv_aload_n X.1 X.2.1 dX9_begin_85 rfl (lv_at hl 0 rfl) ?_
  refine k_getw (v := .ref (ad k 13)) X hU (sW_0 hk) fl_X9_42 rfl dX9_begin_86 ?_
  obtain ⟨r89, hr89, hf⟩ := k_bdE hf
  refine k_backv X hS (k_runV (As := []) (rest := []) X hS hU (sW_13 hk) (by decide) rfl vl_X9_88 (c_X1_forget X.2.2.2.2.2.2.1 hk (k_uc_s _ _ _) hr89) rfl rfl rfl hl.1 ⟨Nat.le_of_ble_eq_true rfl, Nat.le_of_ble_eq_true rfl⟩ (Nat.le_of_ble_eq_true rfl) dX9_begin_89 ⟨Nat.zero_le _, Nat.zero_le _⟩) (fun H locs hU hS => ?_)
  rw [k_uc_uc] at hU
  have hz := Option.some.inj hf
  subst hz
  exact k_vret X hU hS hr hlk dX9_begin_92
def rm_X4_hasMore : Room := { frames := 1, cells := 0, slots := 0, locals := 20 }
set_option maxRecDepth 100000 in
set_option maxHeartbeats 4000000 in
theorem c_X4_hasMore {l : Launch} {D : va_G} {G : Nat → ClassId} {ad : Nat → Nat → Nat} {u : k_U} (hI : k_ok ad) {w : k_M} (hw : u 1 = w) {sz : Nat} {r : Int32} (hf : f_X4_hasMore w = some r) : Met l yX4_hasMore (.code yX4_hasMore cX4_hasMore 1 (some .boolean) :: lw_g) rm_X4_hasMore (k_Pre D G ad u sz [.ref (ad 1 0)]) (k_Qi D G ad u r sz) 0 0 (k_A ad sz) := by
  refine k_ofW (by decide +kernel) hI (Nat.le_of_ble_eq_true rfl) ?_
  intro p e s m args below meth c X hr hlk hU hS ls hl
  have hl : lv_has ls 1 [(0, .ref (ad 1 0))] := hl
  have hU : k_Uv D G ad (k_uc u 1 w) s.heap := by rw [← hw, k_uc_id]; exact hU
  unfold f_X4_hasMore at hf
  refine lv_aload_n X.1 X.2.1 dX4_hasMore_0 rfl (lv_at hl 0 rfl) ?_
  obtain ⟨r1, hr1, hf⟩ := k_bdE hf
  refine k_backi X hS (k_runV (As := []) (rest := []) X hS hU sh_1_0 (by decide) rfl vl_X4_38 (c_X4_hasFailed X.2.2.2.2.2.2.1 (k_uc_s _ _ _) hr1) rfl rfl rfl hl.1 ⟨Nat.le_of_ble_eq_true rfl, Nat.le_of_ble_eq_true rfl⟩ (Nat.le_of_ble_eq_true rfl) dX4_hasMore_1 ⟨Nat.zero_le _, Nat.zero_le _⟩) (fun H locs hU hS => ?_)
  refine lv_if_ne (tgt := 18) X.1 X.2.1 dX4_hasMore_4 (by decide) (fun c4 => ?_) (fun c4 => ?_)
  · replace hf := k_ifN hf c4
    refine lv_iconst (v := 0) X.1 X.2.1 dX4_hasMore_18 (by decide) ?_
    rw [← hw, k_uc_id] at hU
    have hz := Option.some.inj hf
    subst hz
    exact k_iret (v := 0) X hU hS hr hlk rfl rfl dX4_hasMore_19
  · replace hf := k_ifP hf c4
    refine lv_aload_n X.1 X.2.1 dX4_hasMore_7 rfl (lv_at hl 0 rfl) ?_
    refine k_getw (v := .int (w 0 5)) X hU sh_1_0 fl_X4_42 rfl dX4_hasMore_8 ?_
    refine lv_if_eq (tgt := 18) X.1 X.2.1 dX4_hasMore_11 (by decide) (fun c11 => ?_) (fun c11 => ?_)
    · replace hf := k_ifP hf c11
      refine lv_iconst (v := 0) X.1 X.2.1 dX4_hasMore_18 (by decide) ?_
      rw [← hw, k_uc_id] at hU
      have hz := Option.some.inj hf
      subst hz
      exact k_iret (v := 0) X hU hS hr hlk rfl rfl dX4_hasMore_19
    · replace hf := k_ifN hf c11
      refine lv_iconst (v := 1) X.1 X.2.1 dX4_hasMore_14 (by decide) ?_
      refine lv_goto (tgt := 19) X.1 X.2.1 dX4_hasMore_15 (by decide) ?_
      rw [← hw, k_uc_id] at hU
      have hz := Option.some.inj hf
      subst hz
      exact k_iret (v := 1) X hU hS hr hlk rfl rfl dX4_hasMore_19
def rm_X4_skipWord : Room := { frames := 5, cells := 0, slots := 0, locals := 123 }
set_option maxRecDepth 100000 in
set_option maxHeartbeats 4000000 in
theorem c_X4_skipWord {l : Launch} {D : va_G} {G : Nat → ClassId} {ad : Nat → Nat → Nat} {u : k_U} (hI : k_ok ad) {w : k_M} (hw : u 1 = w) {t1 : Nat} (ht1 : t1 < 33) {sz : Nat} {r : (k_M × Int32)} (hf : f_X4_skipWord w t1 = some r) : Met l yX4_skipWord (.code yX4_skipWord cX4_skipWord 2 (some .boolean) :: lw_g) rm_X4_skipWord (k_Pre D G ad u sz [.ref (ad 1 0), .ref (ad 30 t1)]) (k_Qi D G ad (k_uc u 1 r.1) r.2 sz) 0 0 (k_A ad sz) := by
  refine k_ofW (by decide +kernel) hI (Nat.le_of_ble_eq_true rfl) ?_
  intro p e s m args below meth c X hr hlk hU hS ls hl
  have hl : lv_has ls 2 [(0, .ref (ad 1 0)), (1, .ref (ad 30 t1))] := hl
  have hU : k_Uv D G ad (k_uc u 1 w) s.heap := by rw [← hw, k_uc_id]; exact hU
  unfold f_X4_skipWord at hf
  refine lv_aload_n X.1 X.2.1 dX4_skipWord_0 rfl (lv_at hl 0 rfl) ?_
  obtain ⟨r1, hr1, hf⟩ := k_bdE hf
  refine k_backi X hS (k_runV (As := []) (rest := []) X hS hU sh_1_0 (by decide) rfl vl_X4_38 (c_X4_hasFailed X.2.2.2.2.2.2.1 (k_uc_s _ _ _) hr1) rfl rfl rfl hl.1 ⟨Nat.le_of_ble_eq_true rfl, Nat.le_of_ble_eq_true rfl⟩ (Nat.le_of_ble_eq_true rfl) dX4_skipWord_1 ⟨Nat.zero_le _, Nat.zero_le _⟩) (fun H locs hU hS => ?_)
  refine lv_if_ne (tgt := 15) X.1 X.2.1 dX4_skipWord_4 (by decide) (fun c4 => ?_) (fun c4 => ?_)
  · replace hf := k_ifN hf c4
    refine lv_iconst (v := 0) X.1 X.2.1 dX4_skipWord_15 (by decide) ?_
    have hz := Option.some.inj hf
    subst hz
    exact k_iret (v := 0) X hU hS hr hlk rfl rfl dX4_skipWord_16
  · replace hf := k_ifP hf c4
    refine lv_aload_n X.1 X.2.1 dX4_skipWord_7 rfl (lv_at hl 0 rfl) ?_
    refine lv_aload_n X.1 X.2.1 dX4_skipWord_8 rfl (lv_at hl 1 rfl) ?_
    obtain ⟨r9, hr9, hf⟩ := k_bdE hf
    refine k_backi X hS (k_runV (As := [.ref (ad 30 t1)]) (rest := []) X hS hU sh_1_0 (by decide) rfl vl_X4_45 (c_X4_isAt X.2.2.2.2.2.2.1 (k_uc_s _ _ _) ht1 hr9) rfl rfl rfl hl.1 ⟨Nat.le_of_ble_eq_true rfl, Nat.le_of_ble_eq_true rfl⟩ (Nat.le_of_ble_eq_true rfl) dX4_skipWord_9 ⟨Nat.zero_le _, Nat.zero_le _⟩) (fun H locs hU hS => ?_)
    refine lv_if_ne (tgt := 17) X.1 X.2.1 dX4_skipWord_12 (by decide) (fun c12 => ?_) (fun c12 => ?_)
    · replace hf := k_ifN hf c12
      refine lv_aload_n X.1 X.2.1 dX4_skipWord_17 rfl (lv_at hl 0 rfl) ?_
      obtain ⟨r18, hr18, hf⟩ := k_bdE hf
      refine k_backv X hS (k_runV (As := []) (rest := []) X hS hU sh_1_0 (by decide) rfl vl_X4_35 (c_X4_advance X.2.2.2.2.2.2.1 (k_uc_s _ _ _) hr18) rfl rfl rfl hl.1 ⟨Nat.le_of_ble_eq_true rfl, Nat.le_of_ble_eq_true rfl⟩ (Nat.le_of_ble_eq_true rfl) dX4_skipWord_18 ⟨Nat.zero_le _, Nat.zero_le _⟩) (fun H locs hU hS => ?_)
      rw [k_uc_uc] at hU
      refine lv_iconst (v := 1) X.1 X.2.1 dX4_skipWord_21 (by decide) ?_
      have hz := Option.some.inj hf
      subst hz
      exact k_iret (v := 1) X hU hS hr hlk rfl rfl dX4_skipWord_22
    · replace hf := k_ifP hf c12
      refine lv_iconst (v := 0) X.1 X.2.1 dX4_skipWord_15 (by decide) ?_
      have hz := Option.some.inj hf
      subst hz
      exact k_iret (v := 0) X hU hS hr hlk rfl rfl dX4_skipWord_16
def rm_X4_failHere : Room := { frames := 1, cells := 0, slots := 0, locals := 22 }
set_option maxRecDepth 100000 in
set_option maxHeartbeats 4000000 in
theorem c_X4_failHere {l : Launch} {D : va_G} {G : Nat → ClassId} {ad : Nat → Nat → Nat} {u : k_U} (hI : k_ok ad) {w : k_M} (hw : u 1 = w) {a1 : Int32} {sz : Nat} {r : k_M} (hf : f_X4_failHere w a1 = some r) : Met l yX4_failHere (.code yX4_failHere cX4_failHere 2 none :: lw_g) rm_X4_failHere (k_Pre D G ad u sz [.ref (ad 1 0), .int a1]) (k_Qv D G ad (k_uc u 1 r) sz) 0 0 (k_A ad sz) := by
  refine k_ofW (by decide +kernel) hI (Nat.le_of_ble_eq_true rfl) ?_
  intro p e s m args below meth c X hr hlk hU hS ls hl
  have hl : lv_has ls 2 [(0, .ref (ad 1 0)), (1, .int a1)] := hl
  have hU : k_Uv D G ad (k_uc u 1 w) s.heap := by rw [← hw, k_uc_id]; exact hU
  unfold f_X4_failHere at hf
  refine lv_aload_n X.1 X.2.1 dX4_failHere_0 rfl (lv_at hl 0 rfl) ?_
  refine lv_aload_n X.1 X.2.1 dX4_failHere_1 rfl (lv_at hl 0 rfl) ?_
  refine k_getw (v := .int (w 0 6)) X hU sh_1_0 fl_X4_49 rfl dX4_failHere_2 ?_
  refine lv_iload_n X.1 X.2.1 dX4_failHere_5 rfl (lv_at hl 1 rfl) ?_
  obtain ⟨r6, hr6, hf⟩ := k_bdE hf
  refine k_backv X hS (k_runV (As := [.int (w 0 6), .int a1]) (rest := []) X hS hU sh_1_0 (by decide) rfl vl_X4_52 (c_X4_failAt X.2.2.2.2.2.2.1 (k_uc_s _ _ _) hr6) rfl rfl rfl hl.1 ⟨Nat.le_of_ble_eq_true rfl, Nat.le_of_ble_eq_true rfl⟩ (Nat.le_of_ble_eq_true rfl) dX4_failHere_6 ⟨Nat.zero_le _, Nat.zero_le _⟩) (fun H locs hU hS => ?_)
  rw [k_uc_uc] at hU
  have hz := Option.some.inj hf
  subst hz
  exact k_vret X hU hS hr hlk dX4_failHere_9
def rm_X4_failTaken : Room := { frames := 1, cells := 0, slots := 0, locals := 22 }
set_option maxRecDepth 100000 in
set_option maxHeartbeats 4000000 in
theorem c_X4_failTaken {l : Launch} {D : va_G} {G : Nat → ClassId} {ad : Nat → Nat → Nat} {u : k_U} (hI : k_ok ad) {w : k_M} (hw : u 1 = w) {a1 : Int32} {sz : Nat} {r : k_M} (hf : f_X4_failTaken w a1 = some r) : Met l yX4_failTaken (.code yX4_failTaken cX4_failTaken 2 none :: lw_g) rm_X4_failTaken (k_Pre D G ad u sz [.ref (ad 1 0), .int a1]) (k_Qv D G ad (k_uc u 1 r) sz) 0 0 (k_A ad sz) := by
  refine k_ofW (by decide +kernel) hI (Nat.le_of_ble_eq_true rfl) ?_
  intro p e s m args below meth c X hr hlk hU hS ls hl
  have hl : lv_has ls 2 [(0, .ref (ad 1 0)), (1, .int a1)] := hl
  have hU : k_Uv D G ad (k_uc u 1 w) s.heap := by rw [← hw, k_uc_id]; exact hU
  unfold f_X4_failTaken at hf
  refine lv_aload_n X.1 X.2.1 dX4_failTaken_0 rfl (lv_at hl 0 rfl) ?_
  refine lv_aload_n X.1 X.2.1 dX4_failTaken_1 rfl (lv_at hl 0 rfl) ?_
  refine k_getw (v := .int (w 0 9)) X hU sh_1_0 fl_X4_63 rfl dX4_failTaken_2 ?_
  refine lv_iload_n X.1 X.2.1 dX4_failTaken_5 rfl (lv_at hl 1 rfl) ?_
  obtain ⟨r6, hr6, hf⟩ := k_bdE hf
  refine k_backv X hS (k_runV (As := [.int (w 0 9), .int a1]) (rest := []) X hS hU sh_1_0 (by decide) rfl vl_X4_52 (c_X4_failAt X.2.2.2.2.2.2.1 (k_uc_s _ _ _) hr6) rfl rfl rfl hl.1 ⟨Nat.le_of_ble_eq_true rfl, Nat.le_of_ble_eq_true rfl⟩ (Nat.le_of_ble_eq_true rfl) dX4_failTaken_6 ⟨Nat.zero_le _, Nat.zero_le _⟩) (fun H locs hU hS => ?_)
  rw [k_uc_uc] at hU
  have hz := Option.some.inj hf
  subst hz
  exact k_vret X hU hS hr hlk dX4_failTaken_9
def rm_X4_takeSigned : Room := { frames := 2, cells := 0, slots := 0, locals := 45 }
set_option maxRecDepth 100000 in
set_option maxHeartbeats 4000000 in
theorem c_X4_takeSigned {l : Launch} {D : va_G} {G : Nat → ClassId} {ad : Nat → Nat → Nat} {u : k_U} (hI : k_ok ad) {w : k_M} (hw : u 1 = w) {a1 : Int32} {sz : Nat} {r : (k_M × Int32)} (hf : f_X4_takeSigned w a1 = some r) : Met l yX4_takeSigned (.code yX4_takeSigned cX4_takeSigned 4 (some .int) :: lw_g) rm_X4_takeSigned (k_Pre D G ad u sz [.ref (ad 1 0), .int a1]) (k_Qi D G ad (k_uc u 1 r.1) r.2 sz) 0 0 (k_A ad sz) := by
  refine k_ofW (by decide +kernel) hI (Nat.le_of_ble_eq_true rfl) ?_
  intro p e s m args below meth c X hr hlk hU hS ls hl
  have hl : lv_has ls 4 [(0, .ref (ad 1 0)), (1, .int a1)] := hl
  have hU : k_Uv D G ad (k_uc u 1 w) s.heap := by rw [← hw, k_uc_id]; exact hU
  have J29 : ∀ (H : Heap) (locs : List Loc) (ls : Array Slot) (w : k_M) (a1 : Int32) (a2 : Int32), k_Uv D G ad (k_uc u 1 w) H → va_S (k_A ad sz) s.heap H locs → lv_has ls 4 [(0, .ref (ad 1 0)), (1, .int a1), (2, .int a2)] → f_X4_takeSigned_29 w a1 a2 = some r → W p l e rm_X4_takeSigned s m args below meth c H locs 0 0 (MQ below (k_Qi D G ad (k_uc u 1 r.1) r.2 sz) args s 0 0 (k_A ad sz)) (F0 m 29 ls []) := by
    intro H locs ls w a1 a2 hU hS hl hf
    unfold f_X4_takeSigned_29 at hf
    refine lv_aload_n X.1 X.2.1 dX4_takeSigned_29 rfl (lv_at hl 0 rfl) ?_
    refine lv_iconst (v := 0) X.1 X.2.1 dX4_takeSigned_30 (by decide) ?_
    refine lv_iload_n X.1 X.2.1 dX4_takeSigned_31 rfl (lv_at hl 1 rfl) ?_
    obtain ⟨r32, hr32, hf⟩ := k_bdE hf
    refine k_backi X hS (k_runV (As := [.int 0, .int a1]) (rest := []) X hS hU sh_1_0 (by decide) rfl vl_X4_59 (c_X4_takeNumber X.2.2.2.2.2.2.1 (k_uc_s _ _ _) hr32) rfl rfl rfl hl.1 ⟨Nat.le_of_ble_eq_true rfl, Nat.le_of_ble_eq_true rfl⟩ (Nat.le_of_ble_eq_true rfl) dX4_takeSigned_32 ⟨Nat.zero_le _, Nat.zero_le _⟩) (fun H locs hU hS => ?_)
    rw [k_uc_uc] at hU
    refine lv_istore_n (lv' := [(3, .int r32.2), (0, .ref (ad 1 0)), (1, .int a1), (2, .int a2)]) X.1 X.2.1 dX4_takeSigned_35 rfl hl (by decide) rfl (fun ls hl => ?_)
    refine lv_iload_n X.1 X.2.1 dX4_takeSigned_36 rfl (lv_at hl 3 rfl) ?_
    refine lv_if_eq (tgt := 45) X.1 X.2.1 dX4_takeSigned_37 (by decide) (fun c37 => ?_) (fun c37 => ?_)
    · replace hf := k_ifP hf c37
      refine lv_iload_n X.1 X.2.1 dX4_takeSigned_45 rfl (lv_at hl 0 rfl) ?_
      have hz := Option.some.inj hf
      subst hz
      exact k_iret (v := r32.2) X hU hS hr hlk rfl rfl dX4_takeSigned_46
    · replace hf := k_ifN hf c37
      refine lv_iload_n X.1 X.2.1 dX4_takeSigned_40 rfl (lv_at hl 0 rfl) ?_
      refine lv_ineg X.1 X.2.1 dX4_takeSigned_41 ?_
      refine lv_goto (tgt := 46) X.1 X.2.1 dX4_takeSigned_42 (by decide) ?_
      have hz := Option.some.inj hf
      subst hz
      exact k_iret (v := (-r32.2)) X hU hS hr hlk rfl rfl dX4_takeSigned_46
  have J20 : ∀ (H : Heap) (locs : List Loc) (ls : Array Slot) (w : k_M) (a1 : Int32) (as0 : Int32), k_Uv D G ad (k_uc u 1 w) H → va_S (k_A ad sz) s.heap H locs → lv_has ls 4 [(0, .ref (ad 1 0)), (1, .int a1)] → f_X4_takeSigned_20 w a1 as0 = some r → W p l e rm_X4_takeSigned s m args below meth c H locs 0 0 (MQ below (k_Qi D G ad (k_uc u 1 r.1) r.2 sz) args s 0 0 (k_A ad sz)) (F0 m 20 ls [.int as0]) := by
    intro H locs ls w a1 as0 hU hS hl hf
    unfold f_X4_takeSigned_20 at hf
    refine lv_istore_n (lv' := [(2, .int as0), (0, .ref (ad 1 0)), (1, .int a1)]) X.1 X.2.1 dX4_takeSigned_20 rfl hl (by decide) rfl (fun ls hl => ?_)
    refine lv_iload_n X.1 X.2.1 dX4_takeSigned_21 rfl (lv_at hl 0 rfl) ?_
    refine lv_if_eq (tgt := 29) X.1 X.2.1 dX4_takeSigned_22 (by decide) (fun c22 => ?_) (fun c22 => ?_)
    · replace hf := k_ifP hf c22
      exact J29 _ _ _ w a1 as0 hU hS (lv_sub hl [1, 2, 0] rfl) hf
    · replace hf := k_ifN hf c22
      refine lv_aload_n X.1 X.2.1 dX4_takeSigned_25 rfl (lv_at hl 1 rfl) ?_
      obtain ⟨r26, hr26, hf⟩ := k_bdE hf
      refine k_backv X hS (k_runV (As := []) (rest := []) X hS hU sh_1_0 (by decide) rfl vl_X4_35 (c_X4_advance X.2.2.2.2.2.2.1 (k_uc_s _ _ _) hr26) rfl rfl rfl hl.1 ⟨Nat.le_of_ble_eq_true rfl, Nat.le_of_ble_eq_true rfl⟩ (Nat.le_of_ble_eq_true rfl) dX4_takeSigned_26 ⟨Nat.zero_le _, Nat.zero_le _⟩) (fun H locs hU hS => ?_)
      rw [k_uc_uc] at hU
      exact J29 _ _ _ r26 a1 as0 hU hS (lv_sub hl [1, 2, 0] rfl) hf
  have J19 : ∀ (H : Heap) (locs : List Loc) (ls : Array Slot) (w : k_M) (a1 : Int32), k_Uv D G ad (k_uc u 1 w) H → va_S (k_A ad sz) s.heap H locs → lv_has ls 4 [(0, .ref (ad 1 0)), (1, .int a1)] → f_X4_takeSigned_19 w a1 = some r → W p l e rm_X4_takeSigned s m args below meth c H locs 0 0 (MQ below (k_Qi D G ad (k_uc u 1 r.1) r.2 sz) args s 0 0 (k_A ad sz)) (F0 m 19 ls []) := by
    intro H locs ls w a1 hU hS hl hf
    unfold f_X4_takeSigned_19 at hf
    refine lv_iconst (v := 0) X.1 X.2.1 dX4_takeSigned_19 (by decide) ?_
    exact J20 _ _ _ w a1 0 hU hS (lv_sub hl [0, 1] rfl) hf
  unfold f_X4_takeSigned at hf
  refine lv_aload_n X.1 X.2.1 dX4_takeSigned_0 rfl (lv_at hl 0 rfl) ?_
  refine k_getw (v := .int (w 0 5)) X hU sh_1_0 fl_X4_42 rfl dX4_takeSigned_1 ?_
  refine lv_iconst (v := 3) X.1 X.2.1 dX4_takeSigned_4 (by decide) ?_
  refine lv_icmp_ne (tgt := 19) X.1 X.2.1 dX4_takeSigned_5 (by decide) (fun c5 => ?_) (fun c5 => ?_)
  · replace hf := k_ifN hf c5
    exact J19 _ _ _ w a1 hU hS (lv_sub hl [0, 1] rfl) hf
  · replace hf := k_ifP hf c5
    refine lv_aload_n X.1 X.2.1 dX4_takeSigned_8 rfl (lv_at hl 0 rfl) ?_
    obtain ⟨r9, hr9, hf⟩ := k_bdE hf
    refine k_backi X hS (k_runV (As := []) (rest := []) X hS hU sh_1_0 (by decide) rfl vl_X4_38 (c_X4_hasFailed X.2.2.2.2.2.2.1 (k_uc_s _ _ _) hr9) rfl rfl rfl hl.1 ⟨Nat.le_of_ble_eq_true rfl, Nat.le_of_ble_eq_true rfl⟩ (Nat.le_of_ble_eq_true rfl) dX4_takeSigned_9 ⟨Nat.zero_le _, Nat.zero_le _⟩) (fun H locs hU hS => ?_)
    refine lv_if_ne (tgt := 19) X.1 X.2.1 dX4_takeSigned_12 (by decide) (fun c12 => ?_) (fun c12 => ?_)
    · replace hf := k_ifN hf c12
      exact J19 _ _ _ w a1 hU hS (lv_sub hl [0, 1] rfl) hf
    · replace hf := k_ifP hf c12
      refine lv_iconst (v := 1) X.1 X.2.1 dX4_takeSigned_15 (by decide) ?_
      refine lv_goto (tgt := 20) X.1 X.2.1 dX4_takeSigned_16 (by decide) ?_
      exact J20 _ _ _ w a1 1 hU hS (lv_sub hl [0, 1] rfl) hf
def rm_X8_add : Room := { frames := 0, cells := 0, slots := 0, locals := 0 }
set_option maxRecDepth 100000 in
set_option maxHeartbeats 4000000 in
theorem c_X8_add {l : Launch} {D : va_G} {G : Nat → ClassId} {ad : Nat → Nat → Nat} {u : k_U} (hI : k_ok ad) {k : Nat} (hk : k_isW k) {w : k_M} (hw : u k = w) {a1 : Int32} {a2 : Int32} {a3 : Int32} {sz : Nat} {r : k_M} (hf : f_X8_add w a1 a2 a3 = some r) : Met l yX8_add (.code yX8_add cX8_add 4 none :: lw_g) rm_X8_add (k_Pre D G ad u sz [.ref (ad k 9), .int a1, .int a2, .int a3]) (k_Qv D G ad (k_uc u k r) sz) 0 0 (k_A ad sz) := by
  refine k_ofW (by decide +kernel) hI (Nat.le_of_ble_eq_true rfl) ?_
  intro p e s m args below meth c X hr hlk hU hS ls hl
  have hl : lv_has ls 4 [(0, .ref (ad k 9)), (1, .int a1), (2, .int a2), (3, .int a3)] := hl
  have hU : k_Uv D G ad (k_uc u k w) s.heap := by rw [← hw, k_uc_id]; exact hU
  unfold f_X8_add at hf
  refine lv_aload_n X.1 X.2.1 dX8_add_0 rfl (lv_at hl 0 rfl) ?_
  refine k_getw (v := .int (w 9 3)) X hU (sW_9 hk) fl_X8_27 rfl dX8_add_1 ?_
  refine lv_bipush (v := 8) X.1 X.2.1 dX8_add_4 (by decide) ?_
  refine lv_icmp_ge (tgt := 49) X.1 X.2.1 dX8_add_6 (by decide) (fun c6 => ?_) (fun c6 => ?_)
  · replace hf := k_ifP hf c6
    have hz := Option.some.inj hf
    subst hz
    exact k_vret X hU hS hr hlk dX8_add_49
  · replace hf := k_ifN hf c6
    refine lv_aload_n X.1 X.2.1 dX8_add_9 rfl (lv_at hl 0 rfl) ?_
    refine k_getw (v := .ref (ad k 10)) X hU (sW_9 hk) fl_X8_11 rfl dX8_add_10 ?_
    refine lv_aload_n X.1 X.2.1 dX8_add_13 rfl (lv_at hl 0 rfl) ?_
    refine k_getw (v := .int (w 9 3)) X hU (sW_9 hk) fl_X8_27 rfl dX8_add_14 ?_
    refine lv_iload_n X.1 X.2.1 dX8_add_17 rfl (lv_at hl 1 rfl) ?_
    obtain ⟨hi18, hf⟩ := k_ckE hf
    obtain ⟨w18, e18, hf⟩ := k_ltE hf
    refine k_istw X hU hS (sW_10 hk) e18 (k_vin (n := 8) hi18 (by decide)) rfl dX8_add_18 (fun H locs hU hS => ?_)
    refine lv_aload_n X.1 X.2.1 dX8_add_19 rfl (lv_at hl 0 rfl) ?_
    refine k_getw (v := .ref (ad k 11)) X hU (sW_9 hk) fl_X8_15 rfl dX8_add_20 ?_
    refine lv_aload_n X.1 X.2.1 dX8_add_23 rfl (lv_at hl 0 rfl) ?_
    refine k_getw (v := .int (w18 9 3)) X hU (sW_9 hk) fl_X8_27 rfl dX8_add_24 ?_
    refine lv_iload_n X.1 X.2.1 dX8_add_27 rfl (lv_at hl 2 rfl) ?_
    obtain ⟨hi28, hf⟩ := k_ckE hf
    obtain ⟨w28, e28, hf⟩ := k_ltE hf
    refine k_istw X hU hS (sW_11 hk) e28 (k_vin (n := 8) hi28 (by decide)) rfl dX8_add_28 (fun H locs hU hS => ?_)
    refine lv_aload_n X.1 X.2.1 dX8_add_29 rfl (lv_at hl 0 rfl) ?_
    refine k_getw (v := .ref (ad k 12)) X hU (sW_9 hk) fl_X8_18 rfl dX8_add_30 ?_
    refine lv_aload_n X.1 X.2.1 dX8_add_33 rfl (lv_at hl 0 rfl) ?_
    refine k_getw (v := .int (w28 9 3)) X hU (sW_9 hk) fl_X8_27 rfl dX8_add_34 ?_
    refine lv_iload_n X.1 X.2.1 dX8_add_37 rfl (lv_at hl 3 rfl) ?_
    obtain ⟨hi38, hf⟩ := k_ckE hf
    obtain ⟨w38, e38, hf⟩ := k_ltE hf
    refine k_istw X hU hS (sW_12 hk) e38 (k_vin (n := 8) hi38 (by decide)) rfl dX8_add_38 (fun H locs hU hS => ?_)
    refine lv_aload_n X.1 X.2.1 dX8_add_39 rfl (lv_at hl 0 rfl) ?_
    refine lv_dup X.1 X.2.1 dX8_add_40 rfl ?_
    refine k_getw (v := .int (w38 9 3)) X hU (sW_9 hk) fl_X8_27 rfl dX8_add_41 ?_
    refine lv_iconst (v := 1) X.1 X.2.1 dX8_add_44 (by decide) ?_
    refine lv_iadd X.1 X.2.1 dX8_add_45 ?_
    obtain ⟨w46, e46, hf⟩ := k_ltE hf
    refine k_putw X hU hS (sW_9 hk) fp_X8_27 rfl e46 rfl rfl dX8_add_46 (fun H locs hU hS => ?_)
    have hz := Option.some.inj hf
    subst hz
    exact k_vret X hU hS hr hlk dX8_add_49
def rm_X6_readSpot : Room := { frames := 3, cells := 0, slots := 0, locals := 68 }
set_option maxRecDepth 100000 in
set_option maxHeartbeats 4000000 in
theorem c_X6_readSpot {l : Launch} {D : va_G} {G : Nat → ClassId} {ad : Nat → Nat → Nat} {u : k_U} (hI : k_ok ad) {sz : Nat} {r : k_U} (hf : f_X6_readSpot u = some r) : Met l yX6_readSpot (.code yX6_readSpot cX6_readSpot 5 none :: lw_g) rm_X6_readSpot (k_Pre D G ad u sz [.ref (ad 0 4), .ref (ad 1 0)]) (k_Qv D G ad r sz) 0 0 (k_A ad sz) := by
  refine k_ofW (by decide +kernel) hI (Nat.le_of_ble_eq_true rfl) ?_
  intro p e s m args below meth c X hr hlk hU hS ls hl
  have hl : lv_has ls 5 [(0, .ref (ad 0 4)), (1, .ref (ad 1 0))] := hl
  have J46 : ∀ (H : Heap) (locs : List Loc) (ls : Array Slot) (u : k_U) (a2 : Int32) (a3 : Int32), k_Uv D G ad u H → va_S (k_A ad sz) s.heap H locs → lv_has ls 5 [(0, .ref (ad 0 4)), (1, .ref (ad 1 0)), (2, .int a2), (3, .int a3)] → f_X6_readSpot_46 u a2 a3 = some r → W p l e rm_X6_readSpot s m args below meth c H locs 0 0 (MQ below (k_Qv D G ad r sz) args s 0 0 (k_A ad sz)) (F0 m 46 ls []) := by
    intro H locs ls u a2 a3 hU hS hl hf
    unfold f_X6_readSpot_46 at hf
    refine lv_aload_n X.1 X.2.1 dX6_readSpot_46 rfl (lv_at hl 1 rfl) ?_
    refine lv_iconst (v := 1) X.1 X.2.1 dX6_readSpot_47 (by decide) ?_
    refine lv_bipush (v := 99) X.1 X.2.1 dX6_readSpot_48 (by decide) ?_
    obtain ⟨r50, hr50, hf⟩ := k_bdE hf
    refine k_backi X hS (k_runV (As := [.int 1, .int 99]) (rest := []) X hS hU sh_1_0 (by decide) rfl vl_X6_29 (c_X4_takeNumber X.2.2.2.2.2.2.1 rfl hr50) rfl rfl rfl hl.1 ⟨Nat.le_of_ble_eq_true rfl, Nat.le_of_ble_eq_true rfl⟩ (Nat.le_of_ble_eq_true rfl) dX6_readSpot_50 ⟨Nat.zero_le _, Nat.zero_le _⟩) (fun H locs hU hS => ?_)
    obtain ⟨u50, e50, hf⟩ := k_ltE hf
    rw [← e50] at hU
    refine lv_istore (lv' := [(4, .int r50.2), (0, .ref (ad 0 4)), (1, .ref (ad 1 0)), (2, .int a2), (3, .int a3)]) X.1 X.2.1 dX6_readSpot_53 hl (by decide) rfl (fun ls hl => ?_)
    refine lv_aload_n X.1 X.2.1 dX6_readSpot_55 rfl (lv_at hl 1 rfl) ?_
    refine k_get (v := .ref (ad 14 0)) X hU sh_0_4 fl_X6_12 rfl dX6_readSpot_56 ?_
    refine k_get (v := .ref (ad 14 9)) X hU (sW_0 k_isW_14) fl_X6_153 rfl dX6_readSpot_59 ?_
    refine lv_iload_n X.1 X.2.1 dX6_readSpot_62 rfl (lv_at hl 3 rfl) ?_
    refine lv_iload_n X.1 X.2.1 dX6_readSpot_63 rfl (lv_at hl 4 rfl) ?_
    refine lv_iload X.1 X.2.1 dX6_readSpot_64 (lv_at hl 0 rfl) ?_
    obtain ⟨r66, hr66, hf⟩ := k_bdE hf
    refine k_backv X hS (k_runV (As := [.int a2, .int a3, .int r50.2]) (rest := []) X hS hU (sW_9 k_isW_14) (by decide) rfl vl_X6_160 (c_X8_add X.2.2.2.2.2.2.1 k_isW_14 rfl hr66) rfl rfl rfl hl.1 ⟨Nat.le_of_ble_eq_true rfl, Nat.le_of_ble_eq_true rfl⟩ (Nat.le_of_ble_eq_true rfl) dX6_readSpot_66 ⟨Nat.zero_le _, Nat.zero_le _⟩) (fun H locs hU hS => ?_)
    obtain ⟨u66, e66, hf⟩ := k_ltE hf
    rw [← e66] at hU
    have hz := Option.some.inj hf
    subst hz
    exact k_vret X hU hS hr hlk dX6_readSpot_69
  have J20 : ∀ (H : Heap) (locs : List Loc) (ls : Array Slot) (u : k_U), k_Uv D G ad u H → va_S (k_A ad sz) s.heap H locs → lv_has ls 5 [(0, .ref (ad 0 4)), (1, .ref (ad 1 0))] → f_X6_readSpot_20 u = some r → W p l e rm_X6_readSpot s m args below meth c H locs 0 0 (MQ below (k_Qv D G ad r sz) args s 0 0 (k_A ad sz)) (F0 m 20 ls []) := by
    intro H locs ls u hU hS hl hf
    unfold f_X6_readSpot_20 at hf
    refine lv_aload_n X.1 X.2.1 dX6_readSpot_20 rfl (lv_at hl 1 rfl) ?_
    refine lv_sipush (v := 9999) X.1 X.2.1 dX6_readSpot_21 (by decide) ?_
    obtain ⟨r24, hr24, hf⟩ := k_bdE hf
    refine k_backi X hS (k_runV (As := [.int 9999]) (rest := []) X hS hU sh_1_0 (by decide) rfl vl_X6_143 (c_X4_takeSigned X.2.2.2.2.2.2.1 rfl hr24) rfl rfl rfl hl.1 ⟨Nat.le_of_ble_eq_true rfl, Nat.le_of_ble_eq_true rfl⟩ (Nat.le_of_ble_eq_true rfl) dX6_readSpot_24 ⟨Nat.zero_le _, Nat.zero_le _⟩) (fun H locs hU hS => ?_)
    obtain ⟨u24, e24, hf⟩ := k_ltE hf
    rw [← e24] at hU
    refine lv_istore_n (lv' := [(2, .int r24.2), (0, .ref (ad 0 4)), (1, .ref (ad 1 0))]) X.1 X.2.1 dX6_readSpot_27 rfl hl (by decide) rfl (fun ls hl => ?_)
    refine lv_aload_n X.1 X.2.1 dX6_readSpot_28 rfl (lv_at hl 2 rfl) ?_
    refine lv_sipush (v := 9999) X.1 X.2.1 dX6_readSpot_29 (by decide) ?_
    obtain ⟨r32, hr32, hf⟩ := k_bdE hf
    refine k_backi X hS (k_runV (As := [.int 9999]) (rest := []) X hS hU sh_1_0 (by decide) rfl vl_X6_143 (c_X4_takeSigned X.2.2.2.2.2.2.1 rfl hr32) rfl rfl rfl hl.1 ⟨Nat.le_of_ble_eq_true rfl, Nat.le_of_ble_eq_true rfl⟩ (Nat.le_of_ble_eq_true rfl) dX6_readSpot_32 ⟨Nat.zero_le _, Nat.zero_le _⟩) (fun H locs hU hS => ?_)
    obtain ⟨u32, e32, hf⟩ := k_ltE hf
    rw [← e32] at hU
    refine lv_istore_n (lv' := [(3, .int r32.2), (2, .int r24.2), (0, .ref (ad 0 4)), (1, .ref (ad 1 0))]) X.1 X.2.1 dX6_readSpot_35 rfl hl (by decide) rfl (fun ls hl => ?_)
    refine lv_iload_n X.1 X.2.1 dX6_readSpot_36 rfl (lv_at hl 0 rfl) ?_
    refine lv_iload_n X.1 X.2.1 dX6_readSpot_37 rfl (lv_at hl 1 rfl) ?_
    refine lv_icmp_ge (tgt := 46) X.1 X.2.1 dX6_readSpot_38 (by decide) (fun c38 => ?_) (fun c38 => ?_)
    · replace hf := k_ifP hf c38
      exact J46 _ _ _ u32 r24.2 r32.2 hU hS (lv_sub hl [2, 3, 1, 0] rfl) hf
    · replace hf := k_ifN hf c38
      refine lv_aload_n X.1 X.2.1 dX6_readSpot_41 rfl (lv_at hl 3 rfl) ?_
      refine lv_iconst (v := 3) X.1 X.2.1 dX6_readSpot_42 (by decide) ?_
      obtain ⟨r43, hr43, hf⟩ := k_bdE hf
      refine k_backv X hS (k_runV (As := [.int 3]) (rest := []) X hS hU sh_1_0 (by decide) rfl vl_X6_91 (c_X4_failTaken X.2.2.2.2.2.2.1 rfl hr43) rfl rfl rfl hl.1 ⟨Nat.le_of_ble_eq_true rfl, Nat.le_of_ble_eq_true rfl⟩ (Nat.le_of_ble_eq_true rfl) dX6_readSpot_43 ⟨Nat.zero_le _, Nat.zero_le _⟩) (fun H locs hU hS => ?_)
      obtain ⟨u43, e43, hf⟩ := k_ltE hf
      rw [← e43] at hU
      exact J46 _ _ _ u43 r24.2 r32.2 hU hS (lv_sub hl [2, 3, 1, 0] rfl) hf
  unfold f_X6_readSpot at hf
  refine lv_aload_n X.1 X.2.1 dX6_readSpot_0 rfl (lv_at hl 0 rfl) ?_
  refine k_get (v := .ref (ad 14 0)) X hU sh_0_4 fl_X6_12 rfl dX6_readSpot_1 ?_
  refine k_get (v := .ref (ad 14 9)) X hU (sW_0 k_isW_14) fl_X6_153 rfl dX6_readSpot_4 ?_
  refine k_get (v := .int (u 14 9 3)) X hU (sW_9 k_isW_14) fl_X6_157 rfl dX6_readSpot_7 ?_
  refine lv_bipush (v := 8) X.1 X.2.1 dX6_readSpot_10 (by decide) ?_
  refine lv_icmp_lt (tgt := 20) X.1 X.2.1 dX6_readSpot_12 (by decide) (fun c12 => ?_) (fun c12 => ?_)
  · replace hf := k_ifP hf c12
    exact J20 _ _ _ u hU hS (lv_sub hl [0, 1] rfl) hf
  · replace hf := k_ifN hf c12
    refine lv_aload_n X.1 X.2.1 dX6_readSpot_15 rfl (lv_at hl 1 rfl) ?_
    refine lv_iconst (v := 4) X.1 X.2.1 dX6_readSpot_16 (by decide) ?_
    obtain ⟨r17, hr17, hf⟩ := k_bdE hf
    refine k_backv X hS (k_runV (As := [.int 4]) (rest := []) X hS hU sh_1_0 (by decide) rfl vl_X6_91 (c_X4_failTaken X.2.2.2.2.2.2.1 rfl hr17) rfl rfl rfl hl.1 ⟨Nat.le_of_ble_eq_true rfl, Nat.le_of_ble_eq_true rfl⟩ (Nat.le_of_ble_eq_true rfl) dX6_readSpot_17 ⟨Nat.zero_le _, Nat.zero_le _⟩) (fun H locs hU hS => ?_)
    obtain ⟨u17, e17, hf⟩ := k_ltE hf
    rw [← e17] at hU
    exact J20 _ _ _ u17 hU hS (lv_sub hl [0, 1] rfl) hf
def rm_X2_placeOf : Room := { frames := 0, cells := 0, slots := 0, locals := 0 }
set_option maxRecDepth 100000 in
set_option maxHeartbeats 4000000 in
theorem c_X2_placeOf {l : Launch} {D : va_G} {G : Nat → ClassId} {ad : Nat → Nat → Nat} {u : k_U} (hI : k_ok ad) {k : Nat} (hk : k_isW k) {w : k_M} (hw : u k = w) {tc : Nat} {a1 : Int32} (hc : k_isT tc) {sz : Nat} {r : Int32} (hf : f_X2_placeOf w tc a1 = some r) : Met l yX2_placeOf (.code yX2_placeOf cX2_placeOf 3 (some .int) :: lw_g) rm_X2_placeOf (k_Pre D G ad u sz [.ref (ad k tc), .int a1]) (k_Qi D G ad u r sz) 0 0 (k_A ad sz) := by
  refine k_ofW (by decide +kernel) hI (Nat.le_of_ble_eq_true rfl) ?_
  intro p e s m args below meth c X hr hlk hU hS ls hl
  have hl : lv_has ls 3 [(0, .ref (ad k tc)), (1, .int a1)] := hl
  have hU : k_Uv D G ad (k_uc u k w) s.heap := by rw [← hw, k_uc_id]; exact hU
  have L2 : ∀ (n2 : Nat) (H : Heap) (locs : List Loc) (ls : Array Slot) (a1 : Int32) (a2 : Int32), k_Uv D G ad (k_uc u k w) H → va_S (k_A ad sz) s.heap H locs → lv_has ls 3 [(0, .ref (ad k tc)), (1, .int a1), (2, .int a2)] → f_X2_placeOf_2 n2 w tc a1 a2 = some r → W p l e rm_X2_placeOf s m args below meth c H locs 0 0 (MQ below (k_Qi D G ad u r sz) args s 0 0 (k_A ad sz)) (F0 m 2 ls []) := by
    intro n2
    induction n2 with
    | zero =>
      intro H locs ls a1 a2 hU hS hl hf
      cases (show none = some r from hf)
    | succ n2 ih2 =>
      intro H locs ls a1 a2 hU hS hl hf
      replace hf : f_X2_placeOf_2_b (f_X2_placeOf_2 n2) w tc a1 a2 = some r := hf
      unfold f_X2_placeOf_2_b at hf
      refine lv_iload_n X.1 X.2.1 dX2_placeOf_2 rfl (lv_at hl 2 rfl) ?_
      refine lv_aload_n X.1 X.2.1 dX2_placeOf_3 rfl (lv_at hl 0 rfl) ?_
      refine k_getw (v := .int (w tc 2)) X hU (k_sT hk hc) fl_X2_24 rfl dX2_placeOf_4 ?_
      refine lv_icmp_ge (tgt := 28) X.1 X.2.1 dX2_placeOf_7 (by decide) (fun c7 => ?_) (fun c7 => ?_)
      · replace hf := k_ifP hf c7
        refine lv_iconst (v := (-1)) X.1 X.2.1 dX2_placeOf_28 (by decide) ?_
        rw [← hw, k_uc_id] at hU
        have hz := Option.some.inj hf
        subst hz
        exact k_iret (v := (-1)) X hU hS hr hlk rfl rfl dX2_placeOf_29
      · replace hf := k_ifN hf c7
        refine lv_aload_n X.1 X.2.1 dX2_placeOf_10 rfl (lv_at hl 0 rfl) ?_
        refine k_getw (v := .ref (ad k (tc + 1))) X hU (k_sT hk hc) fl_X2_11 rfl dX2_placeOf_11 ?_
        refine lv_iload_n X.1 X.2.1 dX2_placeOf_14 rfl (lv_at hl 2 rfl) ?_
        obtain ⟨hi15, hf⟩ := k_ckE hf
        refine k_ildw (j0 := a2.toNatClampNeg) X hU (k_sT1 hk hc) (k_vin (n := 8) hi15 (by decide)) rfl dX2_placeOf_15 ?_
        refine lv_iload_n X.1 X.2.1 dX2_placeOf_16 rfl (lv_at hl 1 rfl) ?_
        refine lv_icmp_ne (tgt := 22) X.1 X.2.1 dX2_placeOf_17 (by decide) (fun c17 => ?_) (fun c17 => ?_)
        · replace hf := k_ifN hf c17
          obtain ⟨x22, e22, hf⟩ := k_ltE hf
          refine lv_iinc (v := x22) (lv' := [(2, .int x22), (0, .ref (ad k tc)), (1, .int a1)]) X.1 X.2.1 dX2_placeOf_22 hl (k := 2) rfl (by rw [e22]; rfl) (by decide) rfl (fun ls hl => ?_)
          refine lv_goto (tgt := 2) X.1 X.2.1 dX2_placeOf_25 (by decide) ?_
          exact ih2 _ _ _ a1 x22 hU hS (lv_sub hl [1, 2, 0] rfl) hf
        · replace hf := k_ifP hf c17
          refine lv_iload_n X.1 X.2.1 dX2_placeOf_20 rfl (lv_at hl 2 rfl) ?_
          rw [← hw, k_uc_id] at hU
          have hz := Option.some.inj hf
          subst hz
          exact k_iret (v := a2) X hU hS hr hlk rfl rfl dX2_placeOf_21
  unfold f_X2_placeOf at hf
  refine lv_iconst (v := 0) X.1 X.2.1 dX2_placeOf_0 (by decide) ?_
  refine lv_istore_n (lv' := [(2, .int 0), (0, .ref (ad k tc)), (1, .int a1)]) X.1 X.2.1 dX2_placeOf_1 rfl hl (by decide) rfl (fun ls hl => ?_)
  exact L2 k_N _ _ _ a1 0 hU hS (lv_sub hl [1, 2, 0] rfl) hf
def rm_X6_takeNewHeight : Room := { frames := 2, cells := 0, slots := 0, locals := 45 }
set_option maxRecDepth 100000 in
set_option maxHeartbeats 4000000 in
theorem c_X6_takeNewHeight {l : Launch} {D : va_G} {G : Nat → ClassId} {ad : Nat → Nat → Nat} {u : k_U} (hI : k_ok ad) {c2 : Nat} {a3 : Int32} (hc2 : k_isT c2) {sz : Nat} {r : (k_U × Int32)} (hf : f_X6_takeNewHeight u c2 a3 = some r) : Met l yX6_takeNewHeight (.code yX6_takeNewHeight cX6_takeNewHeight 5 (some .int) :: lw_g) rm_X6_takeNewHeight (k_Pre D G ad u sz [.ref (ad 0 4), .ref (ad 1 0), .ref (ad 14 c2), .int a3]) (k_Qi D G ad r.1 r.2 sz) 0 0 (k_A ad sz) := by
  refine k_ofW (by decide +kernel) hI (Nat.le_of_ble_eq_true rfl) ?_
  intro p e s m args below meth c X hr hlk hU hS ls hl
  have hl : lv_has ls 5 [(0, .ref (ad 0 4)), (1, .ref (ad 1 0)), (2, .ref (ad 14 c2)), (3, .int a3)] := hl
  have J14 : ∀ (H : Heap) (locs : List Loc) (ls : Array Slot) (u : k_U) (a3 : Int32), k_Uv D G ad u H → va_S (k_A ad sz) s.heap H locs → lv_has ls 5 [(1, .ref (ad 1 0)), (2, .ref (ad 14 c2)), (3, .int a3)] → f_X6_takeNewHeight_14 u c2 a3 = some r → W p l e rm_X6_takeNewHeight s m args below meth c H locs 0 0 (MQ below (k_Qi D G ad r.1 r.2 sz) args s 0 0 (k_A ad sz)) (F0 m 14 ls []) := by
    intro H locs ls u a3 hU hS hl hf
    unfold f_X6_takeNewHeight_14 at hf
    refine lv_aload_n X.1 X.2.1 dX6_takeNewHeight_14 rfl (lv_at hl 0 rfl) ?_
    refine lv_iload_n X.1 X.2.1 dX6_takeNewHeight_15 rfl (lv_at hl 2 rfl) ?_
    refine lv_sipush (v := 30000) X.1 X.2.1 dX6_takeNewHeight_16 (by decide) ?_
    obtain ⟨r19, hr19, hf⟩ := k_bdE hf
    refine k_backi X hS (k_runV (As := [.int a3, .int 30000]) (rest := []) X hS hU sh_1_0 (by decide) rfl vl_X6_29 (c_X4_takeNumber X.2.2.2.2.2.2.1 rfl hr19) rfl rfl rfl hl.1 ⟨Nat.le_of_ble_eq_true rfl, Nat.le_of_ble_eq_true rfl⟩ (Nat.le_of_ble_eq_true rfl) dX6_takeNewHeight_19 ⟨Nat.zero_le _, Nat.zero_le _⟩) (fun H locs hU hS => ?_)
    obtain ⟨u19, e19, hf⟩ := k_ltE hf
    rw [← e19] at hU
    refine lv_istore (lv' := [(4, .int r19.2), (1, .ref (ad 1 0)), (2, .ref (ad 14 c2)), (3, .int a3)]) X.1 X.2.1 dX6_takeNewHeight_22 hl (by decide) rfl (fun ls hl => ?_)
    refine lv_aload_n X.1 X.2.1 dX6_takeNewHeight_24 rfl (lv_at hl 2 rfl) ?_
    refine lv_iload X.1 X.2.1 dX6_takeNewHeight_25 (lv_at hl 0 rfl) ?_
    obtain ⟨r27, hr27, hf⟩ := k_bdE hf
    refine k_backi X hS (k_runV (As := [.int r19.2]) (rest := []) X hS hU (k_sT k_isW_14 hc2) (by decide) rfl vl_X6_150 (c_X2_placeOf X.2.2.2.2.2.2.1 k_isW_14 rfl hc2 hr27) rfl rfl rfl hl.1 ⟨Nat.le_of_ble_eq_true rfl, Nat.le_of_ble_eq_true rfl⟩ (Nat.le_of_ble_eq_true rfl) dX6_takeNewHeight_27 ⟨Nat.zero_le _, Nat.zero_le _⟩) (fun H locs hU hS => ?_)
    refine lv_iconst (v := (-1)) X.1 X.2.1 dX6_takeNewHeight_30 (by decide) ?_
    refine lv_icmp_eq (tgt := 39) X.1 X.2.1 dX6_takeNewHeight_31 (by decide) (fun c31 => ?_) (fun c31 => ?_)
    · replace hf := k_ifP hf c31
      refine lv_iload X.1 X.2.1 dX6_takeNewHeight_39 (lv_at hl 0 rfl) ?_
      have hz := Option.some.inj hf
      subst hz
      exact k_iret (v := r19.2) X hU hS hr hlk rfl rfl dX6_takeNewHeight_41
    · replace hf := k_ifN hf c31
      refine lv_aload_n X.1 X.2.1 dX6_takeNewHeight_34 rfl (lv_at hl 1 rfl) ?_
      refine lv_iconst (v := 3) X.1 X.2.1 dX6_takeNewHeight_35 (by decide) ?_
      obtain ⟨r36, hr36, hf⟩ := k_bdE hf
      refine k_backv X hS (k_runV (As := [.int 3]) (rest := []) X hS hU sh_1_0 (by decide) rfl vl_X6_91 (c_X4_failTaken X.2.2.2.2.2.2.1 rfl hr36) rfl rfl rfl hl.1 ⟨Nat.le_of_ble_eq_true rfl, Nat.le_of_ble_eq_true rfl⟩ (Nat.le_of_ble_eq_true rfl) dX6_takeNewHeight_36 ⟨Nat.zero_le _, Nat.zero_le _⟩) (fun H locs hU hS => ?_)
      obtain ⟨u36, e36, hf⟩ := k_ltE hf
      rw [← e36] at hU
      refine lv_iload X.1 X.2.1 dX6_takeNewHeight_39 (lv_at hl 0 rfl) ?_
      have hz := Option.some.inj hf
      subst hz
      exact k_iret (v := r19.2) X hU hS hr hlk rfl rfl dX6_takeNewHeight_41
  unfold f_X6_takeNewHeight at hf
  refine lv_aload_n X.1 X.2.1 dX6_takeNewHeight_0 rfl (lv_at hl 2 rfl) ?_
  refine k_get (v := .int (u 14 c2 2)) X hU (k_sT k_isW_14 hc2) fl_X6_147 rfl dX6_takeNewHeight_1 ?_
  refine lv_bipush (v := 8) X.1 X.2.1 dX6_takeNewHeight_4 (by decide) ?_
  refine lv_icmp_lt (tgt := 14) X.1 X.2.1 dX6_takeNewHeight_6 (by decide) (fun c6 => ?_) (fun c6 => ?_)
  · replace hf := k_ifP hf c6
    exact J14 _ _ _ u a3 hU hS (lv_sub hl [1, 2, 3] rfl) hf
  · replace hf := k_ifN hf c6
    refine lv_aload_n X.1 X.2.1 dX6_takeNewHeight_9 rfl (lv_at hl 1 rfl) ?_
    refine lv_iconst (v := 4) X.1 X.2.1 dX6_takeNewHeight_10 (by decide) ?_
    obtain ⟨r11, hr11, hf⟩ := k_bdE hf
    refine k_backv X hS (k_runV (As := [.int 4]) (rest := []) X hS hU sh_1_0 (by decide) rfl vl_X6_91 (c_X4_failTaken X.2.2.2.2.2.2.1 rfl hr11) rfl rfl rfl hl.1 ⟨Nat.le_of_ble_eq_true rfl, Nat.le_of_ble_eq_true rfl⟩ (Nat.le_of_ble_eq_true rfl) dX6_takeNewHeight_11 ⟨Nat.zero_le _, Nat.zero_le _⟩) (fun H locs hU hS => ?_)
    obtain ⟨u11, e11, hf⟩ := k_ltE hf
    rw [← e11] at hU
    exact J14 _ _ _ u11 a3 hU hS (lv_sub hl [1, 2, 3] rfl) hf
def rm_X2_put : Room := { frames := 1, cells := 0, slots := 0, locals := 22 }
set_option maxRecDepth 100000 in
set_option maxHeartbeats 4000000 in
theorem c_X2_put {l : Launch} {D : va_G} {G : Nat → ClassId} {ad : Nat → Nat → Nat} {u : k_U} (hI : k_ok ad) {k : Nat} (hk : k_isW k) {w : k_M} (hw : u k = w) {tc : Nat} {a1 : Int32} {a2 : Int32} (hc : k_isT tc) {sz : Nat} {r : k_M} (hf : f_X2_put w tc a1 a2 = some r) : Met l yX2_put (.code yX2_put cX2_put 4 none :: lw_g) rm_X2_put (k_Pre D G ad u sz [.ref (ad k tc), .int a1, .int a2]) (k_Qv D G ad (k_uc u k r) sz) 0 0 (k_A ad sz) := by
  refine k_ofW (by decide +kernel) hI (Nat.le_of_ble_eq_true rfl) ?_
  intro p e s m args below meth c X hr hlk hU hS ls hl
  have hl : lv_has ls 4 [(0, .ref (ad k tc)), (1, .int a1), (2, .int a2)] := hl
  have hU : k_Uv D G ad (k_uc u k w) s.heap := by rw [← hw, k_uc_id]; exact hU
  have J35 : ∀ (H : Heap) (locs : List Loc) (ls : Array Slot) (w : k_M) (a1 : Int32) (a2 : Int32) (a3 : Int32), k_Uv D G ad (k_uc u k w) H → va_S (k_A ad sz) s.heap H locs → lv_has ls 4 [(0, .ref (ad k tc)), (1, .int a1), (2, .int a2), (3, .int a3)] → f_X2_put_35 w tc a1 a2 a3 = some r → W p l e rm_X2_put s m args below meth c H locs 0 0 (MQ below (k_Qv D G ad (k_uc u k r) sz) args s 0 0 (k_A ad sz)) (F0 m 35 ls []) := by
    intro H locs ls w a1 a2 a3 hU hS hl hf
    unfold f_X2_put_35 at hf
    refine lv_iload_n X.1 X.2.1 dX2_put_35 rfl (lv_at hl 3 rfl) ?_
    refine lv_iconst (v := (-1)) X.1 X.2.1 dX2_put_36 (by decide) ?_
    refine lv_icmp_eq (tgt := 54) X.1 X.2.1 dX2_put_37 (by decide) (fun c37 => ?_) (fun c37 => ?_)
    · replace hf := k_ifP hf c37
      have hz := Option.some.inj hf
      subst hz
      exact k_vret X hU hS hr hlk dX2_put_54
    · replace hf := k_ifN hf c37
      refine lv_aload_n X.1 X.2.1 dX2_put_40 rfl (lv_at hl 0 rfl) ?_
      refine k_getw (v := .ref (ad k (tc + 1))) X hU (k_sT hk hc) fl_X2_11 rfl dX2_put_41 ?_
      refine lv_iload_n X.1 X.2.1 dX2_put_44 rfl (lv_at hl 3 rfl) ?_
      refine lv_iload_n X.1 X.2.1 dX2_put_45 rfl (lv_at hl 1 rfl) ?_
      obtain ⟨hi46, hf⟩ := k_ckE hf
      obtain ⟨w46, e46, hf⟩ := k_ltE hf
      refine k_istw X hU hS (k_sT1 hk hc) e46 (k_vin (n := 8) hi46 (by decide)) rfl dX2_put_46 (fun H locs hU hS => ?_)
      refine lv_aload_n X.1 X.2.1 dX2_put_47 rfl (lv_at hl 0 rfl) ?_
      refine k_getw (v := .ref (ad k (tc + 2))) X hU (k_sT hk hc) fl_X2_15 rfl dX2_put_48 ?_
      refine lv_iload_n X.1 X.2.1 dX2_put_51 rfl (lv_at hl 3 rfl) ?_
      refine lv_iload_n X.1 X.2.1 dX2_put_52 rfl (lv_at hl 2 rfl) ?_
      obtain ⟨hi53, hf⟩ := k_ckE hf
      obtain ⟨w53, e53, hf⟩ := k_ltE hf
      refine k_istw X hU hS (k_sT2 hk hc) e53 (k_vin (n := 8) hi53 (by decide)) rfl dX2_put_53 (fun H locs hU hS => ?_)
      have hz := Option.some.inj hf
      subst hz
      exact k_vret X hU hS hr hlk dX2_put_54
  unfold f_X2_put at hf
  refine lv_aload_n X.1 X.2.1 dX2_put_0 rfl (lv_at hl 0 rfl) ?_
  refine lv_iload_n X.1 X.2.1 dX2_put_1 rfl (lv_at hl 1 rfl) ?_
  obtain ⟨r2, hr2, hf⟩ := k_bdE hf
  refine k_backi X hS (k_runV (As := [.int a1]) (rest := []) X hS hU (k_sT hk hc) (by decide) rfl vl_X2_28 (c_X2_placeOf X.2.2.2.2.2.2.1 hk (k_uc_s _ _ _) hc hr2) rfl rfl rfl hl.1 ⟨Nat.le_of_ble_eq_true rfl, Nat.le_of_ble_eq_true rfl⟩ (Nat.le_of_ble_eq_true rfl) dX2_put_2 ⟨Nat.zero_le _, Nat.zero_le _⟩) (fun H locs hU hS => ?_)
  refine lv_istore_n (lv' := [(3, .int r2), (0, .ref (ad k tc)), (1, .int a1), (2, .int a2)]) X.1 X.2.1 dX2_put_5 rfl hl (by decide) rfl (fun ls hl => ?_)
  refine lv_iload_n X.1 X.2.1 dX2_put_6 rfl (lv_at hl 0 rfl) ?_
  refine lv_iconst (v := (-1)) X.1 X.2.1 dX2_put_7 (by decide) ?_
  refine lv_icmp_ne (tgt := 35) X.1 X.2.1 dX2_put_8 (by decide) (fun c8 => ?_) (fun c8 => ?_)
  · replace hf := k_ifN hf c8
    exact J35 _ _ _ w a1 a2 r2 hU hS (lv_sub hl [1, 2, 3, 0] rfl) hf
  · replace hf := k_ifP hf c8
    refine lv_aload_n X.1 X.2.1 dX2_put_11 rfl (lv_at hl 1 rfl) ?_
    refine k_getw (v := .int (w tc 2)) X hU (k_sT hk hc) fl_X2_24 rfl dX2_put_12 ?_
    refine lv_bipush (v := 8) X.1 X.2.1 dX2_put_15 (by decide) ?_
    refine lv_icmp_ge (tgt := 35) X.1 X.2.1 dX2_put_17 (by decide) (fun c17 => ?_) (fun c17 => ?_)
    · replace hf := k_ifP hf c17
      exact J35 _ _ _ w a1 a2 r2 hU hS (lv_sub hl [1, 2, 3, 0] rfl) hf
    · replace hf := k_ifN hf c17
      refine lv_aload_n X.1 X.2.1 dX2_put_20 rfl (lv_at hl 1 rfl) ?_
      refine k_getw (v := .int (w tc 2)) X hU (k_sT hk hc) fl_X2_24 rfl dX2_put_21 ?_
      obtain ⟨x24, e24, hf⟩ := k_ltE hf
      refine k_nmi e24 ?_
      refine lv_istore_n (lv' := [(3, .int x24), (0, .ref (ad k tc)), (1, .int a1), (2, .int a2)]) X.1 X.2.1 dX2_put_24 rfl hl (by decide) rfl (fun ls hl => ?_)
      refine lv_aload_n X.1 X.2.1 dX2_put_25 rfl (lv_at hl 1 rfl) ?_
      refine lv_dup X.1 X.2.1 dX2_put_26 rfl ?_
      refine k_getw (v := .int (w tc 2)) X hU (k_sT hk hc) fl_X2_24 rfl dX2_put_27 ?_
      refine lv_iconst (v := 1) X.1 X.2.1 dX2_put_30 (by decide) ?_
      refine lv_iadd X.1 X.2.1 dX2_put_31 ?_
      obtain ⟨w32, e32, hf⟩ := k_ltE hf
      refine k_putw X hU hS (k_sT hk hc) fp_X2_24 rfl e32 rfl rfl dX2_put_32 (fun H locs hU hS => ?_)
      exact J35 _ _ _ w32 a1 a2 x24 hU hS (lv_sub hl [1, 2, 3, 0] rfl) hf
def rm_X6_readWind : Room := { frames := 3, cells := 0, slots := 0, locals := 69 }
set_option maxRecDepth 100000 in
set_option maxHeartbeats 4000000 in
theorem c_X6_readWind {l : Launch} {D : va_G} {G : Nat → ClassId} {ad : Nat → Nat → Nat} {u : k_U} (hI : k_ok ad) {sz : Nat} {r : k_U} (hf : f_X6_readWind u = some r) : Met l yX6_readWind (.code yX6_readWind cX6_readWind 4 none :: lw_g) rm_X6_readWind (k_Pre D G ad u sz [.ref (ad 0 4), .ref (ad 1 0)]) (k_Qv D G ad r sz) 0 0 (k_A ad sz) := by
  refine k_ofW (by decide +kernel) hI (Nat.le_of_ble_eq_true rfl) ?_
  intro p e s m args below meth c X hr hlk hU hS ls hl
  have hl : lv_has ls 4 [(0, .ref (ad 0 4)), (1, .ref (ad 1 0))] := hl
  unfold f_X6_readWind at hf
  refine lv_aload_n X.1 X.2.1 dX6_readWind_0 rfl (lv_at hl 0 rfl) ?_
  refine lv_aload_n X.1 X.2.1 dX6_readWind_1 rfl (lv_at hl 1 rfl) ?_
  refine lv_aload_n X.1 X.2.1 dX6_readWind_2 rfl (lv_at hl 0 rfl) ?_
  refine k_get (v := .ref (ad 14 0)) X hU sh_0_4 fl_X6_12 rfl dX6_readWind_3 ?_
  refine k_get (v := .ref (ad 14 6)) X hU (sW_0 k_isW_14) fl_X6_140 rfl dX6_readWind_6 ?_
  refine lv_iconst (v := 0) X.1 X.2.1 dX6_readWind_9 (by decide) ?_
  obtain ⟨r10, hr10, hf⟩ := k_bdE hf
  refine k_backi X hS (k_runV (As := [.ref (ad 1 0), .ref (ad 14 6), .int 0]) (rest := []) X hS hU sh_0_4 (by decide) rfl vl_X6_130 (c_X6_takeNewHeight X.2.2.2.2.2.2.1 k_isT_6 hr10) rfl rfl rfl hl.1 ⟨Nat.le_of_ble_eq_true rfl, Nat.le_of_ble_eq_true rfl⟩ (Nat.le_of_ble_eq_true rfl) dX6_readWind_10 ⟨Nat.zero_le _, Nat.zero_le _⟩) (fun H locs hU hS => ?_)
  refine lv_istore_n (lv' := [(2, .int r10.2), (0, .ref (ad 0 4)), (1, .ref (ad 1 0))]) X.1 X.2.1 dX6_readWind_13 rfl hl (by decide) rfl (fun ls hl => ?_)
  refine lv_aload_n X.1 X.2.1 dX6_readWind_14 rfl (lv_at hl 2 rfl) ?_
  refine lv_bipush (v := 40) X.1 X.2.1 dX6_readWind_15 (by decide) ?_
  obtain ⟨r17, hr17, hf⟩ := k_bdE hf
  refine k_backi X hS (k_runV (As := [.int 40]) (rest := []) X hS hU sh_1_0 (by decide) rfl vl_X6_143 (c_X4_takeSigned X.2.2.2.2.2.2.1 rfl hr17) rfl rfl rfl hl.1 ⟨Nat.le_of_ble_eq_true rfl, Nat.le_of_ble_eq_true rfl⟩ (Nat.le_of_ble_eq_true rfl) dX6_readWind_17 ⟨Nat.zero_le _, Nat.zero_le _⟩) (fun H locs hU hS => ?_)
  obtain ⟨u17, e17, hf⟩ := k_ltE hf
  rw [← e17] at hU
  refine lv_istore_n (lv' := [(3, .int r17.2), (2, .int r10.2), (0, .ref (ad 0 4)), (1, .ref (ad 1 0))]) X.1 X.2.1 dX6_readWind_20 rfl hl (by decide) rfl (fun ls hl => ?_)
  refine lv_aload_n X.1 X.2.1 dX6_readWind_21 rfl (lv_at hl 2 rfl) ?_
  refine k_get (v := .ref (ad 14 0)) X hU sh_0_4 fl_X6_12 rfl dX6_readWind_22 ?_
  refine k_get (v := .ref (ad 14 6)) X hU (sW_0 k_isW_14) fl_X6_140 rfl dX6_readWind_25 ?_
  refine lv_iload_n X.1 X.2.1 dX6_readWind_28 rfl (lv_at hl 1 rfl) ?_
  refine lv_iload_n X.1 X.2.1 dX6_readWind_29 rfl (lv_at hl 0 rfl) ?_
  obtain ⟨r30, hr30, hf⟩ := k_bdE hf
  refine k_backv X hS (k_runV (As := [.int r10.2, .int r17.2]) (rest := []) X hS hU (k_sT k_isW_14 k_isT_6) (by decide) rfl vl_X6_134 (c_X2_put X.2.2.2.2.2.2.1 k_isW_14 rfl k_isT_6 hr30) rfl rfl rfl hl.1 ⟨Nat.le_of_ble_eq_true rfl, Nat.le_of_ble_eq_true rfl⟩ (Nat.le_of_ble_eq_true rfl) dX6_readWind_30 ⟨Nat.zero_le _, Nat.zero_le _⟩) (fun H locs hU hS => ?_)
  obtain ⟨u30, e30, hf⟩ := k_ltE hf
  rw [← e30] at hU
  have hz := Option.some.inj hf
  subst hz
  exact k_vret X hU hS hr hlk dX6_readWind_33
def rm_X6_readHeightAndSpeed : Room := { frames := 3, cells := 0, slots := 0, locals := 69 }
set_option maxRecDepth 100000 in
set_option maxHeartbeats 4000000 in
theorem c_X6_readHeightAndSpeed {l : Launch} {D : va_G} {G : Nat → ClassId} {ad : Nat → Nat → Nat} {u : k_U} (hI : k_ok ad) {sz : Nat} {r : k_U} (hf : f_X6_readHeightAndSpeed u = some r) : Met l yX6_readHeightAndSpeed (.code yX6_readHeightAndSpeed cX6_readHeightAndSpeed 4 none :: lw_g) rm_X6_readHeightAndSpeed (k_Pre D G ad u sz [.ref (ad 0 4), .ref (ad 1 0)]) (k_Qv D G ad r sz) 0 0 (k_A ad sz) := by
  refine k_ofW (by decide +kernel) hI (Nat.le_of_ble_eq_true rfl) ?_
  intro p e s m args below meth c X hr hlk hU hS ls hl
  have hl : lv_has ls 4 [(0, .ref (ad 0 4)), (1, .ref (ad 1 0))] := hl
  unfold f_X6_readHeightAndSpeed at hf
  refine lv_aload_n X.1 X.2.1 dX6_readHeightAndSpeed_0 rfl (lv_at hl 0 rfl) ?_
  refine lv_aload_n X.1 X.2.1 dX6_readHeightAndSpeed_1 rfl (lv_at hl 1 rfl) ?_
  refine lv_aload_n X.1 X.2.1 dX6_readHeightAndSpeed_2 rfl (lv_at hl 0 rfl) ?_
  refine k_get (v := .ref (ad 14 0)) X hU sh_0_4 fl_X6_12 rfl dX6_readHeightAndSpeed_3 ?_
  refine k_get (v := .ref (ad 14 3)) X hU (sW_0 k_isW_14) fl_X6_126 rfl dX6_readHeightAndSpeed_6 ?_
  refine lv_iconst (v := 1) X.1 X.2.1 dX6_readHeightAndSpeed_9 (by decide) ?_
  obtain ⟨r10, hr10, hf⟩ := k_bdE hf
  refine k_backi X hS (k_runV (As := [.ref (ad 1 0), .ref (ad 14 3), .int 1]) (rest := []) X hS hU sh_0_4 (by decide) rfl vl_X6_130 (c_X6_takeNewHeight X.2.2.2.2.2.2.1 k_isT_3 hr10) rfl rfl rfl hl.1 ⟨Nat.le_of_ble_eq_true rfl, Nat.le_of_ble_eq_true rfl⟩ (Nat.le_of_ble_eq_true rfl) dX6_readHeightAndSpeed_10 ⟨Nat.zero_le _, Nat.zero_le _⟩) (fun H locs hU hS => ?_)
  refine lv_istore_n (lv' := [(2, .int r10.2), (0, .ref (ad 0 4)), (1, .ref (ad 1 0))]) X.1 X.2.1 dX6_readHeightAndSpeed_13 rfl hl (by decide) rfl (fun ls hl => ?_)
  refine lv_aload_n X.1 X.2.1 dX6_readHeightAndSpeed_14 rfl (lv_at hl 2 rfl) ?_
  refine lv_iconst (v := 1) X.1 X.2.1 dX6_readHeightAndSpeed_15 (by decide) ?_
  refine lv_sipush (v := 400) X.1 X.2.1 dX6_readHeightAndSpeed_16 (by decide) ?_
  obtain ⟨r19, hr19, hf⟩ := k_bdE hf
  refine k_backi X hS (k_runV (As := [.int 1, .int 400]) (rest := []) X hS hU sh_1_0 (by decide) rfl vl_X6_29 (c_X4_takeNumber X.2.2.2.2.2.2.1 rfl hr19) rfl rfl rfl hl.1 ⟨Nat.le_of_ble_eq_true rfl, Nat.le_of_ble_eq_true rfl⟩ (Nat.le_of_ble_eq_true rfl) dX6_readHeightAndSpeed_19 ⟨Nat.zero_le _, Nat.zero_le _⟩) (fun H locs hU hS => ?_)
  obtain ⟨u19, e19, hf⟩ := k_ltE hf
  rw [← e19] at hU
  refine lv_istore_n (lv' := [(3, .int r19.2), (2, .int r10.2), (0, .ref (ad 0 4)), (1, .ref (ad 1 0))]) X.1 X.2.1 dX6_readHeightAndSpeed_22 rfl hl (by decide) rfl (fun ls hl => ?_)
  refine lv_aload_n X.1 X.2.1 dX6_readHeightAndSpeed_23 rfl (lv_at hl 2 rfl) ?_
  refine k_get (v := .ref (ad 14 0)) X hU sh_0_4 fl_X6_12 rfl dX6_readHeightAndSpeed_24 ?_
  refine k_get (v := .ref (ad 14 3)) X hU (sW_0 k_isW_14) fl_X6_126 rfl dX6_readHeightAndSpeed_27 ?_
  refine lv_iload_n X.1 X.2.1 dX6_readHeightAndSpeed_30 rfl (lv_at hl 1 rfl) ?_
  refine lv_iload_n X.1 X.2.1 dX6_readHeightAndSpeed_31 rfl (lv_at hl 0 rfl) ?_
  obtain ⟨r32, hr32, hf⟩ := k_bdE hf
  refine k_backv X hS (k_runV (As := [.int r10.2, .int r19.2]) (rest := []) X hS hU (k_sT k_isW_14 k_isT_3) (by decide) rfl vl_X6_134 (c_X2_put X.2.2.2.2.2.2.1 k_isW_14 rfl k_isT_3 hr32) rfl rfl rfl hl.1 ⟨Nat.le_of_ble_eq_true rfl, Nat.le_of_ble_eq_true rfl⟩ (Nat.le_of_ble_eq_true rfl) dX6_readHeightAndSpeed_32 ⟨Nat.zero_le _, Nat.zero_le _⟩) (fun H locs hU hS => ?_)
  obtain ⟨u32, e32, hf⟩ := k_ltE hf
  rw [← e32] at hU
  have hz := Option.some.inj hf
  subst hz
  exact k_vret X hU hS hr hlk dX6_readHeightAndSpeed_35
def rm_X0_pack : Room := { frames := 0, cells := 0, slots := 0, locals := 0 }
set_option maxRecDepth 100000 in
set_option maxHeartbeats 4000000 in
theorem c_X0_pack {l : Launch} {D : va_G} {G : Nat → ClassId} {ad : Nat → Nat → Nat} {u : k_U} (hI : k_ok ad) {k : Nat} (hk : k_isW k) {w : k_M} (hw : u k = w) {q : Nat} {a1 : Int32} {a2 : Int32} {a3 : Int32} {a4 : Int32} {a5 : Int32} (hq : k_isC q) {sz : Nat} {r : k_M} (hf : f_X0_pack w q a1 a2 a3 a4 a5 = some r) : Met l yX0_pack (.code yX0_pack cX0_pack 6 none :: lw_g) rm_X0_pack (k_Pre D G ad u sz [.ref (ad k q), .int a1, .int a2, .int a3, .int a4, .int a5]) (k_Qv D G ad (k_uc u k r) sz) 0 0 (k_A ad sz) := by
  refine k_ofW (by decide +kernel) hI (Nat.le_of_ble_eq_true rfl) ?_
  intro p e s m args below meth c X hr hlk hU hS ls hl
  have hl : lv_has ls 6 [(0, .ref (ad k q)), (1, .int a1), (2, .int a2), (3, .int a3), (4, .int a4), (5, .int a5)] := hl
  have hU : k_Uv D G ad (k_uc u k w) s.heap := by rw [← hw, k_uc_id]; exact hU
  unfold f_X0_pack at hf
  refine lv_aload_n X.1 X.2.1 dX0_pack_0 rfl (lv_at hl 0 rfl) ?_
  refine lv_iload_n X.1 X.2.1 dX0_pack_1 rfl (lv_at hl 1 rfl) ?_
  obtain ⟨w2, e2, hf⟩ := k_ltE hf
  refine k_putw X hU hS (k_sC hk hq) fp_X0_9 rfl e2 rfl rfl dX0_pack_2 (fun H locs hU hS => ?_)
  refine lv_aload_n X.1 X.2.1 dX0_pack_5 rfl (lv_at hl 0 rfl) ?_
  refine lv_iload_n X.1 X.2.1 dX0_pack_6 rfl (lv_at hl 2 rfl) ?_
  obtain ⟨w7, e7, hf⟩ := k_ltE hf
  refine k_putw X hU hS (k_sC hk hq) fp_X0_15 rfl e7 rfl rfl dX0_pack_7 (fun H locs hU hS => ?_)
  refine lv_aload_n X.1 X.2.1 dX0_pack_10 rfl (lv_at hl 0 rfl) ?_
  refine lv_iload_n X.1 X.2.1 dX0_pack_11 rfl (lv_at hl 3 rfl) ?_
  obtain ⟨w12, e12, hf⟩ := k_ltE hf
  refine k_putw X hU hS (k_sC hk hq) fp_X0_18 rfl e12 rfl rfl dX0_pack_12 (fun H locs hU hS => ?_)
  refine lv_aload_n X.1 X.2.1 dX0_pack_15 rfl (lv_at hl 0 rfl) ?_
  refine lv_iload X.1 X.2.1 dX0_pack_16 (lv_at hl 4 rfl) ?_
  obtain ⟨w18, e18, hf⟩ := k_ltE hf
  refine k_putw X hU hS (k_sC hk hq) fp_X0_21 rfl e18 rfl rfl dX0_pack_18 (fun H locs hU hS => ?_)
  refine lv_aload_n X.1 X.2.1 dX0_pack_21 rfl (lv_at hl 0 rfl) ?_
  refine lv_iload X.1 X.2.1 dX0_pack_22 (lv_at hl 5 rfl) ?_
  obtain ⟨w24, e24, hf⟩ := k_ltE hf
  refine k_putw X hU hS (k_sC hk hq) fp_X0_24 rfl e24 rfl rfl dX0_pack_24 (fun H locs hU hS => ?_)
  refine lv_aload_n X.1 X.2.1 dX0_pack_27 rfl (lv_at hl 0 rfl) ?_
  refine lv_iconst (v := 0) X.1 X.2.1 dX0_pack_28 (by decide) ?_
  obtain ⟨w29, e29, hf⟩ := k_ltE hf
  refine k_putw X hU hS (k_sC hk hq) fp_X0_27 rfl e29 rfl rfl dX0_pack_29 (fun H locs hU hS => ?_)
  refine lv_aload_n X.1 X.2.1 dX0_pack_32 rfl (lv_at hl 0 rfl) ?_
  refine lv_iconst (v := 0) X.1 X.2.1 dX0_pack_33 (by decide) ?_
  obtain ⟨w34, e34, hf⟩ := k_ltE hf
  refine k_putw X hU hS (k_sC hk hq) fp_X0_30 rfl e34 rfl rfl dX0_pack_34 (fun H locs hU hS => ?_)
  refine lv_aload_n X.1 X.2.1 dX0_pack_37 rfl (lv_at hl 0 rfl) ?_
  refine lv_iconst (v := 0) X.1 X.2.1 dX0_pack_38 (by decide) ?_
  obtain ⟨w39, e39, hf⟩ := k_ltE hf
  refine k_putw X hU hS (k_sC hk hq) fp_X0_34 rfl e39 rfl rfl dX0_pack_39 (fun H locs hU hS => ?_)
  have hz := Option.some.inj hf
  subst hz
  exact k_vret X hU hS hr hlk dX0_pack_42
def rm_X6_readChute : Room := { frames := 6, cells := 0, slots := 0, locals := 144 }
set_option maxRecDepth 100000 in
set_option maxHeartbeats 4000000 in
theorem c_X6_readChute {l : Launch} {D : va_G} {G : Nat → ClassId} {ad : Nat → Nat → Nat} {u : k_U} (hI : k_ok ad) {q2 : Nat} {t3 : Nat} {a4 : Int32} (hq2 : k_isC q2) (ht3 : t3 < 33) {sz : Nat} {r : k_U} (hf : f_X6_readChute u q2 t3 a4 = some r) : Met l yX6_readChute (.code yX6_readChute cX6_readChute 10 none :: lw_g) rm_X6_readChute (k_Pre D G ad u sz [.ref (ad 0 4), .ref (ad 1 0), .ref (ad 14 q2), .ref (ad 30 t3), .int a4]) (k_Qv D G ad r sz) 0 0 (k_A ad sz) := by
  refine k_ofW (by decide +kernel) hI (Nat.le_of_ble_eq_true rfl) ?_
  intro p e s m args below meth c X hr hlk hU hS ls hl
  have hl : lv_has ls 10 [(0, .ref (ad 0 4)), (1, .ref (ad 1 0)), (2, .ref (ad 14 q2)), (3, .ref (ad 30 t3)), (4, .int a4)] := hl
  unfold f_X6_readChute at hf
  refine lv_aload_n X.1 X.2.1 dX6_readChute_0 rfl (lv_at hl 1 rfl) ?_
  refine lv_iconst (v := 1) X.1 X.2.1 dX6_readChute_1 (by decide) ?_
  refine lv_bipush (v := 99) X.1 X.2.1 dX6_readChute_2 (by decide) ?_
  obtain ⟨r4, hr4, hf⟩ := k_bdE hf
  refine k_backi X hS (k_runV (As := [.int 1, .int 99]) (rest := []) X hS hU sh_1_0 (by decide) rfl vl_X6_29 (c_X4_takeNumber X.2.2.2.2.2.2.1 rfl hr4) rfl rfl rfl hl.1 ⟨Nat.le_of_ble_eq_true rfl, Nat.le_of_ble_eq_true rfl⟩ (Nat.le_of_ble_eq_true rfl) dX6_readChute_4 ⟨Nat.zero_le _, Nat.zero_le _⟩) (fun H locs hU hS => ?_)
  obtain ⟨u4, e4, hf⟩ := k_ltE hf
  rw [← e4] at hU
  refine lv_istore (lv' := [(5, .int r4.2), (0, .ref (ad 0 4)), (1, .ref (ad 1 0)), (2, .ref (ad 14 q2)), (3, .ref (ad 30 t3)), (4, .int a4)]) X.1 X.2.1 dX6_readChute_7 hl (by decide) rfl (fun ls hl => ?_)
  refine lv_aload_n X.1 X.2.1 dX6_readChute_9 rfl (lv_at hl 2 rfl) ?_
  refine lv_iconst (v := 1) X.1 X.2.1 dX6_readChute_10 (by decide) ?_
  refine lv_bipush (v := 12) X.1 X.2.1 dX6_readChute_11 (by decide) ?_
  obtain ⟨r13, hr13, hf⟩ := k_bdE hf
  refine k_backi X hS (k_runV (As := [.int 1, .int 12]) (rest := []) X hS hU sh_1_0 (by decide) rfl vl_X6_29 (c_X4_takeNumber X.2.2.2.2.2.2.1 rfl hr13) rfl rfl rfl hl.1 ⟨Nat.le_of_ble_eq_true rfl, Nat.le_of_ble_eq_true rfl⟩ (Nat.le_of_ble_eq_true rfl) dX6_readChute_13 ⟨Nat.zero_le _, Nat.zero_le _⟩) (fun H locs hU hS => ?_)
  obtain ⟨u13, e13, hf⟩ := k_ltE hf
  rw [← e13] at hU
  refine lv_istore (lv' := [(6, .int r13.2), (5, .int r4.2), (0, .ref (ad 0 4)), (1, .ref (ad 1 0)), (2, .ref (ad 14 q2)), (3, .ref (ad 30 t3)), (4, .int a4)]) X.1 X.2.1 dX6_readChute_16 hl (by decide) rfl (fun ls hl => ?_)
  refine lv_aload_n X.1 X.2.1 dX6_readChute_18 rfl (lv_at hl 3 rfl) ?_
  refine lv_iconst (v := 1) X.1 X.2.1 dX6_readChute_19 (by decide) ?_
  refine lv_sipush (v := 9999) X.1 X.2.1 dX6_readChute_20 (by decide) ?_
  obtain ⟨r23, hr23, hf⟩ := k_bdE hf
  refine k_backi X hS (k_runV (As := [.int 1, .int 9999]) (rest := []) X hS hU sh_1_0 (by decide) rfl vl_X6_29 (c_X4_takeNumber X.2.2.2.2.2.2.1 rfl hr23) rfl rfl rfl hl.1 ⟨Nat.le_of_ble_eq_true rfl, Nat.le_of_ble_eq_true rfl⟩ (Nat.le_of_ble_eq_true rfl) dX6_readChute_23 ⟨Nat.zero_le _, Nat.zero_le _⟩) (fun H locs hU hS => ?_)
  obtain ⟨u23, e23, hf⟩ := k_ltE hf
  rw [← e23] at hU
  refine lv_istore (lv' := [(7, .int r23.2), (6, .int r13.2), (5, .int r4.2), (0, .ref (ad 0 4)), (1, .ref (ad 1 0)), (2, .ref (ad 14 q2)), (3, .ref (ad 30 t3)), (4, .int a4)]) X.1 X.2.1 dX6_readChute_26 hl (by decide) rfl (fun ls hl => ?_)
  refine lv_aload_n X.1 X.2.1 dX6_readChute_28 rfl (lv_at hl 4 rfl) ?_
  refine k_ldcS (i := 10) (tx := "below") X rfl dX6_readChute_29 ?_
  obtain ⟨r31, hr31, hf⟩ := k_bdE hf
  refine k_backv X hS (k_runV (As := [.ref (ad 30 10)]) (rest := []) X hS hU sh_1_0 (by decide) rfl vl_X6_25 (c_X4_takeWord X.2.2.2.2.2.2.1 rfl (by decide) hr31) rfl rfl rfl hl.1 ⟨Nat.le_of_ble_eq_true rfl, Nat.le_of_ble_eq_true rfl⟩ (Nat.le_of_ble_eq_true rfl) dX6_readChute_31 ⟨Nat.zero_le _, Nat.zero_le _⟩) (fun H locs hU hS => ?_)
  obtain ⟨u31, e31, hf⟩ := k_ltE hf
  rw [← e31] at hU
  refine lv_aload_n X.1 X.2.1 dX6_readChute_34 rfl (lv_at hl 4 rfl) ?_
  refine lv_iconst (v := 1) X.1 X.2.1 dX6_readChute_35 (by decide) ?_
  refine lv_sipush (v := 30000) X.1 X.2.1 dX6_readChute_36 (by decide) ?_
  obtain ⟨r39, hr39, hf⟩ := k_bdE hf
  refine k_backi X hS (k_runV (As := [.int 1, .int 30000]) (rest := []) X hS hU sh_1_0 (by decide) rfl vl_X6_29 (c_X4_takeNumber X.2.2.2.2.2.2.1 rfl hr39) rfl rfl rfl hl.1 ⟨Nat.le_of_ble_eq_true rfl, Nat.le_of_ble_eq_true rfl⟩ (Nat.le_of_ble_eq_true rfl) dX6_readChute_39 ⟨Nat.zero_le _, Nat.zero_le _⟩) (fun H locs hU hS => ?_)
  obtain ⟨u39, e39, hf⟩ := k_ltE hf
  rw [← e39] at hU
  refine lv_istore (lv' := [(8, .int r39.2), (7, .int r23.2), (6, .int r13.2), (5, .int r4.2), (0, .ref (ad 0 4)), (1, .ref (ad 1 0)), (2, .ref (ad 14 q2)), (3, .ref (ad 30 t3)), (4, .int a4)]) X.1 X.2.1 dX6_readChute_42 hl (by decide) rfl (fun ls hl => ?_)
  refine lv_aload_n X.1 X.2.1 dX6_readChute_44 rfl (lv_at hl 5 rfl) ?_
  refine lv_aload_n X.1 X.2.1 dX6_readChute_45 rfl (lv_at hl 7 rfl) ?_
  obtain ⟨r46, hr46, hf⟩ := k_bdE hf
  refine k_backv X hS (k_runV (As := [.ref (ad 30 t3)]) (rest := []) X hS hU sh_1_0 (by decide) rfl vl_X6_25 (c_X4_takeWord X.2.2.2.2.2.2.1 rfl ht3 hr46) rfl rfl rfl hl.1 ⟨Nat.le_of_ble_eq_true rfl, Nat.le_of_ble_eq_true rfl⟩ (Nat.le_of_ble_eq_true rfl) dX6_readChute_46 ⟨Nat.zero_le _, Nat.zero_le _⟩) (fun H locs hU hS => ?_)
  obtain ⟨u46, e46, hf⟩ := k_ltE hf
  rw [← e46] at hU
  refine lv_aload_n X.1 X.2.1 dX6_readChute_49 rfl (lv_at hl 5 rfl) ?_
  refine lv_iconst (v := 1) X.1 X.2.1 dX6_readChute_50 (by decide) ?_
  refine lv_iload X.1 X.2.1 dX6_readChute_51 (lv_at hl 8 rfl) ?_
  obtain ⟨r53, hr53, hf⟩ := k_bdE hf
  refine k_backi X hS (k_runV (As := [.int 1, .int a4]) (rest := []) X hS hU sh_1_0 (by decide) rfl vl_X6_29 (c_X4_takeNumber X.2.2.2.2.2.2.1 rfl hr53) rfl rfl rfl hl.1 ⟨Nat.le_of_ble_eq_true rfl, Nat.le_of_ble_eq_true rfl⟩ (Nat.le_of_ble_eq_true rfl) dX6_readChute_53 ⟨Nat.zero_le _, Nat.zero_le _⟩) (fun H locs hU hS => ?_)
  obtain ⟨u53, e53, hf⟩ := k_ltE hf
  rw [← e53] at hU
  refine lv_istore (lv' := [(9, .int r53.2), (8, .int r39.2), (7, .int r23.2), (6, .int r13.2), (5, .int r4.2), (0, .ref (ad 0 4)), (1, .ref (ad 1 0)), (2, .ref (ad 14 q2)), (3, .ref (ad 30 t3)), (4, .int a4)]) X.1 X.2.1 dX6_readChute_56 hl (by decide) rfl (fun ls hl => ?_)
  refine lv_aload_n X.1 X.2.1 dX6_readChute_58 rfl (lv_at hl 7 rfl) ?_
  refine lv_iload X.1 X.2.1 dX6_readChute_59 (lv_at hl 4 rfl) ?_
  refine lv_iload X.1 X.2.1 dX6_readChute_61 (lv_at hl 3 rfl) ?_
  refine lv_iload X.1 X.2.1 dX6_readChute_63 (lv_at hl 2 rfl) ?_
  refine lv_iload X.1 X.2.1 dX6_readChute_65 (lv_at hl 1 rfl) ?_
  refine lv_iload X.1 X.2.1 dX6_readChute_67 (lv_at hl 0 rfl) ?_
  obtain ⟨r69, hr69, hf⟩ := k_bdE hf
  refine k_backv X hS (k_runV (As := [.int r4.2, .int r13.2, .int r23.2, .int r39.2, .int r53.2]) (rest := []) X hS hU (k_sC k_isW_14 hq2) (by decide) rfl vl_X6_122 (c_X0_pack X.2.2.2.2.2.2.1 k_isW_14 rfl hq2 hr69) rfl rfl rfl hl.1 ⟨Nat.le_of_ble_eq_true rfl, Nat.le_of_ble_eq_true rfl⟩ (Nat.le_of_ble_eq_true rfl) dX6_readChute_69 ⟨Nat.zero_le _, Nat.zero_le _⟩) (fun H locs hU hS => ?_)
  obtain ⟨u69, e69, hf⟩ := k_ltE hf
  rw [← e69] at hU
  have hz := Option.some.inj hf
  subst hz
  exact k_vret X hU hS hr hlk dX6_readChute_72
def rm_X6_readReserve : Room := { frames := 7, cells := 0, slots := 0, locals := 173 }
set_option maxRecDepth 100000 in
set_option maxHeartbeats 4000000 in
theorem c_X6_readReserve {l : Launch} {D : va_G} {G : Nat → ClassId} {ad : Nat → Nat → Nat} {u : k_U} (hI : k_ok ad) {sz : Nat} {r : k_U} (hf : f_X6_readReserve u = some r) : Met l yX6_readReserve (.code yX6_readReserve cX6_readReserve 2 none :: lw_g) rm_X6_readReserve (k_Pre D G ad u sz [.ref (ad 0 4), .ref (ad 1 0)]) (k_Qv D G ad r sz) 0 0 (k_A ad sz) := by
  refine k_ofW (by decide +kernel) hI (Nat.le_of_ble_eq_true rfl) ?_
  intro p e s m args below meth c X hr hlk hU hS ls hl
  have hl : lv_has ls 2 [(0, .ref (ad 0 4)), (1, .ref (ad 1 0))] := hl
  unfold f_X6_readReserve at hf
  refine lv_aload_n X.1 X.2.1 dX6_readReserve_0 rfl (lv_at hl 0 rfl) ?_
  refine k_get (v := .ref (ad 14 0)) X hU sh_0_4 fl_X6_12 rfl dX6_readReserve_1 ?_
  refine k_get (v := .int (u 14 0 11)) X hU (sW_0 k_isW_14) fl_X6_112 rfl dX6_readReserve_4 ?_
  refine lv_if_eq (tgt := 16) X.1 X.2.1 dX6_readReserve_7 (by decide) (fun c7 => ?_) (fun c7 => ?_)
  · replace hf := k_ifP hf c7
    refine lv_aload_n X.1 X.2.1 dX6_readReserve_16 rfl (lv_at hl 0 rfl) ?_
    refine lv_aload_n X.1 X.2.1 dX6_readReserve_17 rfl (lv_at hl 1 rfl) ?_
    refine lv_aload_n X.1 X.2.1 dX6_readReserve_18 rfl (lv_at hl 0 rfl) ?_
    refine k_get (v := .ref (ad 14 0)) X hU sh_0_4 fl_X6_12 rfl dX6_readReserve_19 ?_
    refine k_get (v := .ref (ad 14 2)) X hU (sW_0 k_isW_14) fl_X6_115 rfl dX6_readReserve_22 ?_
    refine k_ldcS (i := 9) (tx := "after") X rfl dX6_readReserve_25 ?_
    refine lv_bipush (v := 8) X.1 X.2.1 dX6_readReserve_27 (by decide) ?_
    obtain ⟨r29, hr29, hf⟩ := k_bdE hf
    refine k_backv X hS (k_runV (As := [.ref (ad 1 0), .ref (ad 14 2), .ref (ad 30 9), .int 8]) (rest := []) X hS hU sh_0_4 (by decide) rfl vl_X6_100 (c_X6_readChute X.2.2.2.2.2.2.1 k_isC_2 (by decide) hr29) rfl rfl rfl hl.1 ⟨Nat.le_of_ble_eq_true rfl, Nat.le_of_ble_eq_true rfl⟩ (Nat.le_of_ble_eq_true rfl) dX6_readReserve_29 ⟨Nat.zero_le _, Nat.zero_le _⟩) (fun H locs hU hS => ?_)
    refine lv_aload_n X.1 X.2.1 dX6_readReserve_32 rfl (lv_at hl 0 rfl) ?_
    refine k_get (v := .ref (ad 14 0)) X hU sh_0_4 fl_X6_12 rfl dX6_readReserve_33 ?_
    refine lv_iconst (v := 1) X.1 X.2.1 dX6_readReserve_36 (by decide) ?_
    obtain ⟨u37, e37, hf⟩ := k_ltE hf
    refine k_put X hU hS (sW_0 k_isW_14) fp_X6_112 rfl rfl rfl rfl dX6_readReserve_37 (fun H locs hU hS => ?_)
    rw [← e37] at hU
    have hz := Option.some.inj hf
    subst hz
    exact k_vret X hU hS hr hlk dX6_readReserve_40
  · replace hf := k_ifN hf c7
    refine lv_aload_n X.1 X.2.1 dX6_readReserve_10 rfl (lv_at hl 1 rfl) ?_
    refine lv_iconst (v := 3) X.1 X.2.1 dX6_readReserve_11 (by decide) ?_
    obtain ⟨r12, hr12, hf⟩ := k_bdE hf
    refine k_backv X hS (k_runV (As := [.int 3]) (rest := []) X hS hU sh_1_0 (by decide) rfl vl_X6_91 (c_X4_failTaken X.2.2.2.2.2.2.1 rfl hr12) rfl rfl rfl hl.1 ⟨Nat.le_of_ble_eq_true rfl, Nat.le_of_ble_eq_true rfl⟩ (Nat.le_of_ble_eq_true rfl) dX6_readReserve_12 ⟨Nat.zero_le _, Nat.zero_le _⟩) (fun H locs hU hS => ?_)
    obtain ⟨u12, e12, hf⟩ := k_ltE hf
    rw [← e12] at hU
    have hz := Option.some.inj hf
    subst hz
    exact k_vret X hU hS hr hlk dX6_readReserve_15
def rm_X6_readLayer : Room := { frames := 7, cells := 0, slots := 0, locals := 173 }
set_option maxRecDepth 100000 in
set_option maxHeartbeats 4000000 in
theorem c_X6_readLayer {l : Launch} {D : va_G} {G : Nat → ClassId} {ad : Nat → Nat → Nat} {u : k_U} (hI : k_ok ad) {sz : Nat} {r : k_U} (hf : f_X6_readLayer u = some r) : Met l yX6_readLayer (.code yX6_readLayer cX6_readLayer 3 none :: lw_g) rm_X6_readLayer (k_Pre D G ad u sz [.ref (ad 0 4), .ref (ad 1 0)]) (k_Qv D G ad r sz) 0 0 (k_A ad sz) := by
  refine k_ofW (by decide +kernel) hI (Nat.le_of_ble_eq_true rfl) ?_
  intro p e s m args below meth c X hr hlk hU hS ls hl
  have hl : lv_has ls 3 [(0, .ref (ad 0 4)), (1, .ref (ad 1 0))] := hl
  unfold f_X6_readLayer at hf
  refine lv_aload_n X.1 X.2.1 dX6_readLayer_0 rfl (lv_at hl 0 rfl) ?_
  refine k_get (v := .ref (ad 14 0)) X hU sh_0_4 fl_X6_12 rfl dX6_readLayer_1 ?_
  refine k_get (v := .int (u 14 0 10)) X hU (sW_0 k_isW_14) fl_X6_88 rfl dX6_readLayer_4 ?_
  refine lv_bipush (v := 8) X.1 X.2.1 dX6_readLayer_7 (by decide) ?_
  refine lv_icmp_lt (tgt := 18) X.1 X.2.1 dX6_readLayer_9 (by decide) (fun c9 => ?_) (fun c9 => ?_)
  · replace hf := k_ifP hf c9
    refine lv_aload_n X.1 X.2.1 dX6_readLayer_18 rfl (lv_at hl 0 rfl) ?_
    refine k_get (v := .ref (ad 14 0)) X hU sh_0_4 fl_X6_12 rfl dX6_readLayer_19 ?_
    refine k_get (v := .ref (ad 14 1)) X hU (sW_0 k_isW_14) fl_X6_94 rfl dX6_readLayer_22 ?_
    refine lv_aload_n X.1 X.2.1 dX6_readLayer_25 rfl (lv_at hl 0 rfl) ?_
    refine k_get (v := .ref (ad 14 0)) X hU sh_0_4 fl_X6_12 rfl dX6_readLayer_26 ?_
    refine k_get (v := .int (u 14 0 10)) X hU (sW_0 k_isW_14) fl_X6_88 rfl dX6_readLayer_29 ?_
    obtain ⟨hi32, hf⟩ := k_ckE hf
    have hj32 := (k_vin (n := 8) hi32 (by decide))
    refine k_ald (C := "LayeredChute$Chute") (tag := 23) (t0 := 3) (z := (14, (15 + (u 14 0 10).toNatClampNeg))) X hU ⟨by decide, by decide⟩ rfl (sW_1 k_isW_14) hj32 (k_rWl_at hj32) dX6_readLayer_32 ?_
    refine lv_astore_n (lv' := [(2, .ref (ad 14 (15 + (u 14 0 10).toNatClampNeg))), (0, .ref (ad 0 4)), (1, .ref (ad 1 0))]) X.1 X.2.1 dX6_readLayer_33 rfl hl (by decide) rfl (fun ls hl => ?_)
    refine lv_aload_n X.1 X.2.1 dX6_readLayer_34 rfl (lv_at hl 1 rfl) ?_
    refine lv_aload_n X.1 X.2.1 dX6_readLayer_35 rfl (lv_at hl 2 rfl) ?_
    refine lv_aload_n X.1 X.2.1 dX6_readLayer_36 rfl (lv_at hl 0 rfl) ?_
    refine k_ldcS (i := 7) (tx := "under") X rfl dX6_readLayer_37 ?_
    refine lv_sipush (v := 400) X.1 X.2.1 dX6_readLayer_39 (by decide) ?_
    obtain ⟨r42, hr42, hf⟩ := k_bdE hf
    refine k_backv X hS (k_runV (As := [.ref (ad 1 0), .ref (ad 14 (15 + (u 14 0 10).toNatClampNeg)), .ref (ad 30 7), .int 400]) (rest := []) X hS hU sh_0_4 (by decide) rfl vl_X6_100 (c_X6_readChute X.2.2.2.2.2.2.1 (k_isC_l (k_vlt hj32)) (by decide) hr42) rfl rfl rfl hl.1 ⟨Nat.le_of_ble_eq_true rfl, Nat.le_of_ble_eq_true rfl⟩ (Nat.le_of_ble_eq_true rfl) dX6_readLayer_42 ⟨Nat.zero_le _, Nat.zero_le _⟩) (fun H locs hU hS => ?_)
    refine lv_aload_n X.1 X.2.1 dX6_readLayer_45 rfl (lv_at hl 0 rfl) ?_
    refine lv_aload_n X.1 X.2.1 dX6_readLayer_46 rfl (lv_at hl 2 rfl) ?_
    refine k_ldcS (i := 8) (tx := "jammed") X rfl dX6_readLayer_47 ?_
    obtain ⟨r49, hr49, hf⟩ := k_bdE hf
    refine k_backi X hS (k_runV (As := [.ref (ad 30 8)]) (rest := [.ref (ad 14 (15 + (u 14 0 10).toNatClampNeg))]) X hS hU sh_1_0 (by decide) rfl vl_X6_52 (c_X4_skipWord X.2.2.2.2.2.2.1 rfl (by decide) hr49) rfl rfl rfl hl.1 ⟨Nat.le_of_ble_eq_true rfl, Nat.le_of_ble_eq_true rfl⟩ (Nat.le_of_ble_eq_true rfl) dX6_readLayer_49 ⟨Nat.zero_le _, Nat.zero_le _⟩) (fun H locs hU hS => ?_)
    obtain ⟨u49, e49, hf⟩ := k_ltE hf
    rw [← e49] at hU
    obtain ⟨hi52, hf⟩ := k_ckE hf
    obtain ⟨u52, e52, hf⟩ := k_ltE hf
    refine k_put X hU hS (k_sC k_isW_14 (k_isC_l (k_vlt hj32))) fp_X6_106 rfl rfl (k_nb hi52) (k_fb hi52) dX6_readLayer_52 (fun H locs hU hS => ?_)
    rw [← e52] at hU
    refine lv_aload_n X.1 X.2.1 dX6_readLayer_55 rfl (lv_at hl 1 rfl) ?_
    refine k_get (v := .ref (ad 14 0)) X hU sh_0_4 fl_X6_12 rfl dX6_readLayer_56 ?_
    refine lv_dup X.1 X.2.1 dX6_readLayer_59 rfl ?_
    refine k_get (v := .int (u52 14 0 10)) X hU (sW_0 k_isW_14) fl_X6_88 rfl dX6_readLayer_60 ?_
    refine lv_iconst (v := 1) X.1 X.2.1 dX6_readLayer_63 (by decide) ?_
    refine lv_iadd X.1 X.2.1 dX6_readLayer_64 ?_
    obtain ⟨u65, e65, hf⟩ := k_ltE hf
    refine k_put X hU hS (sW_0 k_isW_14) fp_X6_88 rfl rfl rfl rfl dX6_readLayer_65 (fun H locs hU hS => ?_)
    rw [← e65] at hU
    have hz := Option.some.inj hf
    subst hz
    exact k_vret X hU hS hr hlk dX6_readLayer_68
  · replace hf := k_ifN hf c9
    refine lv_aload_n X.1 X.2.1 dX6_readLayer_12 rfl (lv_at hl 1 rfl) ?_
    refine lv_iconst (v := 4) X.1 X.2.1 dX6_readLayer_13 (by decide) ?_
    obtain ⟨r14, hr14, hf⟩ := k_bdE hf
    refine k_backv X hS (k_runV (As := [.int 4]) (rest := []) X hS hU sh_1_0 (by decide) rfl vl_X6_91 (c_X4_failTaken X.2.2.2.2.2.2.1 rfl hr14) rfl rfl rfl hl.1 ⟨Nat.le_of_ble_eq_true rfl, Nat.le_of_ble_eq_true rfl⟩ (Nat.le_of_ble_eq_true rfl) dX6_readLayer_14 ⟨Nat.zero_le _, Nat.zero_le _⟩) (fun H locs hU hS => ?_)
    obtain ⟨u14, e14, hf⟩ := k_ltE hf
    rw [← e14] at hU
    have hz := Option.some.inj hf
    subst hz
    exact k_vret X hU hS hr hlk dX6_readLayer_17
def rm_X6_readStatement : Room := { frames := 8, cells := 0, slots := 0, locals := 195 }
set_option maxRecDepth 100000 in
set_option maxHeartbeats 4000000 in
theorem c_X6_readStatement {l : Launch} {D : va_G} {G : Nat → ClassId} {ad : Nat → Nat → Nat} {u : k_U} (hI : k_ok ad) {sz : Nat} {r : k_U} (hf : f_X6_readStatement u = some r) : Met l yX6_readStatement (.code yX6_readStatement cX6_readStatement 2 none :: lw_g) rm_X6_readStatement (k_Pre D G ad u sz [.ref (ad 0 4), .ref (ad 1 0)]) (k_Qv D G ad r sz) 0 0 (k_A ad sz) := by
  refine k_ofW (by decide +kernel) hI (Nat.le_of_ble_eq_true rfl) ?_
  intro p e s m args below meth c X hr hlk hU hS ls hl
  have hl : lv_has ls 2 [(0, .ref (ad 0 4)), (1, .ref (ad 1 0))] := hl
  unfold f_X6_readStatement at hf
  refine lv_aload_n X.1 X.2.1 dX6_readStatement_0 rfl (lv_at hl 1 rfl) ?_
  refine k_ldcS (i := 1) (tx := "layer") X rfl dX6_readStatement_1 ?_
  obtain ⟨r3, hr3, hf⟩ := k_bdE hf
  refine k_backi X hS (k_runV (As := [.ref (ad 30 1)]) (rest := []) X hS hU sh_1_0 (by decide) rfl vl_X6_52 (c_X4_skipWord X.2.2.2.2.2.2.1 rfl (by decide) hr3) rfl rfl rfl hl.1 ⟨Nat.le_of_ble_eq_true rfl, Nat.le_of_ble_eq_true rfl⟩ (Nat.le_of_ble_eq_true rfl) dX6_readStatement_3 ⟨Nat.zero_le _, Nat.zero_le _⟩) (fun H locs hU hS => ?_)
  obtain ⟨u3, e3, hf⟩ := k_ltE hf
  rw [← e3] at hU
  refine lv_if_eq (tgt := 17) X.1 X.2.1 dX6_readStatement_6 (by decide) (fun c6 => ?_) (fun c6 => ?_)
  · replace hf := k_ifP hf c6
    refine lv_aload_n X.1 X.2.1 dX6_readStatement_17 rfl (lv_at hl 1 rfl) ?_
    refine k_ldcS (i := 2) (tx := "reserve") X rfl dX6_readStatement_18 ?_
    obtain ⟨r20, hr20, hf⟩ := k_bdE hf
    refine k_backi X hS (k_runV (As := [.ref (ad 30 2)]) (rest := []) X hS hU sh_1_0 (by decide) rfl vl_X6_52 (c_X4_skipWord X.2.2.2.2.2.2.1 rfl (by decide) hr20) rfl rfl rfl hl.1 ⟨Nat.le_of_ble_eq_true rfl, Nat.le_of_ble_eq_true rfl⟩ (Nat.le_of_ble_eq_true rfl) dX6_readStatement_20 ⟨Nat.zero_le _, Nat.zero_le _⟩) (fun H locs hU hS => ?_)
    obtain ⟨u20, e20, hf⟩ := k_ltE hf
    rw [← e20] at hU
    refine lv_if_eq (tgt := 34) X.1 X.2.1 dX6_readStatement_23 (by decide) (fun c23 => ?_) (fun c23 => ?_)
    · replace hf := k_ifP hf c23
      refine lv_aload_n X.1 X.2.1 dX6_readStatement_34 rfl (lv_at hl 1 rfl) ?_
      refine k_ldcS (i := 3) (tx := "target") X rfl dX6_readStatement_35 ?_
      obtain ⟨r37, hr37, hf⟩ := k_bdE hf
      refine k_backi X hS (k_runV (As := [.ref (ad 30 3)]) (rest := []) X hS hU sh_1_0 (by decide) rfl vl_X6_52 (c_X4_skipWord X.2.2.2.2.2.2.1 rfl (by decide) hr37) rfl rfl rfl hl.1 ⟨Nat.le_of_ble_eq_true rfl, Nat.le_of_ble_eq_true rfl⟩ (Nat.le_of_ble_eq_true rfl) dX6_readStatement_37 ⟨Nat.zero_le _, Nat.zero_le _⟩) (fun H locs hU hS => ?_)
      obtain ⟨u37, e37, hf⟩ := k_ltE hf
      rw [← e37] at hU
      refine lv_if_eq (tgt := 51) X.1 X.2.1 dX6_readStatement_40 (by decide) (fun c40 => ?_) (fun c40 => ?_)
      · replace hf := k_ifP hf c40
        refine lv_aload_n X.1 X.2.1 dX6_readStatement_51 rfl (lv_at hl 1 rfl) ?_
        refine k_ldcS (i := 4) (tx := "wind") X rfl dX6_readStatement_52 ?_
        obtain ⟨r54, hr54, hf⟩ := k_bdE hf
        refine k_backi X hS (k_runV (As := [.ref (ad 30 4)]) (rest := []) X hS hU sh_1_0 (by decide) rfl vl_X6_52 (c_X4_skipWord X.2.2.2.2.2.2.1 rfl (by decide) hr54) rfl rfl rfl hl.1 ⟨Nat.le_of_ble_eq_true rfl, Nat.le_of_ble_eq_true rfl⟩ (Nat.le_of_ble_eq_true rfl) dX6_readStatement_54 ⟨Nat.zero_le _, Nat.zero_le _⟩) (fun H locs hU hS => ?_)
        obtain ⟨u54, e54, hf⟩ := k_ltE hf
        rw [← e54] at hU
        refine lv_if_eq (tgt := 68) X.1 X.2.1 dX6_readStatement_57 (by decide) (fun c57 => ?_) (fun c57 => ?_)
        · replace hf := k_ifP hf c57
          refine lv_aload_n X.1 X.2.1 dX6_readStatement_68 rfl (lv_at hl 1 rfl) ?_
          refine k_ldcS (i := 5) (tx := "spot") X rfl dX6_readStatement_69 ?_
          obtain ⟨r71, hr71, hf⟩ := k_bdE hf
          refine k_backi X hS (k_runV (As := [.ref (ad 30 5)]) (rest := []) X hS hU sh_1_0 (by decide) rfl vl_X6_52 (c_X4_skipWord X.2.2.2.2.2.2.1 rfl (by decide) hr71) rfl rfl rfl hl.1 ⟨Nat.le_of_ble_eq_true rfl, Nat.le_of_ble_eq_true rfl⟩ (Nat.le_of_ble_eq_true rfl) dX6_readStatement_71 ⟨Nat.zero_le _, Nat.zero_le _⟩) (fun H locs hU hS => ?_)
          obtain ⟨u71, e71, hf⟩ := k_ltE hf
          rw [← e71] at hU
          refine lv_if_eq (tgt := 85) X.1 X.2.1 dX6_readStatement_74 (by decide) (fun c74 => ?_) (fun c74 => ?_)
          · replace hf := k_ifP hf c74
            refine lv_aload_n X.1 X.2.1 dX6_readStatement_85 rfl (lv_at hl 1 rfl) ?_
            refine k_ldcS (i := 6) (tx := "cool") X rfl dX6_readStatement_86 ?_
            obtain ⟨r88, hr88, hf⟩ := k_bdE hf
            refine k_backi X hS (k_runV (As := [.ref (ad 30 6)]) (rest := []) X hS hU sh_1_0 (by decide) rfl vl_X6_52 (c_X4_skipWord X.2.2.2.2.2.2.1 rfl (by decide) hr88) rfl rfl rfl hl.1 ⟨Nat.le_of_ble_eq_true rfl, Nat.le_of_ble_eq_true rfl⟩ (Nat.le_of_ble_eq_true rfl) dX6_readStatement_88 ⟨Nat.zero_le _, Nat.zero_le _⟩) (fun H locs hU hS => ?_)
            obtain ⟨u88, e88, hf⟩ := k_ltE hf
            rw [← e88] at hU
            refine lv_if_eq (tgt := 111) X.1 X.2.1 dX6_readStatement_91 (by decide) (fun c91 => ?_) (fun c91 => ?_)
            · replace hf := k_ifP hf c91
              refine lv_aload_n X.1 X.2.1 dX6_readStatement_111 rfl (lv_at hl 1 rfl) ?_
              refine lv_iconst (v := 1) X.1 X.2.1 dX6_readStatement_112 (by decide) ?_
              obtain ⟨r113, hr113, hf⟩ := k_bdE hf
              refine k_backv X hS (k_runV (As := [.int 1]) (rest := []) X hS hU sh_1_0 (by decide) rfl vl_X6_84 (c_X4_failHere X.2.2.2.2.2.2.1 rfl hr113) rfl rfl rfl hl.1 ⟨Nat.le_of_ble_eq_true rfl, Nat.le_of_ble_eq_true rfl⟩ (Nat.le_of_ble_eq_true rfl) dX6_readStatement_113 ⟨Nat.zero_le _, Nat.zero_le _⟩) (fun H locs hU hS => ?_)
              obtain ⟨u113, e113, hf⟩ := k_ltE hf
              rw [← e113] at hU
              have hz := Option.some.inj hf
              subst hz
              exact k_vret X hU hS hr hlk dX6_readStatement_116
            · replace hf := k_ifN hf c91
              refine lv_aload_n X.1 X.2.1 dX6_readStatement_94 rfl (lv_at hl 0 rfl) ?_
              refine k_get (v := .ref (ad 14 0)) X hU sh_0_4 fl_X6_12 rfl dX6_readStatement_95 ?_
              refine lv_aload_n X.1 X.2.1 dX6_readStatement_98 rfl (lv_at hl 1 rfl) ?_
              refine lv_iconst (v := 0) X.1 X.2.1 dX6_readStatement_99 (by decide) ?_
              refine lv_bipush (v := 99) X.1 X.2.1 dX6_readStatement_100 (by decide) ?_
              obtain ⟨r102, hr102, hf⟩ := k_bdE hf
              refine k_backi X hS (k_runV (As := [.int 0, .int 99]) (rest := [.ref (ad 14 0)]) X hS hU sh_1_0 (by decide) rfl vl_X6_29 (c_X4_takeNumber X.2.2.2.2.2.2.1 rfl hr102) rfl rfl rfl hl.1 ⟨Nat.le_of_ble_eq_true rfl, Nat.le_of_ble_eq_true rfl⟩ (Nat.le_of_ble_eq_true rfl) dX6_readStatement_102 ⟨Nat.zero_le _, Nat.zero_le _⟩) (fun H locs hU hS => ?_)
              obtain ⟨u102, e102, hf⟩ := k_ltE hf
              rw [← e102] at hU
              obtain ⟨u105, e105, hf⟩ := k_ltE hf
              refine k_put X hU hS (sW_0 k_isW_14) fp_X6_81 rfl rfl rfl rfl dX6_readStatement_105 (fun H locs hU hS => ?_)
              rw [← e105] at hU
              refine lv_goto (tgt := 116) X.1 X.2.1 dX6_readStatement_108 (by decide) ?_
              have hz := Option.some.inj hf
              subst hz
              exact k_vret X hU hS hr hlk dX6_readStatement_116
          · replace hf := k_ifN hf c74
            refine lv_aload_n X.1 X.2.1 dX6_readStatement_77 rfl (lv_at hl 0 rfl) ?_
            refine lv_aload_n X.1 X.2.1 dX6_readStatement_78 rfl (lv_at hl 1 rfl) ?_
            obtain ⟨r79, hr79, hf⟩ := k_bdE hf
            refine k_backv X hS (k_runV (As := [.ref (ad 1 0)]) (rest := []) X hS hU sh_0_4 (by decide) rfl vl_X6_76 (c_X6_readSpot X.2.2.2.2.2.2.1 hr79) rfl rfl rfl hl.1 ⟨Nat.le_of_ble_eq_true rfl, Nat.le_of_ble_eq_true rfl⟩ (Nat.le_of_ble_eq_true rfl) dX6_readStatement_79 ⟨Nat.zero_le _, Nat.zero_le _⟩) (fun H locs hU hS => ?_)
            refine lv_goto (tgt := 116) X.1 X.2.1 dX6_readStatement_82 (by decide) ?_
            have hz := Option.some.inj hf
            subst hz
            exact k_vret X hU hS hr hlk dX6_readStatement_116
        · replace hf := k_ifN hf c57
          refine lv_aload_n X.1 X.2.1 dX6_readStatement_60 rfl (lv_at hl 0 rfl) ?_
          refine lv_aload_n X.1 X.2.1 dX6_readStatement_61 rfl (lv_at hl 1 rfl) ?_
          obtain ⟨r62, hr62, hf⟩ := k_bdE hf
          refine k_backv X hS (k_runV (As := [.ref (ad 1 0)]) (rest := []) X hS hU sh_0_4 (by decide) rfl vl_X6_71 (c_X6_readWind X.2.2.2.2.2.2.1 hr62) rfl rfl rfl hl.1 ⟨Nat.le_of_ble_eq_true rfl, Nat.le_of_ble_eq_true rfl⟩ (Nat.le_of_ble_eq_true rfl) dX6_readStatement_62 ⟨Nat.zero_le _, Nat.zero_le _⟩) (fun H locs hU hS => ?_)
          refine lv_goto (tgt := 116) X.1 X.2.1 dX6_readStatement_65 (by decide) ?_
          have hz := Option.some.inj hf
          subst hz
          exact k_vret X hU hS hr hlk dX6_readStatement_116
      · replace hf := k_ifN hf c40
        refine lv_aload_n X.1 X.2.1 dX6_readStatement_43 rfl (lv_at hl 0 rfl) ?_
        refine lv_aload_n X.1 X.2.1 dX6_readStatement_44 rfl (lv_at hl 1 rfl) ?_
        obtain ⟨r45, hr45, hf⟩ := k_bdE hf
        refine k_backv X hS (k_runV (As := [.ref (ad 1 0)]) (rest := []) X hS hU sh_0_4 (by decide) rfl vl_X6_66 (c_X6_readHeightAndSpeed X.2.2.2.2.2.2.1 hr45) rfl rfl rfl hl.1 ⟨Nat.le_of_ble_eq_true rfl, Nat.le_of_ble_eq_true rfl⟩ (Nat.le_of_ble_eq_true rfl) dX6_readStatement_45 ⟨Nat.zero_le _, Nat.zero_le _⟩) (fun H locs hU hS => ?_)
        refine lv_goto (tgt := 116) X.1 X.2.1 dX6_readStatement_48 (by decide) ?_
        have hz := Option.some.inj hf
        subst hz
        exact k_vret X hU hS hr hlk dX6_readStatement_116
    · replace hf := k_ifN hf c23
      refine lv_aload_n X.1 X.2.1 dX6_readStatement_26 rfl (lv_at hl 0 rfl) ?_
      refine lv_aload_n X.1 X.2.1 dX6_readStatement_27 rfl (lv_at hl 1 rfl) ?_
      obtain ⟨r28, hr28, hf⟩ := k_bdE hf
      refine k_backv X hS (k_runV (As := [.ref (ad 1 0)]) (rest := []) X hS hU sh_0_4 (by decide) rfl vl_X6_61 (c_X6_readReserve X.2.2.2.2.2.2.1 hr28) rfl rfl rfl hl.1 ⟨Nat.le_of_ble_eq_true rfl, Nat.le_of_ble_eq_true rfl⟩ (Nat.le_of_ble_eq_true rfl) dX6_readStatement_28 ⟨Nat.zero_le _, Nat.zero_le _⟩) (fun H locs hU hS => ?_)
      refine lv_goto (tgt := 116) X.1 X.2.1 dX6_readStatement_31 (by decide) ?_
      have hz := Option.some.inj hf
      subst hz
      exact k_vret X hU hS hr hlk dX6_readStatement_116
  · replace hf := k_ifN hf c6
    refine lv_aload_n X.1 X.2.1 dX6_readStatement_9 rfl (lv_at hl 0 rfl) ?_
    refine lv_aload_n X.1 X.2.1 dX6_readStatement_10 rfl (lv_at hl 1 rfl) ?_
    obtain ⟨r11, hr11, hf⟩ := k_bdE hf
    refine k_backv X hS (k_runV (As := [.ref (ad 1 0)]) (rest := []) X hS hU sh_0_4 (by decide) rfl vl_X6_56 (c_X6_readLayer X.2.2.2.2.2.2.1 hr11) rfl rfl rfl hl.1 ⟨Nat.le_of_ble_eq_true rfl, Nat.le_of_ble_eq_true rfl⟩ (Nat.le_of_ble_eq_true rfl) dX6_readStatement_11 ⟨Nat.zero_le _, Nat.zero_le _⟩) (fun H locs hU hS => ?_)
    refine lv_goto (tgt := 116) X.1 X.2.1 dX6_readStatement_14 (by decide) ?_
    have hz := Option.some.inj hf
    subst hz
    exact k_vret X hU hS hr hlk dX6_readStatement_116
def rm_X6_readSetup : Room := { frames := 9, cells := 0, slots := 0, locals := 216 }
set_option maxRecDepth 100000 in
set_option maxHeartbeats 4000000 in
theorem c_X6_readSetup {l : Launch} {D : va_G} {G : Nat → ClassId} {ad : Nat → Nat → Nat} {u : k_U} (hI : k_ok ad) {sz : Nat} {r : (k_U × Int32)} (hf : f_X6_readSetup u = some r) : Met l yX6_readSetup (.code yX6_readSetup cX6_readSetup 6 (some .boolean) :: lw_g) rm_X6_readSetup (k_Pre D G ad u sz [.ref (ad 0 4), .ref (ad 1 0)]) (k_Qi D G ad r.1 r.2 sz) 0 0 (k_A ad sz) := by
  refine k_ofW (by decide +kernel) hI (Nat.le_of_ble_eq_true rfl) ?_
  intro p e s m args below meth c X hr hlk hU hS ls hl
  have hl : lv_has ls 6 [(0, .ref (ad 0 4)), (1, .ref (ad 1 0))] := hl
  have J94 : ∀ (H : Heap) (locs : List Loc) (ls : Array Slot) (u : k_U), k_Uv D G ad u H → va_S (k_A ad sz) s.heap H locs → lv_has ls 6 [(1, .ref (ad 1 0))] → f_X6_readSetup_94 u = some r → W p l e rm_X6_readSetup s m args below meth c H locs 0 0 (MQ below (k_Qi D G ad r.1 r.2 sz) args s 0 0 (k_A ad sz)) (F0 m 94 ls []) := by
    intro H locs ls u hU hS hl hf
    unfold f_X6_readSetup_94 at hf
    refine lv_aload_n X.1 X.2.1 dX6_readSetup_94 rfl (lv_at hl 0 rfl) ?_
    obtain ⟨r95, hr95, hf⟩ := k_bdE hf
    refine k_backi X hS (k_runV (As := []) (rest := []) X hS hU sh_1_0 (by decide) rfl vl_X6_36 (c_X4_hasFailed X.2.2.2.2.2.2.1 rfl hr95) rfl rfl rfl hl.1 ⟨Nat.le_of_ble_eq_true rfl, Nat.le_of_ble_eq_true rfl⟩ (Nat.le_of_ble_eq_true rfl) dX6_readSetup_95 ⟨Nat.zero_le _, Nat.zero_le _⟩) (fun H locs hU hS => ?_)
    refine lv_if_ne (tgt := 105) X.1 X.2.1 dX6_readSetup_98 (by decide) (fun c98 => ?_) (fun c98 => ?_)
    · replace hf := k_ifN hf c98
      refine lv_iconst (v := 0) X.1 X.2.1 dX6_readSetup_105 (by decide) ?_
      have hz := Option.some.inj hf
      subst hz
      exact k_iret (v := 0) X hU hS hr hlk rfl rfl dX6_readSetup_106
    · replace hf := k_ifP hf c98
      refine lv_iconst (v := 1) X.1 X.2.1 dX6_readSetup_101 (by decide) ?_
      refine lv_goto (tgt := 106) X.1 X.2.1 dX6_readSetup_102 (by decide) ?_
      have hz := Option.some.inj hf
      subst hz
      exact k_iret (v := 1) X hU hS hr hlk rfl rfl dX6_readSetup_106
  have L64 : ∀ (n64 : Nat) (H : Heap) (locs : List Loc) (ls : Array Slot) (u : k_U) (a5 : Int32), k_Uv D G ad u H → va_S (k_A ad sz) s.heap H locs → lv_has ls 6 [(0, .ref (ad 0 4)), (1, .ref (ad 1 0)), (5, .int a5)] → f_X6_readSetup_64 n64 u a5 = some r → W p l e rm_X6_readSetup s m args below meth c H locs 0 0 (MQ below (k_Qi D G ad r.1 r.2 sz) args s 0 0 (k_A ad sz)) (F0 m 64 ls []) := by
    intro n64
    induction n64 with
    | zero =>
      intro H locs ls u a5 hU hS hl hf
      cases (show none = some r from hf)
    | succ n64 ih64 =>
      intro H locs ls u a5 hU hS hl hf
      replace hf : f_X6_readSetup_64_b (f_X6_readSetup_64 n64) u a5 = some r := hf
      unfold f_X6_readSetup_64_b at hf
      refine lv_iload X.1 X.2.1 dX6_readSetup_64 (lv_at hl 2 rfl) ?_
      refine lv_sipush (v := 600) X.1 X.2.1 dX6_readSetup_66 (by decide) ?_
      refine lv_icmp_ge (tgt := 94) X.1 X.2.1 dX6_readSetup_69 (by decide) (fun c69 => ?_) (fun c69 => ?_)
      · replace hf := k_ifP hf c69
        exact J94 _ _ _ u hU hS (lv_sub hl [1] rfl) hf
      · replace hf := k_ifN hf c69
        refine lv_aload_n X.1 X.2.1 dX6_readSetup_72 rfl (lv_at hl 1 rfl) ?_
        obtain ⟨r73, hr73, hf⟩ := k_bdE hf
        refine k_backi X hS (k_runV (As := []) (rest := []) X hS hU sh_1_0 (by decide) rfl vl_X6_43 (c_X4_hasMore X.2.2.2.2.2.2.1 rfl hr73) rfl rfl rfl hl.1 ⟨Nat.le_of_ble_eq_true rfl, Nat.le_of_ble_eq_true rfl⟩ (Nat.le_of_ble_eq_true rfl) dX6_readSetup_73 ⟨Nat.zero_le _, Nat.zero_le _⟩) (fun H locs hU hS => ?_)
        refine lv_if_eq (tgt := 94) X.1 X.2.1 dX6_readSetup_76 (by decide) (fun c76 => ?_) (fun c76 => ?_)
        · replace hf := k_ifP hf c76
          exact J94 _ _ _ u hU hS (lv_sub hl [1] rfl) hf
        · replace hf := k_ifN hf c76
          refine lv_aload_n X.1 X.2.1 dX6_readSetup_79 rfl (lv_at hl 0 rfl) ?_
          refine lv_aload_n X.1 X.2.1 dX6_readSetup_80 rfl (lv_at hl 1 rfl) ?_
          obtain ⟨r81, hr81, hf⟩ := k_bdE hf
          refine k_backv X hS (k_runV (As := [.ref (ad 1 0)]) (rest := []) X hS hU sh_0_4 (by decide) rfl vl_X6_46 (c_X6_readStatement X.2.2.2.2.2.2.1 hr81) rfl rfl rfl hl.1 ⟨Nat.le_of_ble_eq_true rfl, Nat.le_of_ble_eq_true rfl⟩ (Nat.le_of_ble_eq_true rfl) dX6_readSetup_81 ⟨Nat.zero_le _, Nat.zero_le _⟩) (fun H locs hU hS => ?_)
          refine lv_aload_n X.1 X.2.1 dX6_readSetup_84 rfl (lv_at hl 1 rfl) ?_
          obtain ⟨r85, hr85, hf⟩ := k_bdE hf
          refine k_backv X hS (k_runV (As := []) (rest := []) X hS hU sh_1_0 (by decide) rfl vl_X6_33 (c_X4_takeSemicolon X.2.2.2.2.2.2.1 rfl hr85) rfl rfl rfl hl.1 ⟨Nat.le_of_ble_eq_true rfl, Nat.le_of_ble_eq_true rfl⟩ (Nat.le_of_ble_eq_true rfl) dX6_readSetup_85 ⟨Nat.zero_le _, Nat.zero_le _⟩) (fun H locs hU hS => ?_)
          obtain ⟨u85, e85, hf⟩ := k_ltE hf
          rw [← e85] at hU
          obtain ⟨x88, e88, hf⟩ := k_ltE hf
          refine lv_iinc (v := x88) (lv' := [(5, .int x88), (0, .ref (ad 0 4)), (1, .ref (ad 1 0))]) X.1 X.2.1 dX6_readSetup_88 hl (k := 2) rfl (by rw [e88]; rfl) (by decide) rfl (fun ls hl => ?_)
          refine lv_goto (tgt := 64) X.1 X.2.1 dX6_readSetup_91 (by decide) ?_
          exact ih64 _ _ _ u85 x88 hU hS (lv_sub hl [1, 2, 0] rfl) hf
  unfold f_X6_readSetup at hf
  refine lv_aload_n X.1 X.2.1 dX6_readSetup_0 rfl (lv_at hl 1 rfl) ?_
  obtain ⟨r1, hr1, hf⟩ := k_bdE hf
  refine k_backv X hS (k_runV (As := []) (rest := []) X hS hU sh_1_0 (by decide) rfl vl_X6_18 (c_X4_begin X.2.2.2.2.2.2.1 rfl hr1) rfl rfl rfl hl.1 ⟨Nat.le_of_ble_eq_true rfl, Nat.le_of_ble_eq_true rfl⟩ (Nat.le_of_ble_eq_true rfl) dX6_readSetup_1 ⟨Nat.zero_le _, Nat.zero_le _⟩) (fun H locs hU hS => ?_)
  obtain ⟨u1, e1, hf⟩ := k_ltE hf
  rw [← e1] at hU
  refine lv_aload_n X.1 X.2.1 dX6_readSetup_4 rfl (lv_at hl 1 rfl) ?_
  refine k_ldcS (i := 0) (tx := "capsule") X rfl dX6_readSetup_5 ?_
  obtain ⟨r7, hr7, hf⟩ := k_bdE hf
  refine k_backv X hS (k_runV (As := [.ref (ad 30 0)]) (rest := []) X hS hU sh_1_0 (by decide) rfl vl_X6_25 (c_X4_takeWord X.2.2.2.2.2.2.1 rfl (by decide) hr7) rfl rfl rfl hl.1 ⟨Nat.le_of_ble_eq_true rfl, Nat.le_of_ble_eq_true rfl⟩ (Nat.le_of_ble_eq_true rfl) dX6_readSetup_7 ⟨Nat.zero_le _, Nat.zero_le _⟩) (fun H locs hU hS => ?_)
  obtain ⟨u7, e7, hf⟩ := k_ltE hf
  rw [← e7] at hU
  refine lv_aload_n X.1 X.2.1 dX6_readSetup_10 rfl (lv_at hl 1 rfl) ?_
  refine lv_iconst (v := 1) X.1 X.2.1 dX6_readSetup_11 (by decide) ?_
  refine lv_sipush (v := 30000) X.1 X.2.1 dX6_readSetup_12 (by decide) ?_
  obtain ⟨r15, hr15, hf⟩ := k_bdE hf
  refine k_backi X hS (k_runV (As := [.int 1, .int 30000]) (rest := []) X hS hU sh_1_0 (by decide) rfl vl_X6_29 (c_X4_takeNumber X.2.2.2.2.2.2.1 rfl hr15) rfl rfl rfl hl.1 ⟨Nat.le_of_ble_eq_true rfl, Nat.le_of_ble_eq_true rfl⟩ (Nat.le_of_ble_eq_true rfl) dX6_readSetup_15 ⟨Nat.zero_le _, Nat.zero_le _⟩) (fun H locs hU hS => ?_)
  obtain ⟨u15, e15, hf⟩ := k_ltE hf
  rw [← e15] at hU
  refine lv_istore_n (lv' := [(2, .int r15.2), (0, .ref (ad 0 4)), (1, .ref (ad 1 0))]) X.1 X.2.1 dX6_readSetup_18 rfl hl (by decide) rfl (fun ls hl => ?_)
  refine lv_aload_n X.1 X.2.1 dX6_readSetup_19 rfl (lv_at hl 2 rfl) ?_
  refine lv_iconst (v := 0) X.1 X.2.1 dX6_readSetup_20 (by decide) ?_
  refine lv_sipush (v := 400) X.1 X.2.1 dX6_readSetup_21 (by decide) ?_
  obtain ⟨r24, hr24, hf⟩ := k_bdE hf
  refine k_backi X hS (k_runV (As := [.int 0, .int 400]) (rest := []) X hS hU sh_1_0 (by decide) rfl vl_X6_29 (c_X4_takeNumber X.2.2.2.2.2.2.1 rfl hr24) rfl rfl rfl hl.1 ⟨Nat.le_of_ble_eq_true rfl, Nat.le_of_ble_eq_true rfl⟩ (Nat.le_of_ble_eq_true rfl) dX6_readSetup_24 ⟨Nat.zero_le _, Nat.zero_le _⟩) (fun H locs hU hS => ?_)
  obtain ⟨u24, e24, hf⟩ := k_ltE hf
  rw [← e24] at hU
  refine lv_istore_n (lv' := [(3, .int r24.2), (2, .int r15.2), (0, .ref (ad 0 4)), (1, .ref (ad 1 0))]) X.1 X.2.1 dX6_readSetup_27 rfl hl (by decide) rfl (fun ls hl => ?_)
  refine lv_aload_n X.1 X.2.1 dX6_readSetup_28 rfl (lv_at hl 3 rfl) ?_
  refine lv_iconst (v := 1) X.1 X.2.1 dX6_readSetup_29 (by decide) ?_
  refine lv_bipush (v := 99) X.1 X.2.1 dX6_readSetup_30 (by decide) ?_
  obtain ⟨r32, hr32, hf⟩ := k_bdE hf
  refine k_backi X hS (k_runV (As := [.int 1, .int 99]) (rest := []) X hS hU sh_1_0 (by decide) rfl vl_X6_29 (c_X4_takeNumber X.2.2.2.2.2.2.1 rfl hr32) rfl rfl rfl hl.1 ⟨Nat.le_of_ble_eq_true rfl, Nat.le_of_ble_eq_true rfl⟩ (Nat.le_of_ble_eq_true rfl) dX6_readSetup_32 ⟨Nat.zero_le _, Nat.zero_le _⟩) (fun H locs hU hS => ?_)
  obtain ⟨u32, e32, hf⟩ := k_ltE hf
  rw [← e32] at hU
  refine lv_istore (lv' := [(4, .int r32.2), (3, .int r24.2), (2, .int r15.2), (0, .ref (ad 0 4)), (1, .ref (ad 1 0))]) X.1 X.2.1 dX6_readSetup_35 hl (by decide) rfl (fun ls hl => ?_)
  refine lv_aload_n X.1 X.2.1 dX6_readSetup_37 rfl (lv_at hl 4 rfl) ?_
  obtain ⟨r38, hr38, hf⟩ := k_bdE hf
  refine k_backv X hS (k_runV (As := []) (rest := []) X hS hU sh_1_0 (by decide) rfl vl_X6_33 (c_X4_takeSemicolon X.2.2.2.2.2.2.1 rfl hr38) rfl rfl rfl hl.1 ⟨Nat.le_of_ble_eq_true rfl, Nat.le_of_ble_eq_true rfl⟩ (Nat.le_of_ble_eq_true rfl) dX6_readSetup_38 ⟨Nat.zero_le _, Nat.zero_le _⟩) (fun H locs hU hS => ?_)
  obtain ⟨u38, e38, hf⟩ := k_ltE hf
  rw [← e38] at hU
  refine lv_aload_n X.1 X.2.1 dX6_readSetup_41 rfl (lv_at hl 4 rfl) ?_
  obtain ⟨r42, hr42, hf⟩ := k_bdE hf
  refine k_backi X hS (k_runV (As := []) (rest := []) X hS hU sh_1_0 (by decide) rfl vl_X6_36 (c_X4_hasFailed X.2.2.2.2.2.2.1 rfl hr42) rfl rfl rfl hl.1 ⟨Nat.le_of_ble_eq_true rfl, Nat.le_of_ble_eq_true rfl⟩ (Nat.le_of_ble_eq_true rfl) dX6_readSetup_42 ⟨Nat.zero_le _, Nat.zero_le _⟩) (fun H locs hU hS => ?_)
  refine lv_if_eq (tgt := 50) X.1 X.2.1 dX6_readSetup_45 (by decide) (fun c45 => ?_) (fun c45 => ?_)
  · replace hf := k_ifP hf c45
    refine lv_aload_n X.1 X.2.1 dX6_readSetup_50 rfl (lv_at hl 3 rfl) ?_
    refine k_get (v := .ref (ad 14 0)) X hU sh_0_4 fl_X6_12 rfl dX6_readSetup_51 ?_
    refine lv_iload_n X.1 X.2.1 dX6_readSetup_54 rfl (lv_at hl 2 rfl) ?_
    refine lv_iload_n X.1 X.2.1 dX6_readSetup_55 rfl (lv_at hl 1 rfl) ?_
    refine lv_iload X.1 X.2.1 dX6_readSetup_56 (lv_at hl 0 rfl) ?_
    obtain ⟨r58, hr58, hf⟩ := k_bdE hf
    refine k_backv X hS (k_runV (As := [.int r15.2, .int r24.2, .int r32.2]) (rest := []) X hS hU (sW_0 k_isW_14) (by decide) rfl vl_X6_40 (c_X9_begin X.2.2.2.2.2.2.1 k_isW_14 rfl hr58) rfl rfl rfl hl.1 ⟨Nat.le_of_ble_eq_true rfl, Nat.le_of_ble_eq_true rfl⟩ (Nat.le_of_ble_eq_true rfl) dX6_readSetup_58 ⟨Nat.zero_le _, Nat.zero_le _⟩) (fun H locs hU hS => ?_)
    obtain ⟨u58, e58, hf⟩ := k_ltE hf
    rw [← e58] at hU
    refine lv_iconst (v := 0) X.1 X.2.1 dX6_readSetup_61 (by decide) ?_
    refine lv_istore (lv' := [(5, .int 0), (4, .int r32.2), (3, .int r24.2), (2, .int r15.2), (0, .ref (ad 0 4)), (1, .ref (ad 1 0))]) X.1 X.2.1 dX6_readSetup_62 hl (by decide) rfl (fun ls hl => ?_)
    exact L64 k_N _ _ _ u58 0 hU hS (lv_sub hl [4, 5, 0] rfl) hf
  · replace hf := k_ifN hf c45
    refine lv_iconst (v := 0) X.1 X.2.1 dX6_readSetup_48 (by decide) ?_
    have hz := Option.some.inj hf
    subst hz
    exact k_iret (v := 0) X hU hS hr hlk rfl rfl dX6_readSetup_49
def rm_X4_emptyText : Room := { frames := 0, cells := 0, slots := 0, locals := 0 }
set_option maxRecDepth 100000 in
set_option maxHeartbeats 4000000 in
theorem c_X4_emptyText {l : Launch} {D : va_G} {G : Nat → ClassId} {ad : Nat → Nat → Nat} {u : k_U} (hI : k_ok ad) {w : k_M} (hw : u 1 = w) {sz : Nat} {r : k_M} (hf : f_X4_emptyText w = some r) : Met l yX4_emptyText (.code yX4_emptyText cX4_emptyText 1 none :: lw_g) rm_X4_emptyText (k_Pre D G ad u sz [.ref (ad 1 0)]) (k_Qv D G ad (k_uc u 1 r) sz) 0 0 (k_A ad sz) := by
  refine k_ofW (by decide +kernel) hI (Nat.le_of_ble_eq_true rfl) ?_
  intro p e s m args below meth c X hr hlk hU hS ls hl
  have hl : lv_has ls 1 [(0, .ref (ad 1 0))] := hl
  have hU : k_Uv D G ad (k_uc u 1 w) s.heap := by rw [← hw, k_uc_id]; exact hU
  unfold f_X4_emptyText at hf
  refine lv_aload_n X.1 X.2.1 dX4_emptyText_0 rfl (lv_at hl 0 rfl) ?_
  refine lv_iconst (v := 0) X.1 X.2.1 dX4_emptyText_1 (by decide) ?_
  obtain ⟨w2, e2, hf⟩ := k_ltE hf
  refine k_putw X hU hS sh_1_0 fp_X4_22 rfl e2 rfl rfl dX4_emptyText_2 (fun H locs hU hS => ?_)
  have hz := Option.some.inj hf
  subst hz
  exact k_vret X hU hS hr hlk dX4_emptyText_5
def rm_X0_copyFrom : Room := { frames := 0, cells := 0, slots := 0, locals := 0 }
set_option maxRecDepth 100000 in
set_option maxHeartbeats 4000000 in
theorem c_X0_copyFrom {l : Launch} {D : va_G} {G : Nat → ClassId} {ad : Nat → Nat → Nat} {u : k_U} (hI : k_ok ad) {k : Nat} (hk : k_isW k) {k2 : Nat} (hk2 : k_isW k2) (hne : k2 ≠ k) {w : k_M} (hw : u k = w) {o : k_M} (ho : u k2 = o) {q : Nat} {q2 : Nat} (hq : k_isC q) (hq2 : k_isC q2) {sz : Nat} {r : k_M} (hf : f_X0_copyFrom w o q q2 = some r) : Met l yX0_copyFrom (.code yX0_copyFrom cX0_copyFrom 2 none :: lw_g) rm_X0_copyFrom (k_Pre D G ad u sz [.ref (ad k q), .ref (ad k2 q2)]) (k_Qv D G ad (k_uc u k r) sz) 0 0 (k_A ad sz) := by
  refine k_ofW (by decide +kernel) hI (Nat.le_of_ble_eq_true rfl) ?_
  intro p e s m args below meth c X hr hlk hU hS ls hl
  have hl : lv_has ls 2 [(0, .ref (ad k q)), (1, .ref (ad k2 q2))] := hl
  have hU : k_Uv D G ad (k_uc u k w) s.heap := by rw [← hw, k_uc_id]; exact hU
  unfold f_X0_copyFrom at hf
  refine lv_aload_n X.1 X.2.1 dX0_copyFrom_0 rfl (lv_at hl 0 rfl) ?_
  refine lv_aload_n X.1 X.2.1 dX0_copyFrom_1 rfl (lv_at hl 1 rfl) ?_
  refine k_geto (v := .int (o q2 0)) hne X hU (k_sC hk2 hq2) fl_X0_9 (by rw [ho]; rfl) dX0_copyFrom_2 ?_
  obtain ⟨w5, e5, hf⟩ := k_ltE hf
  refine k_putw X hU hS (k_sC hk hq) fp_X0_9 rfl e5 rfl rfl dX0_copyFrom_5 (fun H locs hU hS => ?_)
  refine lv_aload_n X.1 X.2.1 dX0_copyFrom_8 rfl (lv_at hl 0 rfl) ?_
  refine lv_aload_n X.1 X.2.1 dX0_copyFrom_9 rfl (lv_at hl 1 rfl) ?_
  refine k_geto (v := .int (o q2 1)) hne X hU (k_sC hk2 hq2) fl_X0_15 (by rw [ho]; rfl) dX0_copyFrom_10 ?_
  obtain ⟨w13, e13, hf⟩ := k_ltE hf
  refine k_putw X hU hS (k_sC hk hq) fp_X0_15 rfl e13 rfl rfl dX0_copyFrom_13 (fun H locs hU hS => ?_)
  refine lv_aload_n X.1 X.2.1 dX0_copyFrom_16 rfl (lv_at hl 0 rfl) ?_
  refine lv_aload_n X.1 X.2.1 dX0_copyFrom_17 rfl (lv_at hl 1 rfl) ?_
  refine k_geto (v := .int (o q2 2)) hne X hU (k_sC hk2 hq2) fl_X0_18 (by rw [ho]; rfl) dX0_copyFrom_18 ?_
  obtain ⟨w21, e21, hf⟩ := k_ltE hf
  refine k_putw X hU hS (k_sC hk hq) fp_X0_18 rfl e21 rfl rfl dX0_copyFrom_21 (fun H locs hU hS => ?_)
  refine lv_aload_n X.1 X.2.1 dX0_copyFrom_24 rfl (lv_at hl 0 rfl) ?_
  refine lv_aload_n X.1 X.2.1 dX0_copyFrom_25 rfl (lv_at hl 1 rfl) ?_
  refine k_geto (v := .int (o q2 3)) hne X hU (k_sC hk2 hq2) fl_X0_21 (by rw [ho]; rfl) dX0_copyFrom_26 ?_
  obtain ⟨w29, e29, hf⟩ := k_ltE hf
  refine k_putw X hU hS (k_sC hk hq) fp_X0_21 rfl e29 rfl rfl dX0_copyFrom_29 (fun H locs hU hS => ?_)
  refine lv_aload_n X.1 X.2.1 dX0_copyFrom_32 rfl (lv_at hl 0 rfl) ?_
  refine lv_aload_n X.1 X.2.1 dX0_copyFrom_33 rfl (lv_at hl 1 rfl) ?_
  refine k_geto (v := .int (o q2 4)) hne X hU (k_sC hk2 hq2) fl_X0_24 (by rw [ho]; rfl) dX0_copyFrom_34 ?_
  obtain ⟨w37, e37, hf⟩ := k_ltE hf
  refine k_putw X hU hS (k_sC hk hq) fp_X0_24 rfl e37 rfl rfl dX0_copyFrom_37 (fun H locs hU hS => ?_)
  refine lv_aload_n X.1 X.2.1 dX0_copyFrom_40 rfl (lv_at hl 0 rfl) ?_
  refine lv_aload_n X.1 X.2.1 dX0_copyFrom_41 rfl (lv_at hl 1 rfl) ?_
  refine k_geto (v := .int (o q2 5)) hne X hU (k_sC hk2 hq2) fl_X0_27 (by rw [ho]; rfl) dX0_copyFrom_42 ?_
  obtain ⟨w45, e45, hf⟩ := k_ltE hf
  refine k_putw X hU hS (k_sC hk hq) fp_X0_27 rfl e45 rfl rfl dX0_copyFrom_45 (fun H locs hU hS => ?_)
  refine lv_aload_n X.1 X.2.1 dX0_copyFrom_48 rfl (lv_at hl 0 rfl) ?_
  refine lv_aload_n X.1 X.2.1 dX0_copyFrom_49 rfl (lv_at hl 1 rfl) ?_
  refine k_geto (v := .int (o q2 6)) hne X hU (k_sC hk2 hq2) fl_X0_30 (by rw [ho]; rfl) dX0_copyFrom_50 ?_
  obtain ⟨hi53, hf⟩ := k_ckE hf
  obtain ⟨w53, e53, hf⟩ := k_ltE hf
  refine k_putw X hU hS (k_sC hk hq) fp_X0_30 rfl e53 (k_nb hi53) (k_fb hi53) dX0_copyFrom_53 (fun H locs hU hS => ?_)
  refine lv_aload_n X.1 X.2.1 dX0_copyFrom_56 rfl (lv_at hl 0 rfl) ?_
  refine lv_aload_n X.1 X.2.1 dX0_copyFrom_57 rfl (lv_at hl 1 rfl) ?_
  refine k_geto (v := .int (o q2 7)) hne X hU (k_sC hk2 hq2) fl_X0_34 (by rw [ho]; rfl) dX0_copyFrom_58 ?_
  obtain ⟨w61, e61, hf⟩ := k_ltE hf
  refine k_putw X hU hS (k_sC hk hq) fp_X0_34 rfl e61 rfl rfl dX0_copyFrom_61 (fun H locs hU hS => ?_)
  have hz := Option.some.inj hf
  subst hz
  exact k_vret X hU hS hr hlk dX0_copyFrom_64
def rm_X2_copyFrom : Room := { frames := 1, cells := 0, slots := 0, locals := 24 }
set_option maxRecDepth 100000 in
set_option maxHeartbeats 4000000 in
theorem c_X2_copyFrom {l : Launch} {D : va_G} {G : Nat → ClassId} {ad : Nat → Nat → Nat} {u : k_U} (hI : k_ok ad) {k : Nat} (hk : k_isW k) {k2 : Nat} (hk2 : k_isW k2) (hne : k2 ≠ k) {w : k_M} (hw : u k = w) {o : k_M} (ho : u k2 = o) {tc : Nat} (hc : k_isT tc) {sz : Nat} {r : k_M} (hf : f_X2_copyFrom w o tc = some r) : Met l yX2_copyFrom (.code yX2_copyFrom cX2_copyFrom 2 none :: lw_g) rm_X2_copyFrom (k_Pre D G ad u sz [.ref (ad k tc), .ref (ad k2 tc)]) (k_Qv D G ad (k_uc u k r) sz) 0 0 (k_A ad sz) := by
  refine k_ofW (by decide +kernel) hI (Nat.le_of_ble_eq_true rfl) ?_
  intro p e s m args below meth c X hr hlk hU hS ls hl
  have hl : lv_has ls 2 [(0, .ref (ad k tc)), (1, .ref (ad k2 tc))] := hl
  have hU : k_Uv D G ad (k_uc u k w) s.heap := by rw [← hw, k_uc_id]; exact hU
  unfold f_X2_copyFrom at hf
  refine lv_aload_n X.1 X.2.1 dX2_copyFrom_0 rfl (lv_at hl 1 rfl) ?_
  refine k_geto (v := .ref (ad k2 (tc + 1))) hne X hU (k_sT hk2 hc) fl_X2_11 rfl dX2_copyFrom_1 ?_
  refine lv_iconst (v := 0) X.1 X.2.1 dX2_copyFrom_4 (by decide) ?_
  refine lv_aload_n X.1 X.2.1 dX2_copyFrom_5 rfl (lv_at hl 0 rfl) ?_
  refine k_getw (v := .ref (ad k (tc + 1))) X hU (k_sT hk hc) fl_X2_11 rfl dX2_copyFrom_6 ?_
  refine lv_iconst (v := 0) X.1 X.2.1 dX2_copyFrom_9 (by decide) ?_
  refine lv_bipush (v := 8) X.1 X.2.1 dX2_copyFrom_10 (by decide) ?_
  obtain ⟨w12, e12, hf⟩ := k_ltE hf
  refine k_cpyo (n0 := 8) (w := w12) hne X hU hS (cpX2_18) (k_sT1 hk2 hc) (k_sT1 hk hc) (by decide) (by decide) (by decide) (by rw [ho]; exact e12) hl.1 (Nat.le_of_ble_eq_true rfl) (Nat.le_of_ble_eq_true rfl) dX2_copyFrom_12 (fun H locs hU hS => ?_)
  refine lv_aload_n X.1 X.2.1 dX2_copyFrom_15 rfl (lv_at hl 1 rfl) ?_
  refine k_geto (v := .ref (ad k2 (tc + 2))) hne X hU (k_sT hk2 hc) fl_X2_15 rfl dX2_copyFrom_16 ?_
  refine lv_iconst (v := 0) X.1 X.2.1 dX2_copyFrom_19 (by decide) ?_
  refine lv_aload_n X.1 X.2.1 dX2_copyFrom_20 rfl (lv_at hl 0 rfl) ?_
  refine k_getw (v := .ref (ad k (tc + 2))) X hU (k_sT hk hc) fl_X2_15 rfl dX2_copyFrom_21 ?_
  refine lv_iconst (v := 0) X.1 X.2.1 dX2_copyFrom_24 (by decide) ?_
  refine lv_bipush (v := 8) X.1 X.2.1 dX2_copyFrom_25 (by decide) ?_
  obtain ⟨w27, e27, hf⟩ := k_ltE hf
  refine k_cpyo (n0 := 8) (w := w27) hne X hU hS (cpX2_18) (k_sT2 hk2 hc) (k_sT2 hk hc) (by decide) (by decide) (by decide) (by rw [ho]; exact e27) hl.1 (Nat.le_of_ble_eq_true rfl) (Nat.le_of_ble_eq_true rfl) dX2_copyFrom_27 (fun H locs hU hS => ?_)
  refine lv_aload_n X.1 X.2.1 dX2_copyFrom_30 rfl (lv_at hl 0 rfl) ?_
  refine lv_aload_n X.1 X.2.1 dX2_copyFrom_31 rfl (lv_at hl 1 rfl) ?_
  refine k_geto (v := .int (o tc 2)) hne X hU (k_sT hk2 hc) fl_X2_24 (by rw [ho]; rfl) dX2_copyFrom_32 ?_
  obtain ⟨w35, e35, hf⟩ := k_ltE hf
  refine k_putw X hU hS (k_sT hk hc) fp_X2_24 rfl e35 rfl rfl dX2_copyFrom_35 (fun H locs hU hS => ?_)
  have hz := Option.some.inj hf
  subst hz
  exact k_vret X hU hS hr hlk dX2_copyFrom_38
def rm_X8_copyFrom : Room := { frames := 1, cells := 0, slots := 0, locals := 24 }
set_option maxRecDepth 100000 in
set_option maxHeartbeats 4000000 in
theorem c_X8_copyFrom {l : Launch} {D : va_G} {G : Nat → ClassId} {ad : Nat → Nat → Nat} {u : k_U} (hI : k_ok ad) {k : Nat} (hk : k_isW k) {k2 : Nat} (hk2 : k_isW k2) (hne : k2 ≠ k) {w : k_M} (hw : u k = w) {o : k_M} (ho : u k2 = o) {sz : Nat} {r : k_M} (hf : f_X8_copyFrom w o = some r) : Met l yX8_copyFrom (.code yX8_copyFrom cX8_copyFrom 2 none :: lw_g) rm_X8_copyFrom (k_Pre D G ad u sz [.ref (ad k 9), .ref (ad k2 9)]) (k_Qv D G ad (k_uc u k r) sz) 0 0 (k_A ad sz) := by
  refine k_ofW (by decide +kernel) hI (Nat.le_of_ble_eq_true rfl) ?_
  intro p e s m args below meth c X hr hlk hU hS ls hl
  have hl : lv_has ls 2 [(0, .ref (ad k 9)), (1, .ref (ad k2 9))] := hl
  have hU : k_Uv D G ad (k_uc u k w) s.heap := by rw [← hw, k_uc_id]; exact hU
  unfold f_X8_copyFrom at hf
  refine lv_aload_n X.1 X.2.1 dX8_copyFrom_0 rfl (lv_at hl 1 rfl) ?_
  refine k_geto (v := .ref (ad k2 10)) hne X hU (sW_9 hk2) fl_X8_11 rfl dX8_copyFrom_1 ?_
  refine lv_iconst (v := 0) X.1 X.2.1 dX8_copyFrom_4 (by decide) ?_
  refine lv_aload_n X.1 X.2.1 dX8_copyFrom_5 rfl (lv_at hl 0 rfl) ?_
  refine k_getw (v := .ref (ad k 10)) X hU (sW_9 hk) fl_X8_11 rfl dX8_copyFrom_6 ?_
  refine lv_iconst (v := 0) X.1 X.2.1 dX8_copyFrom_9 (by decide) ?_
  refine lv_bipush (v := 8) X.1 X.2.1 dX8_copyFrom_10 (by decide) ?_
  obtain ⟨w12, e12, hf⟩ := k_ltE hf
  refine k_cpyo (n0 := 8) (w := w12) hne X hU hS (cpX8_21) (sW_10 hk2) (sW_10 hk) (by decide) (by decide) (by decide) (by rw [ho]; exact e12) hl.1 (Nat.le_of_ble_eq_true rfl) (Nat.le_of_ble_eq_true rfl) dX8_copyFrom_12 (fun H locs hU hS => ?_)
  refine lv_aload_n X.1 X.2.1 dX8_copyFrom_15 rfl (lv_at hl 1 rfl) ?_
  refine k_geto (v := .ref (ad k2 11)) hne X hU (sW_9 hk2) fl_X8_15 rfl dX8_copyFrom_16 ?_
  refine lv_iconst (v := 0) X.1 X.2.1 dX8_copyFrom_19 (by decide) ?_
  refine lv_aload_n X.1 X.2.1 dX8_copyFrom_20 rfl (lv_at hl 0 rfl) ?_
  refine k_getw (v := .ref (ad k 11)) X hU (sW_9 hk) fl_X8_15 rfl dX8_copyFrom_21 ?_
  refine lv_iconst (v := 0) X.1 X.2.1 dX8_copyFrom_24 (by decide) ?_
  refine lv_bipush (v := 8) X.1 X.2.1 dX8_copyFrom_25 (by decide) ?_
  obtain ⟨w27, e27, hf⟩ := k_ltE hf
  refine k_cpyo (n0 := 8) (w := w27) hne X hU hS (cpX8_21) (sW_11 hk2) (sW_11 hk) (by decide) (by decide) (by decide) (by rw [ho]; exact e27) hl.1 (Nat.le_of_ble_eq_true rfl) (Nat.le_of_ble_eq_true rfl) dX8_copyFrom_27 (fun H locs hU hS => ?_)
  refine lv_aload_n X.1 X.2.1 dX8_copyFrom_30 rfl (lv_at hl 1 rfl) ?_
  refine k_geto (v := .ref (ad k2 12)) hne X hU (sW_9 hk2) fl_X8_18 rfl dX8_copyFrom_31 ?_
  refine lv_iconst (v := 0) X.1 X.2.1 dX8_copyFrom_34 (by decide) ?_
  refine lv_aload_n X.1 X.2.1 dX8_copyFrom_35 rfl (lv_at hl 0 rfl) ?_
  refine k_getw (v := .ref (ad k 12)) X hU (sW_9 hk) fl_X8_18 rfl dX8_copyFrom_36 ?_
  refine lv_iconst (v := 0) X.1 X.2.1 dX8_copyFrom_39 (by decide) ?_
  refine lv_bipush (v := 8) X.1 X.2.1 dX8_copyFrom_40 (by decide) ?_
  obtain ⟨w42, e42, hf⟩ := k_ltE hf
  refine k_cpyo (n0 := 8) (w := w42) hne X hU hS (cpX8_21) (sW_12 hk2) (sW_12 hk) (by decide) (by decide) (by decide) (by rw [ho]; exact e42) hl.1 (Nat.le_of_ble_eq_true rfl) (Nat.le_of_ble_eq_true rfl) dX8_copyFrom_42 (fun H locs hU hS => ?_)
  refine lv_aload_n X.1 X.2.1 dX8_copyFrom_45 rfl (lv_at hl 0 rfl) ?_
  refine lv_aload_n X.1 X.2.1 dX8_copyFrom_46 rfl (lv_at hl 1 rfl) ?_
  refine k_geto (v := .int (o 9 3)) hne X hU (sW_9 hk2) fl_X8_27 (by rw [ho]; rfl) dX8_copyFrom_47 ?_
  obtain ⟨w50, e50, hf⟩ := k_ltE hf
  refine k_putw X hU hS (sW_9 hk) fp_X8_27 rfl e50 rfl rfl dX8_copyFrom_50 (fun H locs hU hS => ?_)
  have hz := Option.some.inj hf
  subst hz
  exact k_vret X hU hS hr hlk dX8_copyFrom_53
def rm_X1_copyFrom : Room := { frames := 1, cells := 0, slots := 0, locals := 24 }
set_option maxRecDepth 100000 in
set_option maxHeartbeats 4000000 in
theorem c_X1_copyFrom {l : Launch} {D : va_G} {G : Nat → ClassId} {ad : Nat → Nat → Nat} {u : k_U} (hI : k_ok ad) {k : Nat} (hk : k_isW k) {k2 : Nat} (hk2 : k_isW k2) (hne : k2 ≠ k) {w : k_M} (hw : u k = w) {o : k_M} (ho : u k2 = o) {sz : Nat} {r : k_M} (hf : f_X1_copyFrom w o = some r) : Met l yX1_copyFrom (.code yX1_copyFrom cX1_copyFrom 2 none :: lw_g) rm_X1_copyFrom (k_Pre D G ad u sz [.ref (ad k 13), .ref (ad k2 13)]) (k_Qv D G ad (k_uc u k r) sz) 0 0 (k_A ad sz) := by
  refine k_ofW (by decide +kernel) hI (Nat.le_of_ble_eq_true rfl) ?_
  intro p e s m args below meth c X hr hlk hU hS ls hl
  have hl : lv_has ls 2 [(0, .ref (ad k 13)), (1, .ref (ad k2 13))] := hl
  have hU : k_Uv D G ad (k_uc u k w) s.heap := by rw [← hw, k_uc_id]; exact hU
  unfold f_X1_copyFrom at hf
  refine lv_aload_n X.1 X.2.1 dX1_copyFrom_0 rfl (lv_at hl 1 rfl) ?_
  refine k_geto (v := .ref (ad k2 14)) hne X hU (sW_13 hk2) fl_X1_9 rfl dX1_copyFrom_1 ?_
  refine lv_iconst (v := 0) X.1 X.2.1 dX1_copyFrom_4 (by decide) ?_
  refine lv_aload_n X.1 X.2.1 dX1_copyFrom_5 rfl (lv_at hl 0 rfl) ?_
  refine k_getw (v := .ref (ad k 14)) X hU (sW_13 hk) fl_X1_9 rfl dX1_copyFrom_6 ?_
  refine lv_iconst (v := 0) X.1 X.2.1 dX1_copyFrom_9 (by decide) ?_
  refine lv_bipush (v := 120) X.1 X.2.1 dX1_copyFrom_10 (by decide) ?_
  obtain ⟨w12, e12, hf⟩ := k_ltE hf
  refine k_cpyo (n0 := 120) (w := w12) hne X hU hS (cpX1_13) (sW_14 hk2) (sW_14 hk) (by decide) (by decide) (by decide) (by rw [ho]; exact e12) hl.1 (Nat.le_of_ble_eq_true rfl) (Nat.le_of_ble_eq_true rfl) dX1_copyFrom_12 (fun H locs hU hS => ?_)
  refine lv_aload_n X.1 X.2.1 dX1_copyFrom_15 rfl (lv_at hl 0 rfl) ?_
  refine lv_aload_n X.1 X.2.1 dX1_copyFrom_16 rfl (lv_at hl 1 rfl) ?_
  refine k_geto (v := .int (o 13 1)) hne X hU (sW_13 hk2) fl_X1_19 (by rw [ho]; rfl) dX1_copyFrom_17 ?_
  obtain ⟨w20, e20, hf⟩ := k_ltE hf
  refine k_putw X hU hS (sW_13 hk) fp_X1_19 rfl e20 rfl rfl dX1_copyFrom_20 (fun H locs hU hS => ?_)
  refine lv_aload_n X.1 X.2.1 dX1_copyFrom_23 rfl (lv_at hl 0 rfl) ?_
  refine lv_aload_n X.1 X.2.1 dX1_copyFrom_24 rfl (lv_at hl 1 rfl) ?_
  refine k_geto (v := .int (o 13 2)) hne X hU (sW_13 hk2) fl_X1_23 (by rw [ho]; rfl) dX1_copyFrom_25 ?_
  obtain ⟨w28, e28, hf⟩ := k_ltE hf
  refine k_putw X hU hS (sW_13 hk) fp_X1_23 rfl e28 rfl rfl dX1_copyFrom_28 (fun H locs hU hS => ?_)
  have hz := Option.some.inj hf
  subst hz
  exact k_vret X hU hS hr hlk dX1_copyFrom_31
def rm_X9_copyFrom : Room := { frames := 2, cells := 0, slots := 0, locals := 45 }
set_option maxRecDepth 100000 in
set_option maxHeartbeats 4000000 in
theorem c_X9_copyFrom {l : Launch} {D : va_G} {G : Nat → ClassId} {ad : Nat → Nat → Nat} {u : k_U} (hI : k_ok ad) {k : Nat} (hk : k_isW k) {k2 : Nat} (hk2 : k_isW k2) (hne : k2 ≠ k) {w : k_M} (hw : u k = w) {o : k_M} (ho : u k2 = o) {sz : Nat} {r : k_M} (hf : f_X9_copyFrom w o = some r) : Met l yX9_copyFrom (.code yX9_copyFrom cX9_copyFrom 3 none :: lw_g) rm_X9_copyFrom (k_Pre D G ad u sz [.ref (ad k 0), .ref (ad k2 0)]) (k_Qv D G ad (k_uc u k r) sz) 0 0 (k_A ad sz) := by
  refine k_ofW (by decide +kernel) hI (Nat.le_of_ble_eq_true rfl) ?_
  intro p e s m args below meth c X hr hlk hU hS ls hl
  have hl : lv_has ls 3 [(0, .ref (ad k 0)), (1, .ref (ad k2 0))] := hl
  have hU : k_Uv D G ad (k_uc u k w) s.heap := by rw [← hw, k_uc_id]; exact hU
  have L98 : ∀ (n98 : Nat) (H : Heap) (locs : List Loc) (ls : Array Slot) (w : k_M) (a2 : Int32), k_Uv D G ad (k_uc u k w) H → va_S (k_A ad sz) s.heap H locs → lv_has ls 3 [(0, .ref (ad k 0)), (1, .ref (ad k2 0)), (2, .int a2)] → f_X9_copyFrom_98 n98 w o a2 = some r → W p l e rm_X9_copyFrom s m args below meth c H locs 0 0 (MQ below (k_Qv D G ad (k_uc u k r) sz) args s 0 0 (k_A ad sz)) (F0 m 98 ls []) := by
    intro n98
    induction n98 with
    | zero =>
      intro H locs ls w a2 hU hS hl hf
      cases (show none = some r from hf)
    | succ n98 ih98 =>
      intro H locs ls w a2 hU hS hl hf
      replace hf : f_X9_copyFrom_98_b (f_X9_copyFrom_98 n98) w o a2 = some r := hf
      unfold f_X9_copyFrom_98_b at hf
      refine lv_iload_n X.1 X.2.1 dX9_copyFrom_98 rfl (lv_at hl 2 rfl) ?_
      refine lv_aload_n X.1 X.2.1 dX9_copyFrom_99 rfl (lv_at hl 0 rfl) ?_
      refine k_getw (v := .int (w 0 10)) X hU (sW_0 hk) fl_X9_77 rfl dX9_copyFrom_100 ?_
      refine lv_icmp_ge (tgt := 127) X.1 X.2.1 dX9_copyFrom_103 (by decide) (fun c103 => ?_) (fun c103 => ?_)
      · replace hf := k_ifP hf c103
        refine lv_aload_n X.1 X.2.1 dX9_copyFrom_127 rfl (lv_at hl 0 rfl) ?_
        refine k_getw (v := .ref (ad k 2)) X hU (sW_0 hk) fl_X9_18 rfl dX9_copyFrom_128 ?_
        refine lv_aload_n X.1 X.2.1 dX9_copyFrom_131 rfl (lv_at hl 1 rfl) ?_
        refine k_geto (v := .ref (ad k2 2)) hne X hU (sW_0 hk2) fl_X9_18 rfl dX9_copyFrom_132 ?_
        obtain ⟨r135, hr135, hf⟩ := k_bdE hf
        refine k_backv X hS (k_runV (As := [.ref (ad k2 2)]) (rest := []) X hS hU (k_sC hk k_isC_2) (by decide) rfl vl_X9_91 (c_X0_copyFrom X.2.2.2.2.2.2.1 hk hk2 hne (k_uc_s _ _ _) (by rw [k_uc_n _ _ hne]; exact ho) k_isC_2 k_isC_2 hr135) rfl rfl rfl hl.1 ⟨Nat.le_of_ble_eq_true rfl, Nat.le_of_ble_eq_true rfl⟩ (Nat.le_of_ble_eq_true rfl) dX9_copyFrom_135 ⟨Nat.zero_le _, Nat.zero_le _⟩) (fun H locs hU hS => ?_)
        rw [k_uc_uc] at hU
        refine lv_aload_n X.1 X.2.1 dX9_copyFrom_138 rfl (lv_at hl 0 rfl) ?_
        refine k_getw (v := .ref (ad k 3)) X hU (sW_0 hk) fl_X9_25 rfl dX9_copyFrom_139 ?_
        refine lv_aload_n X.1 X.2.1 dX9_copyFrom_142 rfl (lv_at hl 1 rfl) ?_
        refine k_geto (v := .ref (ad k2 3)) hne X hU (sW_0 hk2) fl_X9_25 rfl dX9_copyFrom_143 ?_
        obtain ⟨r146, hr146, hf⟩ := k_bdE hf
        refine k_backv X hS (k_runV (As := [.ref (ad k2 3)]) (rest := []) X hS hU (k_sT hk k_isT_3) (by decide) rfl vl_X9_95 (c_X2_copyFrom X.2.2.2.2.2.2.1 hk hk2 hne (k_uc_s _ _ _) (by rw [k_uc_n _ _ hne]; exact ho) k_isT_3 hr146) rfl rfl rfl hl.1 ⟨Nat.le_of_ble_eq_true rfl, Nat.le_of_ble_eq_true rfl⟩ (Nat.le_of_ble_eq_true rfl) dX9_copyFrom_146 ⟨Nat.zero_le _, Nat.zero_le _⟩) (fun H locs hU hS => ?_)
        rw [k_uc_uc] at hU
        refine lv_aload_n X.1 X.2.1 dX9_copyFrom_149 rfl (lv_at hl 0 rfl) ?_
        refine k_getw (v := .ref (ad k 6)) X hU (sW_0 hk) fl_X9_29 rfl dX9_copyFrom_150 ?_
        refine lv_aload_n X.1 X.2.1 dX9_copyFrom_153 rfl (lv_at hl 1 rfl) ?_
        refine k_geto (v := .ref (ad k2 6)) hne X hU (sW_0 hk2) fl_X9_29 rfl dX9_copyFrom_154 ?_
        obtain ⟨r157, hr157, hf⟩ := k_bdE hf
        refine k_backv X hS (k_runV (As := [.ref (ad k2 6)]) (rest := []) X hS hU (k_sT hk k_isT_6) (by decide) rfl vl_X9_95 (c_X2_copyFrom X.2.2.2.2.2.2.1 hk hk2 hne (k_uc_s _ _ _) (by rw [k_uc_n _ _ hne]; exact ho) k_isT_6 hr157) rfl rfl rfl hl.1 ⟨Nat.le_of_ble_eq_true rfl, Nat.le_of_ble_eq_true rfl⟩ (Nat.le_of_ble_eq_true rfl) dX9_copyFrom_157 ⟨Nat.zero_le _, Nat.zero_le _⟩) (fun H locs hU hS => ?_)
        rw [k_uc_uc] at hU
        refine lv_aload_n X.1 X.2.1 dX9_copyFrom_160 rfl (lv_at hl 0 rfl) ?_
        refine k_getw (v := .ref (ad k 9)) X hU (sW_0 hk) fl_X9_35 rfl dX9_copyFrom_161 ?_
        refine lv_aload_n X.1 X.2.1 dX9_copyFrom_164 rfl (lv_at hl 1 rfl) ?_
        refine k_geto (v := .ref (ad k2 9)) hne X hU (sW_0 hk2) fl_X9_35 rfl dX9_copyFrom_165 ?_
        obtain ⟨r168, hr168, hf⟩ := k_bdE hf
        refine k_backv X hS (k_runV (As := [.ref (ad k2 9)]) (rest := []) X hS hU (sW_9 hk) (by decide) rfl vl_X9_98 (c_X8_copyFrom X.2.2.2.2.2.2.1 hk hk2 hne (k_uc_s _ _ _) (by rw [k_uc_n _ _ hne]; exact ho) hr168) rfl rfl rfl hl.1 ⟨Nat.le_of_ble_eq_true rfl, Nat.le_of_ble_eq_true rfl⟩ (Nat.le_of_ble_eq_true rfl) dX9_copyFrom_168 ⟨Nat.zero_le _, Nat.zero_le _⟩) (fun H locs hU hS => ?_)
        rw [k_uc_uc] at hU
        refine lv_aload_n X.1 X.2.1 dX9_copyFrom_171 rfl (lv_at hl 0 rfl) ?_
        refine k_getw (v := .ref (ad k 13)) X hU (sW_0 hk) fl_X9_42 rfl dX9_copyFrom_172 ?_
        refine lv_aload_n X.1 X.2.1 dX9_copyFrom_175 rfl (lv_at hl 1 rfl) ?_
        refine k_geto (v := .ref (ad k2 13)) hne X hU (sW_0 hk2) fl_X9_42 rfl dX9_copyFrom_176 ?_
        obtain ⟨r179, hr179, hf⟩ := k_bdE hf
        refine k_backv X hS (k_runV (As := [.ref (ad k2 13)]) (rest := []) X hS hU (sW_13 hk) (by decide) rfl vl_X9_101 (c_X1_copyFrom X.2.2.2.2.2.2.1 hk hk2 hne (k_uc_s _ _ _) (by rw [k_uc_n _ _ hne]; exact ho) hr179) rfl rfl rfl hl.1 ⟨Nat.le_of_ble_eq_true rfl, Nat.le_of_ble_eq_true rfl⟩ (Nat.le_of_ble_eq_true rfl) dX9_copyFrom_179 ⟨Nat.zero_le _, Nat.zero_le _⟩) (fun H locs hU hS => ?_)
        rw [k_uc_uc] at hU
        have hz := Option.some.inj hf
        subst hz
        exact k_vret X hU hS hr hlk dX9_copyFrom_182
      · replace hf := k_ifN hf c103
        refine lv_aload_n X.1 X.2.1 dX9_copyFrom_106 rfl (lv_at hl 0 rfl) ?_
        refine k_getw (v := .ref (ad k 1)) X hU (sW_0 hk) fl_X9_13 rfl dX9_copyFrom_107 ?_
        refine lv_iload_n X.1 X.2.1 dX9_copyFrom_110 rfl (lv_at hl 2 rfl) ?_
        obtain ⟨hi111, hf⟩ := k_ckE hf
        have hj111 := (k_vin (n := 8) hi111 (by decide))
        refine k_ald (C := "LayeredChute$Chute") (tag := 23) (t0 := 3) (z := (k, (15 + a2.toNatClampNeg))) X hU ⟨by decide, by decide⟩ rfl (sW_1 hk) hj111 (k_rWl_at hj111) dX9_copyFrom_111 ?_
        refine lv_aload_n X.1 X.2.1 dX9_copyFrom_112 rfl (lv_at hl 1 rfl) ?_
        refine k_geto (v := .ref (ad k2 1)) hne X hU (sW_0 hk2) fl_X9_13 rfl dX9_copyFrom_113 ?_
        refine lv_iload_n X.1 X.2.1 dX9_copyFrom_116 rfl (lv_at hl 2 rfl) ?_
        obtain ⟨hi117, hf⟩ := k_ckE hf
        have hj117 := (k_vin (n := 8) hi117 (by decide))
        refine k_ald (C := "LayeredChute$Chute") (tag := 23) (t0 := 3) (z := (k2, (15 + a2.toNatClampNeg))) X hU ⟨by decide, by decide⟩ rfl (sW_1 hk2) hj117 (k_rWl_at hj117) dX9_copyFrom_117 ?_
        obtain ⟨r118, hr118, hf⟩ := k_bdE hf
        refine k_backv X hS (k_runV (As := [.ref (ad k2 (15 + a2.toNatClampNeg))]) (rest := []) X hS hU (k_sC hk (k_isC_l (k_vlt hj111))) (by decide) rfl vl_X9_91 (c_X0_copyFrom X.2.2.2.2.2.2.1 hk hk2 hne (k_uc_s _ _ _) (by rw [k_uc_n _ _ hne]; exact ho) (k_isC_l (k_vlt hj111)) (k_isC_l (k_vlt hj117)) hr118) rfl rfl rfl hl.1 ⟨Nat.le_of_ble_eq_true rfl, Nat.le_of_ble_eq_true rfl⟩ (Nat.le_of_ble_eq_true rfl) dX9_copyFrom_118 ⟨Nat.zero_le _, Nat.zero_le _⟩) (fun H locs hU hS => ?_)
        rw [k_uc_uc] at hU
        obtain ⟨x121, e121, hf⟩ := k_ltE hf
        refine lv_iinc (v := x121) (lv' := [(2, .int x121), (0, .ref (ad k 0)), (1, .ref (ad k2 0))]) X.1 X.2.1 dX9_copyFrom_121 hl (k := 2) rfl (by rw [e121]; rfl) (by decide) rfl (fun ls hl => ?_)
        refine lv_goto (tgt := 98) X.1 X.2.1 dX9_copyFrom_124 (by decide) ?_
        exact ih98 _ _ _ r118 x121 hU hS (lv_sub hl [1, 2, 0] rfl) hf
  unfold f_X9_copyFrom at hf
  refine lv_aload_n X.1 X.2.1 dX9_copyFrom_0 rfl (lv_at hl 0 rfl) ?_
  refine lv_aload_n X.1 X.2.1 dX9_copyFrom_1 rfl (lv_at hl 1 rfl) ?_
  refine k_geto (v := .int (o 0 0)) hne X hU (sW_0 hk2) fl_X9_46 (by rw [ho]; rfl) dX9_copyFrom_2 ?_
  obtain ⟨w5, e5, hf⟩ := k_ltE hf
  refine k_putw X hU hS (sW_0 hk) fp_X9_46 rfl e5 rfl rfl dX9_copyFrom_5 (fun H locs hU hS => ?_)
  refine lv_aload_n X.1 X.2.1 dX9_copyFrom_8 rfl (lv_at hl 0 rfl) ?_
  refine lv_aload_n X.1 X.2.1 dX9_copyFrom_9 rfl (lv_at hl 1 rfl) ?_
  refine k_geto (v := .int (o 0 1)) hne X hU (sW_0 hk2) fl_X9_50 (by rw [ho]; rfl) dX9_copyFrom_10 ?_
  obtain ⟨w13, e13, hf⟩ := k_ltE hf
  refine k_putw X hU hS (sW_0 hk) fp_X9_50 rfl e13 rfl rfl dX9_copyFrom_13 (fun H locs hU hS => ?_)
  refine lv_aload_n X.1 X.2.1 dX9_copyFrom_16 rfl (lv_at hl 0 rfl) ?_
  refine lv_aload_n X.1 X.2.1 dX9_copyFrom_17 rfl (lv_at hl 1 rfl) ?_
  refine k_geto (v := .int (o 0 2)) hne X hU (sW_0 hk2) fl_X9_56 (by rw [ho]; rfl) dX9_copyFrom_18 ?_
  obtain ⟨w21, e21, hf⟩ := k_ltE hf
  refine k_putw X hU hS (sW_0 hk) fp_X9_56 rfl e21 rfl rfl dX9_copyFrom_21 (fun H locs hU hS => ?_)
  refine lv_aload_n X.1 X.2.1 dX9_copyFrom_24 rfl (lv_at hl 0 rfl) ?_
  refine lv_aload_n X.1 X.2.1 dX9_copyFrom_25 rfl (lv_at hl 1 rfl) ?_
  refine k_geto (v := .int (o 0 3)) hne X hU (sW_0 hk2) fl_X9_53 (by rw [ho]; rfl) dX9_copyFrom_26 ?_
  obtain ⟨w29, e29, hf⟩ := k_ltE hf
  refine k_putw X hU hS (sW_0 hk) fp_X9_53 rfl e29 rfl rfl dX9_copyFrom_29 (fun H locs hU hS => ?_)
  refine lv_aload_n X.1 X.2.1 dX9_copyFrom_32 rfl (lv_at hl 0 rfl) ?_
  refine lv_aload_n X.1 X.2.1 dX9_copyFrom_33 rfl (lv_at hl 1 rfl) ?_
  refine k_geto (v := .int (o 0 4)) hne X hU (sW_0 hk2) fl_X9_59 (by rw [ho]; rfl) dX9_copyFrom_34 ?_
  obtain ⟨w37, e37, hf⟩ := k_ltE hf
  refine k_putw X hU hS (sW_0 hk) fp_X9_59 rfl e37 rfl rfl dX9_copyFrom_37 (fun H locs hU hS => ?_)
  refine lv_aload_n X.1 X.2.1 dX9_copyFrom_40 rfl (lv_at hl 0 rfl) ?_
  refine lv_aload_n X.1 X.2.1 dX9_copyFrom_41 rfl (lv_at hl 1 rfl) ?_
  refine k_geto (v := .int (o 0 5)) hne X hU (sW_0 hk2) fl_X9_62 (by rw [ho]; rfl) dX9_copyFrom_42 ?_
  obtain ⟨w45, e45, hf⟩ := k_ltE hf
  refine k_putw X hU hS (sW_0 hk) fp_X9_62 rfl e45 rfl rfl dX9_copyFrom_45 (fun H locs hU hS => ?_)
  refine lv_aload_n X.1 X.2.1 dX9_copyFrom_48 rfl (lv_at hl 0 rfl) ?_
  refine lv_aload_n X.1 X.2.1 dX9_copyFrom_49 rfl (lv_at hl 1 rfl) ?_
  refine k_geto (v := .int (o 0 6)) hne X hU (sW_0 hk2) fl_X9_65 (by rw [ho]; rfl) dX9_copyFrom_50 ?_
  obtain ⟨w53, e53, hf⟩ := k_ltE hf
  refine k_putw X hU hS (sW_0 hk) fp_X9_65 rfl e53 rfl rfl dX9_copyFrom_53 (fun H locs hU hS => ?_)
  refine lv_aload_n X.1 X.2.1 dX9_copyFrom_56 rfl (lv_at hl 0 rfl) ?_
  refine lv_aload_n X.1 X.2.1 dX9_copyFrom_57 rfl (lv_at hl 1 rfl) ?_
  refine k_geto (v := .int (o 0 7)) hne X hU (sW_0 hk2) fl_X9_68 (by rw [ho]; rfl) dX9_copyFrom_58 ?_
  obtain ⟨w61, e61, hf⟩ := k_ltE hf
  refine k_putw X hU hS (sW_0 hk) fp_X9_68 rfl e61 rfl rfl dX9_copyFrom_61 (fun H locs hU hS => ?_)
  refine lv_aload_n X.1 X.2.1 dX9_copyFrom_64 rfl (lv_at hl 0 rfl) ?_
  refine lv_aload_n X.1 X.2.1 dX9_copyFrom_65 rfl (lv_at hl 1 rfl) ?_
  refine k_geto (v := .int (o 0 8)) hne X hU (sW_0 hk2) fl_X9_71 (by rw [ho]; rfl) dX9_copyFrom_66 ?_
  obtain ⟨w69, e69, hf⟩ := k_ltE hf
  refine k_putw X hU hS (sW_0 hk) fp_X9_71 rfl e69 rfl rfl dX9_copyFrom_69 (fun H locs hU hS => ?_)
  refine lv_aload_n X.1 X.2.1 dX9_copyFrom_72 rfl (lv_at hl 0 rfl) ?_
  refine lv_aload_n X.1 X.2.1 dX9_copyFrom_73 rfl (lv_at hl 1 rfl) ?_
  refine k_geto (v := .int (o 0 9)) hne X hU (sW_0 hk2) fl_X9_74 (by rw [ho]; rfl) dX9_copyFrom_74 ?_
  obtain ⟨w77, e77, hf⟩ := k_ltE hf
  refine k_putw X hU hS (sW_0 hk) fp_X9_74 rfl e77 rfl rfl dX9_copyFrom_77 (fun H locs hU hS => ?_)
  refine lv_aload_n X.1 X.2.1 dX9_copyFrom_80 rfl (lv_at hl 0 rfl) ?_
  refine lv_aload_n X.1 X.2.1 dX9_copyFrom_81 rfl (lv_at hl 1 rfl) ?_
  refine k_geto (v := .int (o 0 10)) hne X hU (sW_0 hk2) fl_X9_77 (by rw [ho]; rfl) dX9_copyFrom_82 ?_
  obtain ⟨w85, e85, hf⟩ := k_ltE hf
  refine k_putw X hU hS (sW_0 hk) fp_X9_77 rfl e85 rfl rfl dX9_copyFrom_85 (fun H locs hU hS => ?_)
  refine lv_aload_n X.1 X.2.1 dX9_copyFrom_88 rfl (lv_at hl 0 rfl) ?_
  refine lv_aload_n X.1 X.2.1 dX9_copyFrom_89 rfl (lv_at hl 1 rfl) ?_
  refine k_geto (v := .int (o 0 11)) hne X hU (sW_0 hk2) fl_X9_80 (by rw [ho]; rfl) dX9_copyFrom_90 ?_
  obtain ⟨hi93, hf⟩ := k_ckE hf
  obtain ⟨w93, e93, hf⟩ := k_ltE hf
  refine k_putw X hU hS (sW_0 hk) fp_X9_80 rfl e93 (k_nb hi93) (k_fb hi93) dX9_copyFrom_93 (fun H locs hU hS => ?_)
  refine lv_iconst (v := 0) X.1 X.2.1 dX9_copyFrom_96 (by decide) ?_
  refine lv_istore_n (lv' := [(2, .int 0), (0, .ref (ad k 0)), (1, .ref (ad k2 0))]) X.1 X.2.1 dX9_copyFrom_97 rfl hl (by decide) rfl (fun ls hl => ?_)
  exact L98 k_N _ _ _ w93 0 hU hS (lv_sub hl [1, 2, 0] rfl) hf
def rm_X3_forget : Room := { frames := 0, cells := 0, slots := 0, locals := 0 }
set_option maxRecDepth 100000 in
set_option maxHeartbeats 4000000 in
theorem c_X3_forget {l : Launch} {D : va_G} {G : Nat → ClassId} {ad : Nat → Nat → Nat} {u : k_U} (hI : k_ok ad) {sz : Nat} {r : k_U} (hf : f_X3_forget u = some r) : Met l yX3_forget (.code yX3_forget cX3_forget 1 none :: lw_g) rm_X3_forget (k_Pre D G ad u sz [.ref (ad 4 0)]) (k_Qv D G ad r sz) 0 0 (k_A ad sz) := by
  refine k_ofW (by decide +kernel) hI (Nat.le_of_ble_eq_true rfl) ?_
  intro p e s m args below meth c X hr hlk hU hS ls hl
  have hl : lv_has ls 1 [(0, .ref (ad 4 0))] := hl
  unfold f_X3_forget at hf
  refine lv_aload_n X.1 X.2.1 dX3_forget_0 rfl (lv_at hl 0 rfl) ?_
  refine lv_iconst (v := 0) X.1 X.2.1 dX3_forget_1 (by decide) ?_
  obtain ⟨u2, e2, hf⟩ := k_ltE hf
  refine k_put X hU hS sh_4_0 fp_X3_16 rfl rfl rfl rfl dX3_forget_2 (fun H locs hU hS => ?_)
  rw [← e2] at hU
  have hz := Option.some.inj hf
  subst hz
  exact k_vret X hU hS hr hlk dX3_forget_5
def rm_X9_chuteCount : Room := { frames := 0, cells := 0, slots := 0, locals := 0 }
set_option maxRecDepth 100000 in
set_option maxHeartbeats 4000000 in
theorem c_X9_chuteCount {l : Launch} {D : va_G} {G : Nat → ClassId} {ad : Nat → Nat → Nat} {u : k_U} (hI : k_ok ad) {k : Nat} (hk : k_isW k) {w : k_M} (hw : u k = w) {sz : Nat} {r : Int32} (hf : f_X9_chuteCount w = some r) : Met l yX9_chuteCount (.code yX9_chuteCount cX9_chuteCount 1 (some .int) :: lw_g) rm_X9_chuteCount (k_Pre D G ad u sz [.ref (ad k 0)]) (k_Qi D G ad u r sz) 0 0 (k_A ad sz) := by
  refine k_ofW (by decide +kernel) hI (Nat.le_of_ble_eq_true rfl) ?_
  intro p e s m args below meth c X hr hlk hU hS ls hl
  have hl : lv_has ls 1 [(0, .ref (ad k 0))] := hl
  have hU : k_Uv D G ad (k_uc u k w) s.heap := by rw [← hw, k_uc_id]; exact hU
  unfold f_X9_chuteCount at hf
  refine lv_aload_n X.1 X.2.1 dX9_chuteCount_0 rfl (lv_at hl 0 rfl) ?_
  refine k_getw (v := .int (w 0 11)) X hU (sW_0 hk) fl_X9_80 rfl dX9_chuteCount_1 ?_
  refine lv_if_eq (tgt := 16) X.1 X.2.1 dX9_chuteCount_4 (by decide) (fun c4 => ?_) (fun c4 => ?_)
  · replace hf := k_ifP hf c4
    refine lv_aload_n X.1 X.2.1 dX9_chuteCount_16 rfl (lv_at hl 0 rfl) ?_
    refine k_getw (v := .int (w 0 10)) X hU (sW_0 hk) fl_X9_77 rfl dX9_chuteCount_17 ?_
    rw [← hw, k_uc_id] at hU
    have hz := Option.some.inj hf
    subst hz
    exact k_iret (v := w 0 10) X hU hS hr hlk rfl rfl dX9_chuteCount_20
  · replace hf := k_ifN hf c4
    refine lv_aload_n X.1 X.2.1 dX9_chuteCount_7 rfl (lv_at hl 0 rfl) ?_
    refine k_getw (v := .int (w 0 10)) X hU (sW_0 hk) fl_X9_77 rfl dX9_chuteCount_8 ?_
    refine lv_iconst (v := 1) X.1 X.2.1 dX9_chuteCount_11 (by decide) ?_
    refine lv_iadd X.1 X.2.1 dX9_chuteCount_12 ?_
    refine lv_goto (tgt := 20) X.1 X.2.1 dX9_chuteCount_13 (by decide) ?_
    rw [← hw, k_uc_id] at hU
    have hz := Option.some.inj hf
    subst hz
    exact k_iret (v := ((w 0 10) + 1)) X hU hS hr hlk rfl rfl dX9_chuteCount_20
def rm_X10_load : Room := { frames := 10, cells := 0, slots := 0, locals := 241 }
set_option maxRecDepth 100000 in
set_option maxHeartbeats 4000000 in
theorem c_X10_load {l : Launch} {D : va_G} {G : Nat → ClassId} {ad : Nat → Nat → Nat} {u : k_U} (hI : k_ok ad) {sz : Nat} {r : (k_U × Int32)} (hf : f_X10_load u = some r) : Met l yX10_load (.code yX10_load cX10_load 2 (some .int) :: lw_g) rm_X10_load (k_Pre D G ad u sz [.ref (ad 0 0)]) (k_Qi D G ad r.1 r.2 sz) 0 0 (k_A ad sz) := by
  refine k_ofW (by decide +kernel) hI (Nat.le_of_ble_eq_true rfl) ?_
  intro p e s m args below meth c X hr hlk hU hS ls hl
  have hl : lv_has ls 2 [(0, .ref (ad 0 0))] := hl
  unfold f_X10_load at hf
  refine lv_aload_n X.1 X.2.1 dX10_load_0 rfl (lv_at hl 0 rfl) ?_
  refine k_get (v := .ref (ad 0 4)) X hU sh_0_0 fl_X10_19 rfl dX10_load_1 ?_
  refine lv_aload_n X.1 X.2.1 dX10_load_4 rfl (lv_at hl 0 rfl) ?_
  refine k_get (v := .ref (ad 1 0)) X hU sh_0_0 fl_X10_10 rfl dX10_load_5 ?_
  obtain ⟨r8, hr8, hf⟩ := k_bdE hf
  refine k_backi X hS (k_runV (As := [.ref (ad 1 0)]) (rest := []) X hS hU sh_0_4 (by decide) rfl vl_X10_93 (c_X6_readSetup X.2.2.2.2.2.2.1 hr8) rfl rfl rfl hl.1 ⟨Nat.le_of_ble_eq_true rfl, Nat.le_of_ble_eq_true rfl⟩ (Nat.le_of_ble_eq_true rfl) dX10_load_8 ⟨Nat.zero_le _, Nat.zero_le _⟩) (fun H locs hU hS => ?_)
  refine lv_istore_n (lv' := [(1, .int r8.2), (0, .ref (ad 0 0))]) X.1 X.2.1 dX10_load_11 rfl hl (by decide) rfl (fun ls hl => ?_)
  refine lv_aload_n X.1 X.2.1 dX10_load_12 rfl (lv_at hl 1 rfl) ?_
  refine k_get (v := .ref (ad 1 0)) X hU sh_0_0 fl_X10_10 rfl dX10_load_13 ?_
  obtain ⟨r16, hr16, hf⟩ := k_bdE hf
  refine k_backv X hS (k_runV (As := []) (rest := []) X hS hU sh_1_0 (by decide) rfl vl_X10_97 (c_X4_emptyText X.2.2.2.2.2.2.1 rfl hr16) rfl rfl rfl hl.1 ⟨Nat.le_of_ble_eq_true rfl, Nat.le_of_ble_eq_true rfl⟩ (Nat.le_of_ble_eq_true rfl) dX10_load_16 ⟨Nat.zero_le _, Nat.zero_le _⟩) (fun H locs hU hS => ?_)
  obtain ⟨u16, e16, hf⟩ := k_ltE hf
  rw [← e16] at hU
  refine lv_iload_n X.1 X.2.1 dX10_load_19 rfl (lv_at hl 0 rfl) ?_
  refine lv_if_ne (tgt := 25) X.1 X.2.1 dX10_load_20 (by decide) (fun c20 => ?_) (fun c20 => ?_)
  · replace hf := k_ifN hf c20
    refine lv_aload_n X.1 X.2.1 dX10_load_25 rfl (lv_at hl 1 rfl) ?_
    refine k_get (v := .ref (ad 10 0)) X hU sh_0_0 fl_X10_33 rfl dX10_load_26 ?_
    refine lv_aload_n X.1 X.2.1 dX10_load_29 rfl (lv_at hl 1 rfl) ?_
    refine k_get (v := .ref (ad 0 4)) X hU sh_0_0 fl_X10_19 rfl dX10_load_30 ?_
    refine k_get (v := .ref (ad 14 0)) X hU sh_0_4 fl_X10_100 rfl dX10_load_33 ?_
    obtain ⟨r36, hr36, hf⟩ := k_bdE hf
    refine k_backv X hS (k_runV (As := [.ref (ad 14 0)]) (rest := []) X hS hU (sW_0 k_isW_10) (by decide) rfl vl_X10_103 (c_X9_copyFrom X.2.2.2.2.2.2.1 k_isW_10 k_isW_14 (by decide) rfl rfl hr36) rfl rfl rfl hl.1 ⟨Nat.le_of_ble_eq_true rfl, Nat.le_of_ble_eq_true rfl⟩ (Nat.le_of_ble_eq_true rfl) dX10_load_36 ⟨Nat.zero_le _, Nat.zero_le _⟩) (fun H locs hU hS => ?_)
    obtain ⟨u36, e36, hf⟩ := k_ltE hf
    rw [← e36] at hU
    refine lv_aload_n X.1 X.2.1 dX10_load_39 rfl (lv_at hl 1 rfl) ?_
    refine k_get (v := .ref (ad 4 0)) X hU sh_0_0 fl_X10_43 rfl dX10_load_40 ?_
    obtain ⟨r43, hr43, hf⟩ := k_bdE hf
    refine k_backv X hS (k_runV (As := []) (rest := []) X hS hU sh_4_0 (by decide) rfl vl_X10_107 (c_X3_forget X.2.2.2.2.2.2.1 hr43) rfl rfl rfl hl.1 ⟨Nat.le_of_ble_eq_true rfl, Nat.le_of_ble_eq_true rfl⟩ (Nat.le_of_ble_eq_true rfl) dX10_load_43 ⟨Nat.zero_le _, Nat.zero_le _⟩) (fun H locs hU hS => ?_)
    refine lv_aload_n X.1 X.2.1 dX10_load_46 rfl (lv_at hl 1 rfl) ?_
    refine k_get (v := .ref (ad 10 0)) X hU sh_0_0 fl_X10_33 rfl dX10_load_47 ?_
    obtain ⟨r50, hr50, hf⟩ := k_bdE hf
    refine k_backi X hS (k_runV (As := []) (rest := []) X hS hU (sW_0 k_isW_10) (by decide) rfl vl_X10_110 (c_X9_chuteCount X.2.2.2.2.2.2.1 k_isW_10 rfl hr50) rfl rfl rfl hl.1 ⟨Nat.le_of_ble_eq_true rfl, Nat.le_of_ble_eq_true rfl⟩ (Nat.le_of_ble_eq_true rfl) dX10_load_50 ⟨Nat.zero_le _, Nat.zero_le _⟩) (fun H locs hU hS => ?_)
    have hz := Option.some.inj hf
    subst hz
    exact k_iret (v := r50) X hU hS hr hlk rfl rfl dX10_load_53
  · replace hf := k_ifP hf c20
    refine lv_iconst (v := (-1)) X.1 X.2.1 dX10_load_23 (by decide) ?_
    have hz := Option.some.inj hf
    subst hz
    exact k_iret (v := (-1)) X hU hS hr hlk rfl rfl dX10_load_24
def rm_X5_takeKind : Room := { frames := 6, cells := 0, slots := 0, locals := 144 }
set_option maxRecDepth 100000 in
set_option maxHeartbeats 4000000 in
theorem c_X5_takeKind {l : Launch} {D : va_G} {G : Nat → ClassId} {ad : Nat → Nat → Nat} {u : k_U} (hI : k_ok ad) {sz : Nat} {r : (k_U × Int32)} (hf : f_X5_takeKind u = some r) : Met l yX5_takeKind (.code yX5_takeKind cX5_takeKind 2 (some .int) :: lw_g) rm_X5_takeKind (k_Pre D G ad u sz [.ref (ad 2 0), .ref (ad 1 0)]) (k_Qi D G ad r.1 r.2 sz) 0 0 (k_A ad sz) := by
  refine k_ofW (by decide +kernel) hI (Nat.le_of_ble_eq_true rfl) ?_
  intro p e s m args below meth c X hr hlk hU hS ls hl
  have hl : lv_has ls 2 [(0, .ref (ad 2 0)), (1, .ref (ad 1 0))] := hl
  unfold f_X5_takeKind at hf
  refine lv_aload_n X.1 X.2.1 dX5_takeKind_0 rfl (lv_at hl 1 rfl) ?_
  refine k_ldcS (i := 11) (tx := "tick") X rfl dX5_takeKind_1 ?_
  obtain ⟨r3, hr3, hf⟩ := k_bdE hf
  refine k_backi X hS (k_runV (As := [.ref (ad 30 11)]) (rest := []) X hS hU sh_1_0 (by decide) rfl vl_X5_55 (c_X4_skipWord X.2.2.2.2.2.2.1 rfl (by decide) hr3) rfl rfl rfl hl.1 ⟨Nat.le_of_ble_eq_true rfl, Nat.le_of_ble_eq_true rfl⟩ (Nat.le_of_ble_eq_true rfl) dX5_takeKind_3 ⟨Nat.zero_le _, Nat.zero_le _⟩) (fun H locs hU hS => ?_)
  obtain ⟨u3, e3, hf⟩ := k_ltE hf
  rw [← e3] at hU
  refine lv_if_eq (tgt := 11) X.1 X.2.1 dX5_takeKind_6 (by decide) (fun c6 => ?_) (fun c6 => ?_)
  · replace hf := k_ifP hf c6
    refine lv_aload_n X.1 X.2.1 dX5_takeKind_11 rfl (lv_at hl 1 rfl) ?_
    refine k_ldcS (i := 12) (tx := "fall") X rfl dX5_takeKind_12 ?_
    obtain ⟨r14, hr14, hf⟩ := k_bdE hf
    refine k_backi X hS (k_runV (As := [.ref (ad 30 12)]) (rest := []) X hS hU sh_1_0 (by decide) rfl vl_X5_55 (c_X4_skipWord X.2.2.2.2.2.2.1 rfl (by decide) hr14) rfl rfl rfl hl.1 ⟨Nat.le_of_ble_eq_true rfl, Nat.le_of_ble_eq_true rfl⟩ (Nat.le_of_ble_eq_true rfl) dX5_takeKind_14 ⟨Nat.zero_le _, Nat.zero_le _⟩) (fun H locs hU hS => ?_)
    obtain ⟨u14, e14, hf⟩ := k_ltE hf
    rw [← e14] at hU
    refine lv_if_eq (tgt := 22) X.1 X.2.1 dX5_takeKind_17 (by decide) (fun c17 => ?_) (fun c17 => ?_)
    · replace hf := k_ifP hf c17
      refine lv_aload_n X.1 X.2.1 dX5_takeKind_22 rfl (lv_at hl 1 rfl) ?_
      refine k_ldcS (i := 13) (tx := "open") X rfl dX5_takeKind_23 ?_
      obtain ⟨r25, hr25, hf⟩ := k_bdE hf
      refine k_backi X hS (k_runV (As := [.ref (ad 30 13)]) (rest := []) X hS hU sh_1_0 (by decide) rfl vl_X5_55 (c_X4_skipWord X.2.2.2.2.2.2.1 rfl (by decide) hr25) rfl rfl rfl hl.1 ⟨Nat.le_of_ble_eq_true rfl, Nat.le_of_ble_eq_true rfl⟩ (Nat.le_of_ble_eq_true rfl) dX5_takeKind_25 ⟨Nat.zero_le _, Nat.zero_le _⟩) (fun H locs hU hS => ?_)
      obtain ⟨u25, e25, hf⟩ := k_ltE hf
      rw [← e25] at hU
      refine lv_if_eq (tgt := 33) X.1 X.2.1 dX5_takeKind_28 (by decide) (fun c28 => ?_) (fun c28 => ?_)
      · replace hf := k_ifP hf c28
        refine lv_aload_n X.1 X.2.1 dX5_takeKind_33 rfl (lv_at hl 1 rfl) ?_
        refine k_ldcS (i := 14) (tx := "reserve") X rfl dX5_takeKind_34 ?_
        obtain ⟨r36, hr36, hf⟩ := k_bdE hf
        refine k_backi X hS (k_runV (As := [.ref (ad 30 14)]) (rest := []) X hS hU sh_1_0 (by decide) rfl vl_X5_55 (c_X4_skipWord X.2.2.2.2.2.2.1 rfl (by decide) hr36) rfl rfl rfl hl.1 ⟨Nat.le_of_ble_eq_true rfl, Nat.le_of_ble_eq_true rfl⟩ (Nat.le_of_ble_eq_true rfl) dX5_takeKind_36 ⟨Nat.zero_le _, Nat.zero_le _⟩) (fun H locs hU hS => ?_)
        obtain ⟨u36, e36, hf⟩ := k_ltE hf
        rw [← e36] at hU
        refine lv_if_eq (tgt := 44) X.1 X.2.1 dX5_takeKind_39 (by decide) (fun c39 => ?_) (fun c39 => ?_)
        · replace hf := k_ifP hf c39
          refine lv_aload_n X.1 X.2.1 dX5_takeKind_44 rfl (lv_at hl 1 rfl) ?_
          refine k_ldcS (i := 15) (tx := "cut") X rfl dX5_takeKind_45 ?_
          obtain ⟨r47, hr47, hf⟩ := k_bdE hf
          refine k_backi X hS (k_runV (As := [.ref (ad 30 15)]) (rest := []) X hS hU sh_1_0 (by decide) rfl vl_X5_55 (c_X4_skipWord X.2.2.2.2.2.2.1 rfl (by decide) hr47) rfl rfl rfl hl.1 ⟨Nat.le_of_ble_eq_true rfl, Nat.le_of_ble_eq_true rfl⟩ (Nat.le_of_ble_eq_true rfl) dX5_takeKind_47 ⟨Nat.zero_le _, Nat.zero_le _⟩) (fun H locs hU hS => ?_)
          obtain ⟨u47, e47, hf⟩ := k_ltE hf
          rw [← e47] at hU
          refine lv_if_eq (tgt := 55) X.1 X.2.1 dX5_takeKind_50 (by decide) (fun c50 => ?_) (fun c50 => ?_)
          · replace hf := k_ifP hf c50
            refine lv_aload_n X.1 X.2.1 dX5_takeKind_55 rfl (lv_at hl 1 rfl) ?_
            refine k_ldcS (i := 16) (tx := "steer") X rfl dX5_takeKind_56 ?_
            obtain ⟨r58, hr58, hf⟩ := k_bdE hf
            refine k_backi X hS (k_runV (As := [.ref (ad 30 16)]) (rest := []) X hS hU sh_1_0 (by decide) rfl vl_X5_55 (c_X4_skipWord X.2.2.2.2.2.2.1 rfl (by decide) hr58) rfl rfl rfl hl.1 ⟨Nat.le_of_ble_eq_true rfl, Nat.le_of_ble_eq_true rfl⟩ (Nat.le_of_ble_eq_true rfl) dX5_takeKind_58 ⟨Nat.zero_le _, Nat.zero_le _⟩) (fun H locs hU hS => ?_)
            obtain ⟨u58, e58, hf⟩ := k_ltE hf
            rw [← e58] at hU
            refine lv_if_eq (tgt := 66) X.1 X.2.1 dX5_takeKind_61 (by decide) (fun c61 => ?_) (fun c61 => ?_)
            · replace hf := k_ifP hf c61
              refine lv_aload_n X.1 X.2.1 dX5_takeKind_66 rfl (lv_at hl 1 rfl) ?_
              refine lv_iconst (v := 1) X.1 X.2.1 dX5_takeKind_67 (by decide) ?_
              obtain ⟨r68, hr68, hf⟩ := k_bdE hf
              refine k_backv X hS (k_runV (As := [.int 1]) (rest := []) X hS hU sh_1_0 (by decide) rfl vl_X5_69 (c_X4_failHere X.2.2.2.2.2.2.1 rfl hr68) rfl rfl rfl hl.1 ⟨Nat.le_of_ble_eq_true rfl, Nat.le_of_ble_eq_true rfl⟩ (Nat.le_of_ble_eq_true rfl) dX5_takeKind_68 ⟨Nat.zero_le _, Nat.zero_le _⟩) (fun H locs hU hS => ?_)
              obtain ⟨u68, e68, hf⟩ := k_ltE hf
              rw [← e68] at hU
              refine lv_iconst (v := (-1)) X.1 X.2.1 dX5_takeKind_71 (by decide) ?_
              have hz := Option.some.inj hf
              subst hz
              exact k_iret (v := (-1)) X hU hS hr hlk rfl rfl dX5_takeKind_72
            · replace hf := k_ifN hf c61
              refine lv_iconst (v := 5) X.1 X.2.1 dX5_takeKind_64 (by decide) ?_
              have hz := Option.some.inj hf
              subst hz
              exact k_iret (v := 5) X hU hS hr hlk rfl rfl dX5_takeKind_65
          · replace hf := k_ifN hf c50
            refine lv_iconst (v := 4) X.1 X.2.1 dX5_takeKind_53 (by decide) ?_
            have hz := Option.some.inj hf
            subst hz
            exact k_iret (v := 4) X hU hS hr hlk rfl rfl dX5_takeKind_54
        · replace hf := k_ifN hf c39
          refine lv_iconst (v := 3) X.1 X.2.1 dX5_takeKind_42 (by decide) ?_
          have hz := Option.some.inj hf
          subst hz
          exact k_iret (v := 3) X hU hS hr hlk rfl rfl dX5_takeKind_43
      · replace hf := k_ifN hf c28
        refine lv_iconst (v := 2) X.1 X.2.1 dX5_takeKind_31 (by decide) ?_
        have hz := Option.some.inj hf
        subst hz
        exact k_iret (v := 2) X hU hS hr hlk rfl rfl dX5_takeKind_32
    · replace hf := k_ifN hf c17
      refine lv_iconst (v := 1) X.1 X.2.1 dX5_takeKind_20 (by decide) ?_
      have hz := Option.some.inj hf
      subst hz
      exact k_iret (v := 1) X hU hS hr hlk rfl rfl dX5_takeKind_21
  · replace hf := k_ifN hf c6
    refine lv_iconst (v := 0) X.1 X.2.1 dX5_takeKind_9 (by decide) ?_
    have hz := Option.some.inj hf
    subst hz
    exact k_iret (v := 0) X hU hS hr hlk rfl rfl dX5_takeKind_10
def rm_X5_takeArgument : Room := { frames := 3, cells := 0, slots := 0, locals := 68 }
set_option maxRecDepth 100000 in
set_option maxHeartbeats 4000000 in
theorem c_X5_takeArgument {l : Launch} {D : va_G} {G : Nat → ClassId} {ad : Nat → Nat → Nat} {u : k_U} (hI : k_ok ad) {a2 : Int32} {a3 : Int32} {a4 : Int32} {sz : Nat} {r : (k_U × Int32)} (hf : f_X5_takeArgument u a2 a3 a4 = some r) : Met l yX5_takeArgument (.code yX5_takeArgument cX5_takeArgument 5 (some .int) :: lw_g) rm_X5_takeArgument (k_Pre D G ad u sz [.ref (ad 2 0), .ref (ad 1 0), .int a2, .int a3, .int a4]) (k_Qi D G ad r.1 r.2 sz) 0 0 (k_A ad sz) := by
  refine k_ofW (by decide +kernel) hI (Nat.le_of_ble_eq_true rfl) ?_
  intro p e s m args below meth c X hr hlk hU hS ls hl
  have hl : lv_has ls 5 [(0, .ref (ad 2 0)), (1, .ref (ad 1 0)), (2, .int a2), (3, .int a3), (4, .int a4)] := hl
  unfold f_X5_takeArgument at hf
  refine lv_iload_n X.1 X.2.1 dX5_takeArgument_0 rfl (lv_at hl 2 rfl) ?_
  by_cases c1_0 : a2 = 0
  · replace hf := k_ifP hf c1_0
    refine lv_tableIn (x := a2) (off := 39) (tgt := 40) X.1 X.2.1 dX5_takeArgument_1 (by rw [c1_0]; decide) (by rw [c1_0]; decide) (by rw [c1_0]; rfl) (by decide) ?_
    refine lv_aload_n X.1 X.2.1 dX5_takeArgument_40 rfl (lv_at hl 1 rfl) ?_
    refine lv_iconst (v := 1) X.1 X.2.1 dX5_takeArgument_41 (by decide) ?_
    refine lv_sipush (v := 200) X.1 X.2.1 dX5_takeArgument_42 (by decide) ?_
    obtain ⟨r45, hr45, hf⟩ := k_bdE hf
    refine k_backi X hS (k_runV (As := [.int 1, .int 200]) (rest := []) X hS hU sh_1_0 (by decide) rfl vl_X5_72 (c_X4_takeNumber X.2.2.2.2.2.2.1 rfl hr45) rfl rfl rfl hl.1 ⟨Nat.le_of_ble_eq_true rfl, Nat.le_of_ble_eq_true rfl⟩ (Nat.le_of_ble_eq_true rfl) dX5_takeArgument_45 ⟨Nat.zero_le _, Nat.zero_le _⟩) (fun H locs hU hS => ?_)
    obtain ⟨u45, e45, hf⟩ := k_ltE hf
    rw [← e45] at hU
    have hz := Option.some.inj hf
    subst hz
    exact k_iret (v := r45.2) X hU hS hr hlk rfl rfl dX5_takeArgument_48
  replace hf := k_ifN hf c1_0
  by_cases c1_1 : a2 = 1
  · replace hf := k_ifP hf c1_1
    refine lv_tableIn (x := a2) (off := 48) (tgt := 49) X.1 X.2.1 dX5_takeArgument_1 (by rw [c1_1]; decide) (by rw [c1_1]; decide) (by rw [c1_1]; rfl) (by decide) ?_
    refine lv_aload_n X.1 X.2.1 dX5_takeArgument_49 rfl (lv_at hl 1 rfl) ?_
    refine lv_iconst (v := 0) X.1 X.2.1 dX5_takeArgument_50 (by decide) ?_
    refine lv_sipush (v := 30000) X.1 X.2.1 dX5_takeArgument_51 (by decide) ?_
    obtain ⟨r54, hr54, hf⟩ := k_bdE hf
    refine k_backi X hS (k_runV (As := [.int 0, .int 30000]) (rest := []) X hS hU sh_1_0 (by decide) rfl vl_X5_72 (c_X4_takeNumber X.2.2.2.2.2.2.1 rfl hr54) rfl rfl rfl hl.1 ⟨Nat.le_of_ble_eq_true rfl, Nat.le_of_ble_eq_true rfl⟩ (Nat.le_of_ble_eq_true rfl) dX5_takeArgument_54 ⟨Nat.zero_le _, Nat.zero_le _⟩) (fun H locs hU hS => ?_)
    obtain ⟨u54, e54, hf⟩ := k_ltE hf
    rw [← e54] at hU
    have hz := Option.some.inj hf
    subst hz
    exact k_iret (v := r54.2) X hU hS hr hlk rfl rfl dX5_takeArgument_57
  replace hf := k_ifN hf c1_1
  by_cases c1_2 : a2 = 2
  · replace hf := k_ifP hf c1_2
    refine lv_tableIn (x := a2) (off := 57) (tgt := 58) X.1 X.2.1 dX5_takeArgument_1 (by rw [c1_2]; decide) (by rw [c1_2]; decide) (by rw [c1_2]; rfl) (by decide) ?_
    refine lv_aload_n X.1 X.2.1 dX5_takeArgument_58 rfl (lv_at hl 1 rfl) ?_
    refine lv_iconst (v := 0) X.1 X.2.1 dX5_takeArgument_59 (by decide) ?_
    refine lv_iload_n X.1 X.2.1 dX5_takeArgument_60 rfl (lv_at hl 3 rfl) ?_
    refine lv_iconst (v := 1) X.1 X.2.1 dX5_takeArgument_61 (by decide) ?_
    refine lv_isub X.1 X.2.1 dX5_takeArgument_62 ?_
    obtain ⟨r63, hr63, hf⟩ := k_bdE hf
    refine k_backi X hS (k_runV (As := [.int 0, .int (a3 - 1)]) (rest := []) X hS hU sh_1_0 (by decide) rfl vl_X5_72 (c_X4_takeNumber X.2.2.2.2.2.2.1 rfl hr63) rfl rfl rfl hl.1 ⟨Nat.le_of_ble_eq_true rfl, Nat.le_of_ble_eq_true rfl⟩ (Nat.le_of_ble_eq_true rfl) dX5_takeArgument_63 ⟨Nat.zero_le _, Nat.zero_le _⟩) (fun H locs hU hS => ?_)
    obtain ⟨u63, e63, hf⟩ := k_ltE hf
    rw [← e63] at hU
    have hz := Option.some.inj hf
    subst hz
    exact k_iret (v := r63.2) X hU hS hr hlk rfl rfl dX5_takeArgument_66
  replace hf := k_ifN hf c1_2
  by_cases c1_3 : a2 = 3
  · replace hf := k_ifP hf c1_3
    refine lv_tableIn (x := a2) (off := 83) (tgt := 84) X.1 X.2.1 dX5_takeArgument_1 (by rw [c1_3]; decide) (by rw [c1_3]; decide) (by rw [c1_3]; rfl) (by decide) ?_
    refine lv_iconst (v := 0) X.1 X.2.1 dX5_takeArgument_84 (by decide) ?_
    have hz := Option.some.inj hf
    subst hz
    exact k_iret (v := 0) X hU hS hr hlk rfl rfl dX5_takeArgument_85
  replace hf := k_ifN hf c1_3
  by_cases c1_4 : a2 = 4
  · replace hf := k_ifP hf c1_4
    refine lv_tableIn (x := a2) (off := 66) (tgt := 67) X.1 X.2.1 dX5_takeArgument_1 (by rw [c1_4]; decide) (by rw [c1_4]; decide) (by rw [c1_4]; rfl) (by decide) ?_
    refine lv_aload_n X.1 X.2.1 dX5_takeArgument_67 rfl (lv_at hl 1 rfl) ?_
    refine lv_iconst (v := 0) X.1 X.2.1 dX5_takeArgument_68 (by decide) ?_
    refine lv_iload X.1 X.2.1 dX5_takeArgument_69 (lv_at hl 4 rfl) ?_
    refine lv_iconst (v := 1) X.1 X.2.1 dX5_takeArgument_71 (by decide) ?_
    refine lv_isub X.1 X.2.1 dX5_takeArgument_72 ?_
    obtain ⟨r73, hr73, hf⟩ := k_bdE hf
    refine k_backi X hS (k_runV (As := [.int 0, .int (a4 - 1)]) (rest := []) X hS hU sh_1_0 (by decide) rfl vl_X5_72 (c_X4_takeNumber X.2.2.2.2.2.2.1 rfl hr73) rfl rfl rfl hl.1 ⟨Nat.le_of_ble_eq_true rfl, Nat.le_of_ble_eq_true rfl⟩ (Nat.le_of_ble_eq_true rfl) dX5_takeArgument_73 ⟨Nat.zero_le _, Nat.zero_le _⟩) (fun H locs hU hS => ?_)
    obtain ⟨u73, e73, hf⟩ := k_ltE hf
    rw [← e73] at hU
    have hz := Option.some.inj hf
    subst hz
    exact k_iret (v := r73.2) X hU hS hr hlk rfl rfl dX5_takeArgument_76
  replace hf := k_ifN hf c1_4
  by_cases c1_5 : a2 = 5
  · replace hf := k_ifP hf c1_5
    refine lv_tableIn (x := a2) (off := 76) (tgt := 77) X.1 X.2.1 dX5_takeArgument_1 (by rw [c1_5]; decide) (by rw [c1_5]; decide) (by rw [c1_5]; rfl) (by decide) ?_
    refine lv_aload_n X.1 X.2.1 dX5_takeArgument_77 rfl (lv_at hl 1 rfl) ?_
    refine lv_bipush (v := 9) X.1 X.2.1 dX5_takeArgument_78 (by decide) ?_
    obtain ⟨r80, hr80, hf⟩ := k_bdE hf
    refine k_backi X hS (k_runV (As := [.int 9]) (rest := []) X hS hU sh_1_0 (by decide) rfl vl_X5_76 (c_X4_takeSigned X.2.2.2.2.2.2.1 rfl hr80) rfl rfl rfl hl.1 ⟨Nat.le_of_ble_eq_true rfl, Nat.le_of_ble_eq_true rfl⟩ (Nat.le_of_ble_eq_true rfl) dX5_takeArgument_80 ⟨Nat.zero_le _, Nat.zero_le _⟩) (fun H locs hU hS => ?_)
    obtain ⟨u80, e80, hf⟩ := k_ltE hf
    rw [← e80] at hU
    have hz := Option.some.inj hf
    subst hz
    exact k_iret (v := r80.2) X hU hS hr hlk rfl rfl dX5_takeArgument_83
  replace hf := k_ifN hf c1_5
  have ho1 : (a2).toInt < 0 ∨ 5 < (a2).toInt := by
    have g0 := k_tne (n := 0) (z := 0) c1_0 (by decide)
    have g1 := k_tne (n := 1) (z := 1) c1_1 (by decide)
    have g2 := k_tne (n := 2) (z := 2) c1_2 (by decide)
    have g3 := k_tne (n := 3) (z := 3) c1_3 (by decide)
    have g4 := k_tne (n := 4) (z := 4) c1_4 (by decide)
    have g5 := k_tne (n := 5) (z := 5) c1_5 (by decide)
    omega
  refine lv_tableOut (x := a2) (tgt := 84) X.1 X.2.1 dX5_takeArgument_1 ho1 (by decide) ?_
  refine lv_iconst (v := 0) X.1 X.2.1 dX5_takeArgument_84 (by decide) ?_
  have hz := Option.some.inj hf
  subst hz
  exact k_iret (v := 0) X hU hS hr hlk rfl rfl dX5_takeArgument_85
def rm_X5_readCommand : Room := { frames := 7, cells := 0, slots := 0, locals := 165 }
set_option maxRecDepth 100000 in
set_option maxHeartbeats 4000000 in
theorem c_X5_readCommand {l : Launch} {D : va_G} {G : Nat → ClassId} {ad : Nat → Nat → Nat} {u : k_U} (hI : k_ok ad) {a2 : Int32} {a3 : Int32} {sz : Nat} {r : k_U} (hf : f_X5_readCommand u a2 a3 = some r) : Met l yX5_readCommand (.code yX5_readCommand cX5_readCommand 6 none :: lw_g) rm_X5_readCommand (k_Pre D G ad u sz [.ref (ad 2 0), .ref (ad 1 0), .int a2, .int a3]) (k_Qv D G ad r sz) 0 0 (k_A ad sz) := by
  refine k_ofW (by decide +kernel) hI (Nat.le_of_ble_eq_true rfl) ?_
  intro p e s m args below meth c X hr hlk hU hS ls hl
  have hl : lv_has ls 6 [(0, .ref (ad 2 0)), (1, .ref (ad 1 0)), (2, .int a2), (3, .int a3)] := hl
  have J21 : ∀ (H : Heap) (locs : List Loc) (ls : Array Slot) (u : k_U) (a2 : Int32) (a3 : Int32) (a4 : Int32), k_Uv D G ad u H → va_S (k_A ad sz) s.heap H locs → lv_has ls 6 [(0, .ref (ad 2 0)), (1, .ref (ad 1 0)), (2, .int a2), (3, .int a3), (4, .int a4)] → f_X5_readCommand_21 u a2 a3 a4 = some r → W p l e rm_X5_readCommand s m args below meth c H locs 0 0 (MQ below (k_Qv D G ad r sz) args s 0 0 (k_A ad sz)) (F0 m 21 ls []) := by
    intro H locs ls u a2 a3 a4 hU hS hl hf
    unfold f_X5_readCommand_21 at hf
    refine lv_aload_n X.1 X.2.1 dX5_readCommand_21 rfl (lv_at hl 0 rfl) ?_
    refine lv_aload_n X.1 X.2.1 dX5_readCommand_22 rfl (lv_at hl 1 rfl) ?_
    refine lv_iload X.1 X.2.1 dX5_readCommand_23 (lv_at hl 4 rfl) ?_
    refine lv_iload_n X.1 X.2.1 dX5_readCommand_25 rfl (lv_at hl 2 rfl) ?_
    refine lv_iload_n X.1 X.2.1 dX5_readCommand_26 rfl (lv_at hl 3 rfl) ?_
    obtain ⟨r27, hr27, hf⟩ := k_bdE hf
    refine k_backi X hS (k_runV (As := [.ref (ad 1 0), .int a4, .int a2, .int a3]) (rest := []) X hS hU sh_2_0 (by decide) rfl vl_X5_46 (c_X5_takeArgument X.2.2.2.2.2.2.1 hr27) rfl rfl rfl hl.1 ⟨Nat.le_of_ble_eq_true rfl, Nat.le_of_ble_eq_true rfl⟩ (Nat.le_of_ble_eq_true rfl) dX5_readCommand_27 ⟨Nat.zero_le _, Nat.zero_le _⟩) (fun H locs hU hS => ?_)
    refine lv_istore (lv' := [(5, .int r27.2), (0, .ref (ad 2 0)), (1, .ref (ad 1 0)), (2, .int a2), (3, .int a3), (4, .int a4)]) X.1 X.2.1 dX5_readCommand_30 hl (by decide) rfl (fun ls hl => ?_)
    refine lv_aload_n X.1 X.2.1 dX5_readCommand_32 rfl (lv_at hl 2 rfl) ?_
    obtain ⟨r33, hr33, hf⟩ := k_bdE hf
    refine k_backv X hS (k_runV (As := []) (rest := []) X hS hU sh_1_0 (by decide) rfl vl_X5_50 (c_X4_takeSemicolon X.2.2.2.2.2.2.1 rfl hr33) rfl rfl rfl hl.1 ⟨Nat.le_of_ble_eq_true rfl, Nat.le_of_ble_eq_true rfl⟩ (Nat.le_of_ble_eq_true rfl) dX5_readCommand_33 ⟨Nat.zero_le _, Nat.zero_le _⟩) (fun H locs hU hS => ?_)
    obtain ⟨u33, e33, hf⟩ := k_ltE hf
    rw [← e33] at hU
    refine lv_aload_n X.1 X.2.1 dX5_readCommand_36 rfl (lv_at hl 2 rfl) ?_
    obtain ⟨r37, hr37, hf⟩ := k_bdE hf
    refine k_backi X hS (k_runV (As := []) (rest := []) X hS hU sh_1_0 (by decide) rfl vl_X5_35 (c_X4_hasFailed X.2.2.2.2.2.2.1 rfl hr37) rfl rfl rfl hl.1 ⟨Nat.le_of_ble_eq_true rfl, Nat.le_of_ble_eq_true rfl⟩ (Nat.le_of_ble_eq_true rfl) dX5_readCommand_37 ⟨Nat.zero_le _, Nat.zero_le _⟩) (fun H locs hU hS => ?_)
    refine lv_if_ne (tgt := 84) X.1 X.2.1 dX5_readCommand_40 (by decide) (fun c40 => ?_) (fun c40 => ?_)
    · replace hf := k_ifN hf c40
      have hz := Option.some.inj hf
      subst hz
      exact k_vret X hU hS hr hlk dX5_readCommand_84
    · replace hf := k_ifP hf c40
      refine lv_aload_n X.1 X.2.1 dX5_readCommand_43 rfl (lv_at hl 1 rfl) ?_
      refine k_get (v := .int (u33 2 0 2)) X hU sh_2_0 fl_X5_18 rfl dX5_readCommand_44 ?_
      refine lv_bipush (v := 40) X.1 X.2.1 dX5_readCommand_47 (by decide) ?_
      refine lv_icmp_ge (tgt := 84) X.1 X.2.1 dX5_readCommand_49 (by decide) (fun c49 => ?_) (fun c49 => ?_)
      · replace hf := k_ifP hf c49
        have hz := Option.some.inj hf
        subst hz
        exact k_vret X hU hS hr hlk dX5_readCommand_84
      · replace hf := k_ifN hf c49
        refine lv_aload_n X.1 X.2.1 dX5_readCommand_52 rfl (lv_at hl 1 rfl) ?_
        refine k_get (v := .ref (ad 2 1)) X hU sh_2_0 fl_X5_11 rfl dX5_readCommand_53 ?_
        refine lv_aload_n X.1 X.2.1 dX5_readCommand_56 rfl (lv_at hl 1 rfl) ?_
        refine k_get (v := .int (u33 2 0 2)) X hU sh_2_0 fl_X5_18 rfl dX5_readCommand_57 ?_
        refine lv_iload X.1 X.2.1 dX5_readCommand_60 (lv_at hl 5 rfl) ?_
        obtain ⟨hi62, hf⟩ := k_ckE hf
        obtain ⟨u62, e62, hf⟩ := k_ltE hf
        refine k_ist (j0 := (u33 2 0 2).toNatClampNeg) X hU hS sh_2_1 rfl (k_vin (n := 40) hi62 (by decide)) rfl dX5_readCommand_62 (fun H locs hU hS => ?_)
        rw [← e62] at hU
        refine lv_aload_n X.1 X.2.1 dX5_readCommand_63 rfl (lv_at hl 1 rfl) ?_
        refine k_get (v := .ref (ad 2 2)) X hU sh_2_0 fl_X5_15 rfl dX5_readCommand_64 ?_
        refine lv_aload_n X.1 X.2.1 dX5_readCommand_67 rfl (lv_at hl 1 rfl) ?_
        refine k_get (v := .int (u62 2 0 2)) X hU sh_2_0 fl_X5_18 rfl dX5_readCommand_68 ?_
        refine lv_iload X.1 X.2.1 dX5_readCommand_71 (lv_at hl 0 rfl) ?_
        obtain ⟨hi73, hf⟩ := k_ckE hf
        obtain ⟨u73, e73, hf⟩ := k_ltE hf
        refine k_ist (j0 := (u62 2 0 2).toNatClampNeg) X hU hS sh_2_2 rfl (k_vin (n := 40) hi73 (by decide)) rfl dX5_readCommand_73 (fun H locs hU hS => ?_)
        rw [← e73] at hU
        refine lv_aload_n X.1 X.2.1 dX5_readCommand_74 rfl (lv_at hl 1 rfl) ?_
        refine lv_dup X.1 X.2.1 dX5_readCommand_75 rfl ?_
        refine k_get (v := .int (u73 2 0 2)) X hU sh_2_0 fl_X5_18 rfl dX5_readCommand_76 ?_
        refine lv_iconst (v := 1) X.1 X.2.1 dX5_readCommand_79 (by decide) ?_
        refine lv_iadd X.1 X.2.1 dX5_readCommand_80 ?_
        obtain ⟨u81, e81, hf⟩ := k_ltE hf
        refine k_put X hU hS sh_2_0 fp_X5_18 rfl rfl rfl rfl dX5_readCommand_81 (fun H locs hU hS => ?_)
        rw [← e81] at hU
        have hz := Option.some.inj hf
        subst hz
        exact k_vret X hU hS hr hlk dX5_readCommand_84
  unfold f_X5_readCommand at hf
  refine lv_aload_n X.1 X.2.1 dX5_readCommand_0 rfl (lv_at hl 0 rfl) ?_
  refine lv_aload_n X.1 X.2.1 dX5_readCommand_1 rfl (lv_at hl 1 rfl) ?_
  obtain ⟨r2, hr2, hf⟩ := k_bdE hf
  refine k_backi X hS (k_runV (As := [.ref (ad 1 0)]) (rest := []) X hS hU sh_2_0 (by decide) rfl vl_X5_38 (c_X5_takeKind X.2.2.2.2.2.2.1 hr2) rfl rfl rfl hl.1 ⟨Nat.le_of_ble_eq_true rfl, Nat.le_of_ble_eq_true rfl⟩ (Nat.le_of_ble_eq_true rfl) dX5_readCommand_2 ⟨Nat.zero_le _, Nat.zero_le _⟩) (fun H locs hU hS => ?_)
  refine lv_istore (lv' := [(4, .int r2.2), (0, .ref (ad 2 0)), (1, .ref (ad 1 0)), (2, .int a2), (3, .int a3)]) X.1 X.2.1 dX5_readCommand_5 hl (by decide) rfl (fun ls hl => ?_)
  refine lv_aload_n X.1 X.2.1 dX5_readCommand_7 rfl (lv_at hl 1 rfl) ?_
  refine k_get (v := .int (r2.1 2 0 2)) X hU sh_2_0 fl_X5_18 rfl dX5_readCommand_8 ?_
  refine lv_bipush (v := 40) X.1 X.2.1 dX5_readCommand_11 (by decide) ?_
  refine lv_icmp_lt (tgt := 21) X.1 X.2.1 dX5_readCommand_13 (by decide) (fun c13 => ?_) (fun c13 => ?_)
  · replace hf := k_ifP hf c13
    exact J21 _ _ _ r2.1 a2 a3 r2.2 hU hS (lv_sub hl [1, 2, 3, 4, 0] rfl) hf
  · replace hf := k_ifN hf c13
    refine lv_aload_n X.1 X.2.1 dX5_readCommand_16 rfl (lv_at hl 2 rfl) ?_
    refine lv_iconst (v := 4) X.1 X.2.1 dX5_readCommand_17 (by decide) ?_
    obtain ⟨r18, hr18, hf⟩ := k_bdE hf
    refine k_backv X hS (k_runV (As := [.int 4]) (rest := []) X hS hU sh_1_0 (by decide) rfl vl_X5_42 (c_X4_failTaken X.2.2.2.2.2.2.1 rfl hr18) rfl rfl rfl hl.1 ⟨Nat.le_of_ble_eq_true rfl, Nat.le_of_ble_eq_true rfl⟩ (Nat.le_of_ble_eq_true rfl) dX5_readCommand_18 ⟨Nat.zero_le _, Nat.zero_le _⟩) (fun H locs hU hS => ?_)
    obtain ⟨u18, e18, hf⟩ := k_ltE hf
    rw [← e18] at hU
    exact J21 _ _ _ u18 a2 a3 r2.2 hU hS (lv_sub hl [1, 2, 3, 4, 0] rfl) hf
def rm_X5_readCommands : Room := { frames := 8, cells := 0, slots := 0, locals := 190 }
set_option maxRecDepth 100000 in
set_option maxHeartbeats 4000000 in
theorem c_X5_readCommands {l : Launch} {D : va_G} {G : Nat → ClassId} {ad : Nat → Nat → Nat} {u : k_U} (hI : k_ok ad) {a2 : Int32} {a3 : Int32} {sz : Nat} {r : (k_U × Int32)} (hf : f_X5_readCommands u a2 a3 = some r) : Met l yX5_readCommands (.code yX5_readCommands cX5_readCommands 5 (some .boolean) :: lw_g) rm_X5_readCommands (k_Pre D G ad u sz [.ref (ad 2 0), .ref (ad 1 0), .int a2, .int a3]) (k_Qi D G ad r.1 r.2 sz) 0 0 (k_A ad sz) := by
  refine k_ofW (by decide +kernel) hI (Nat.le_of_ble_eq_true rfl) ?_
  intro p e s m args below meth c X hr hlk hU hS ls hl
  have hl : lv_has ls 5 [(0, .ref (ad 2 0)), (1, .ref (ad 1 0)), (2, .int a2), (3, .int a3)] := hl
  have J40 : ∀ (H : Heap) (locs : List Loc) (ls : Array Slot) (u : k_U), k_Uv D G ad u H → va_S (k_A ad sz) s.heap H locs → lv_has ls 5 [(1, .ref (ad 1 0))] → f_X5_readCommands_40 u a2 a3 = some r → W p l e rm_X5_readCommands s m args below meth c H locs 0 0 (MQ below (k_Qi D G ad r.1 r.2 sz) args s 0 0 (k_A ad sz)) (F0 m 40 ls []) := by
    intro H locs ls u hU hS hl hf
    unfold f_X5_readCommands_40 at hf
    refine lv_aload_n X.1 X.2.1 dX5_readCommands_40 rfl (lv_at hl 0 rfl) ?_
    obtain ⟨r41, hr41, hf⟩ := k_bdE hf
    refine k_backi X hS (k_runV (As := []) (rest := []) X hS hU sh_1_0 (by decide) rfl vl_X5_35 (c_X4_hasFailed X.2.2.2.2.2.2.1 rfl hr41) rfl rfl rfl hl.1 ⟨Nat.le_of_ble_eq_true rfl, Nat.le_of_ble_eq_true rfl⟩ (Nat.le_of_ble_eq_true rfl) dX5_readCommands_41 ⟨Nat.zero_le _, Nat.zero_le _⟩) (fun H locs hU hS => ?_)
    refine lv_if_ne (tgt := 51) X.1 X.2.1 dX5_readCommands_44 (by decide) (fun c44 => ?_) (fun c44 => ?_)
    · replace hf := k_ifN hf c44
      refine lv_iconst (v := 0) X.1 X.2.1 dX5_readCommands_51 (by decide) ?_
      have hz := Option.some.inj hf
      subst hz
      exact k_iret (v := 0) X hU hS hr hlk rfl rfl dX5_readCommands_52
    · replace hf := k_ifP hf c44
      refine lv_iconst (v := 1) X.1 X.2.1 dX5_readCommands_47 (by decide) ?_
      refine lv_goto (tgt := 52) X.1 X.2.1 dX5_readCommands_48 (by decide) ?_
      have hz := Option.some.inj hf
      subst hz
      exact k_iret (v := 1) X hU hS hr hlk rfl rfl dX5_readCommands_52
  have L12 : ∀ (n12 : Nat) (H : Heap) (locs : List Loc) (ls : Array Slot) (u : k_U) (a2 : Int32) (a3 : Int32) (a4 : Int32), k_Uv D G ad u H → va_S (k_A ad sz) s.heap H locs → lv_has ls 5 [(0, .ref (ad 2 0)), (1, .ref (ad 1 0)), (2, .int a2), (3, .int a3), (4, .int a4)] → f_X5_readCommands_12 n12 u a2 a3 a4 = some r → W p l e rm_X5_readCommands s m args below meth c H locs 0 0 (MQ below (k_Qi D G ad r.1 r.2 sz) args s 0 0 (k_A ad sz)) (F0 m 12 ls []) := by
    intro n12
    induction n12 with
    | zero =>
      intro H locs ls u a2 a3 a4 hU hS hl hf
      cases (show none = some r from hf)
    | succ n12 ih12 =>
      intro H locs ls u a2 a3 a4 hU hS hl hf
      replace hf : f_X5_readCommands_12_b (f_X5_readCommands_12 n12) u a2 a3 a4 = some r := hf
      unfold f_X5_readCommands_12_b at hf
      refine lv_iload X.1 X.2.1 dX5_readCommands_12 (lv_at hl 4 rfl) ?_
      refine lv_sipush (v := 600) X.1 X.2.1 dX5_readCommands_14 (by decide) ?_
      refine lv_icmp_ge (tgt := 40) X.1 X.2.1 dX5_readCommands_17 (by decide) (fun c17 => ?_) (fun c17 => ?_)
      · replace hf := k_ifP hf c17
        exact J40 _ _ _ u hU hS (lv_sub hl [1] rfl) hf
      · replace hf := k_ifN hf c17
        refine lv_aload_n X.1 X.2.1 dX5_readCommands_20 rfl (lv_at hl 1 rfl) ?_
        obtain ⟨r21, hr21, hf⟩ := k_bdE hf
        refine k_backi X hS (k_runV (As := []) (rest := []) X hS hU sh_1_0 (by decide) rfl vl_X5_27 (c_X4_hasMore X.2.2.2.2.2.2.1 rfl hr21) rfl rfl rfl hl.1 ⟨Nat.le_of_ble_eq_true rfl, Nat.le_of_ble_eq_true rfl⟩ (Nat.le_of_ble_eq_true rfl) dX5_readCommands_21 ⟨Nat.zero_le _, Nat.zero_le _⟩) (fun H locs hU hS => ?_)
        refine lv_if_eq (tgt := 40) X.1 X.2.1 dX5_readCommands_24 (by decide) (fun c24 => ?_) (fun c24 => ?_)
        · replace hf := k_ifP hf c24
          exact J40 _ _ _ u hU hS (lv_sub hl [1] rfl) hf
        · replace hf := k_ifN hf c24
          refine lv_aload_n X.1 X.2.1 dX5_readCommands_27 rfl (lv_at hl 0 rfl) ?_
          refine lv_aload_n X.1 X.2.1 dX5_readCommands_28 rfl (lv_at hl 1 rfl) ?_
          refine lv_iload_n X.1 X.2.1 dX5_readCommands_29 rfl (lv_at hl 2 rfl) ?_
          refine lv_iload_n X.1 X.2.1 dX5_readCommands_30 rfl (lv_at hl 3 rfl) ?_
          obtain ⟨r31, hr31, hf⟩ := k_bdE hf
          refine k_backv X hS (k_runV (As := [.ref (ad 1 0), .int a2, .int a3]) (rest := []) X hS hU sh_2_0 (by decide) rfl vl_X5_31 (c_X5_readCommand X.2.2.2.2.2.2.1 hr31) rfl rfl rfl hl.1 ⟨Nat.le_of_ble_eq_true rfl, Nat.le_of_ble_eq_true rfl⟩ (Nat.le_of_ble_eq_true rfl) dX5_readCommands_31 ⟨Nat.zero_le _, Nat.zero_le _⟩) (fun H locs hU hS => ?_)
          obtain ⟨x34, e34, hf⟩ := k_ltE hf
          refine lv_iinc (v := x34) (lv' := [(4, .int x34), (0, .ref (ad 2 0)), (1, .ref (ad 1 0)), (2, .int a2), (3, .int a3)]) X.1 X.2.1 dX5_readCommands_34 hl (k := 4) rfl (by rw [e34]; rfl) (by decide) rfl (fun ls hl => ?_)
          refine lv_goto (tgt := 12) X.1 X.2.1 dX5_readCommands_37 (by decide) ?_
          exact ih12 _ _ _ r31 a2 a3 x34 hU hS (lv_sub hl [1, 2, 3, 4, 0] rfl) hf
  unfold f_X5_readCommands at hf
  refine lv_aload_n X.1 X.2.1 dX5_readCommands_0 rfl (lv_at hl 0 rfl) ?_
  refine lv_iconst (v := 0) X.1 X.2.1 dX5_readCommands_1 (by decide) ?_
  obtain ⟨u2, e2, hf⟩ := k_ltE hf
  refine k_put X hU hS sh_2_0 fp_X5_18 rfl rfl rfl rfl dX5_readCommands_2 (fun H locs hU hS => ?_)
  rw [← e2] at hU
  refine lv_aload_n X.1 X.2.1 dX5_readCommands_5 rfl (lv_at hl 1 rfl) ?_
  obtain ⟨r6, hr6, hf⟩ := k_bdE hf
  refine k_backv X hS (k_runV (As := []) (rest := []) X hS hU sh_1_0 (by decide) rfl vl_X5_22 (c_X4_begin X.2.2.2.2.2.2.1 rfl hr6) rfl rfl rfl hl.1 ⟨Nat.le_of_ble_eq_true rfl, Nat.le_of_ble_eq_true rfl⟩ (Nat.le_of_ble_eq_true rfl) dX5_readCommands_6 ⟨Nat.zero_le _, Nat.zero_le _⟩) (fun H locs hU hS => ?_)
  obtain ⟨u6, e6, hf⟩ := k_ltE hf
  rw [← e6] at hU
  refine lv_iconst (v := 0) X.1 X.2.1 dX5_readCommands_9 (by decide) ?_
  refine lv_istore (lv' := [(4, .int 0), (0, .ref (ad 2 0)), (1, .ref (ad 1 0)), (2, .int a2), (3, .int a3)]) X.1 X.2.1 dX5_readCommands_10 hl (by decide) rfl (fun ls hl => ?_)
  exact L12 k_N _ _ _ u6 a2 a3 0 hU hS (lv_sub hl [1, 2, 3, 4, 0] rfl) hf
def rm_X9_hasLanded : Room := { frames := 0, cells := 0, slots := 0, locals := 0 }
set_option maxRecDepth 100000 in
set_option maxHeartbeats 4000000 in
theorem c_X9_hasLanded {l : Launch} {D : va_G} {G : Nat → ClassId} {ad : Nat → Nat → Nat} {u : k_U} (hI : k_ok ad) {k : Nat} (hk : k_isW k) {w : k_M} (hw : u k = w) {sz : Nat} {r : Int32} (hf : f_X9_hasLanded w = some r) : Met l yX9_hasLanded (.code yX9_hasLanded cX9_hasLanded 1 (some .boolean) :: lw_g) rm_X9_hasLanded (k_Pre D G ad u sz [.ref (ad k 0)]) (k_Qi D G ad u r sz) 0 0 (k_A ad sz) := by
  refine k_ofW (by decide +kernel) hI (Nat.le_of_ble_eq_true rfl) ?_
  intro p e s m args below meth c X hr hlk hU hS ls hl
  have hl : lv_has ls 1 [(0, .ref (ad k 0))] := hl
  have hU : k_Uv D G ad (k_uc u k w) s.heap := by rw [← hw, k_uc_id]; exact hU
  unfold f_X9_hasLanded at hf
  refine lv_aload_n X.1 X.2.1 dX9_hasLanded_0 rfl (lv_at hl 0 rfl) ?_
  refine k_getw (v := .int (w 0 0)) X hU (sW_0 hk) fl_X9_46 rfl dX9_hasLanded_1 ?_
  refine lv_if_ne (tgt := 11) X.1 X.2.1 dX9_hasLanded_4 (by decide) (fun c4 => ?_) (fun c4 => ?_)
  · replace hf := k_ifN hf c4
    refine lv_iconst (v := 0) X.1 X.2.1 dX9_hasLanded_11 (by decide) ?_
    rw [← hw, k_uc_id] at hU
    have hz := Option.some.inj hf
    subst hz
    exact k_iret (v := 0) X hU hS hr hlk rfl rfl dX9_hasLanded_12
  · replace hf := k_ifP hf c4
    refine lv_iconst (v := 1) X.1 X.2.1 dX9_hasLanded_7 (by decide) ?_
    refine lv_goto (tgt := 12) X.1 X.2.1 dX9_hasLanded_8 (by decide) ?_
    rw [← hw, k_uc_id] at hU
    have hz := Option.some.inj hf
    subst hz
    exact k_iret (v := 1) X hU hS hr hlk rfl rfl dX9_hasLanded_12
def rm_X3_remember : Room := { frames := 3, cells := 0, slots := 0, locals := 67 }
set_option maxRecDepth 100000 in
set_option maxHeartbeats 4000000 in
theorem c_X3_remember {l : Launch} {D : va_G} {G : Nat → ClassId} {ad : Nat → Nat → Nat} {u : k_U} (hI : k_ok ad) {sz : Nat} {r : k_U} (hf : f_X3_remember u = some r) : Met l yX3_remember (.code yX3_remember cX3_remember 2 none :: lw_g) rm_X3_remember (k_Pre D G ad u sz [.ref (ad 4 0), .ref (ad 10 0)]) (k_Qv D G ad r sz) 0 0 (k_A ad sz) := by
  refine k_ofW (by decide +kernel) hI (Nat.le_of_ble_eq_true rfl) ?_
  intro p e s m args below meth c X hr hlk hU hS ls hl
  have hl : lv_has ls 2 [(0, .ref (ad 4 0)), (1, .ref (ad 10 0))] := hl
  unfold f_X3_remember at hf
  refine lv_aload_n X.1 X.2.1 dX3_remember_0 rfl (lv_at hl 0 rfl) ?_
  refine k_get (v := .ref (ad 4 1)) X hU sh_4_0 fl_X3_11 rfl dX3_remember_1 ?_
  refine lv_aload_n X.1 X.2.1 dX3_remember_4 rfl (lv_at hl 0 rfl) ?_
  refine k_get (v := .int (u 4 0 1)) X hU sh_4_0 fl_X3_20 rfl dX3_remember_5 ?_
  obtain ⟨hi8, hf⟩ := k_ckE hf
  have hj8 := (k_vin (n := 8) hi8 (by decide))
  refine k_ald (C := "LayeredChute$World") (tag := 24) (t0 := 4) (z := ((15 + (u 4 0 1).toNatClampNeg), 0)) X hU ⟨by decide, by decide⟩ rfl sh_4_1 hj8 (k_rSt_at hj8) dX3_remember_8 ?_
  refine lv_aload_n X.1 X.2.1 dX3_remember_9 rfl (lv_at hl 1 rfl) ?_
  obtain ⟨r10, hr10, hf⟩ := k_bdE hf
  refine k_backv X hS (k_runV (As := [.ref (ad 10 0)]) (rest := []) X hS hU (sW_0 (k_isW_st (k_vlt hj8))) (by decide) rfl vl_X3_23 (c_X9_copyFrom X.2.2.2.2.2.2.1 (k_isW_st (k_vlt hj8)) k_isW_10 (by omega) rfl rfl hr10) rfl rfl rfl hl.1 ⟨Nat.le_of_ble_eq_true rfl, Nat.le_of_ble_eq_true rfl⟩ (Nat.le_of_ble_eq_true rfl) dX3_remember_10 ⟨Nat.zero_le _, Nat.zero_le _⟩) (fun H locs hU hS => ?_)
  obtain ⟨u10, e10, hf⟩ := k_ltE hf
  rw [← e10] at hU
  refine lv_aload_n X.1 X.2.1 dX3_remember_13 rfl (lv_at hl 0 rfl) ?_
  refine lv_aload_n X.1 X.2.1 dX3_remember_14 rfl (lv_at hl 0 rfl) ?_
  refine k_get (v := .int (u10 4 0 1)) X hU sh_4_0 fl_X3_20 rfl dX3_remember_15 ?_
  refine lv_iconst (v := 1) X.1 X.2.1 dX3_remember_18 (by decide) ?_
  refine lv_iadd X.1 X.2.1 dX3_remember_19 ?_
  refine lv_bipush (v := 8) X.1 X.2.1 dX3_remember_20 (by decide) ?_
  refine lv_irem X.1 X.2.1 dX3_remember_22 (by decide) ?_
  obtain ⟨u23, e23, hf⟩ := k_ltE hf
  refine k_put X hU hS sh_4_0 fp_X3_20 rfl rfl rfl rfl dX3_remember_23 (fun H locs hU hS => ?_)
  rw [← e23] at hU
  refine lv_aload_n X.1 X.2.1 dX3_remember_26 rfl (lv_at hl 0 rfl) ?_
  refine lv_aload_n X.1 X.2.1 dX3_remember_27 rfl (lv_at hl 0 rfl) ?_
  refine k_get (v := .int (u23 4 0 2)) X hU sh_4_0 fl_X3_16 rfl dX3_remember_28 ?_
  refine lv_iconst (v := 1) X.1 X.2.1 dX3_remember_31 (by decide) ?_
  refine lv_iadd X.1 X.2.1 dX3_remember_32 ?_
  refine lv_bipush (v := 8) X.1 X.2.1 dX3_remember_33 (by decide) ?_
  refine k_mini_r X (mX3_27) hl.1 (Nat.le_of_ble_eq_true rfl) (Nat.le_of_ble_eq_true rfl) ⟨Nat.zero_le _, Nat.zero_le _⟩ dX3_remember_35 ?_
  obtain ⟨u38, e38, hf⟩ := k_ltE hf
  refine k_put X hU hS sh_4_0 fp_X3_16 rfl rfl rfl rfl dX3_remember_38 (fun H locs hU hS => ?_)
  rw [← e38] at hU
  have hz := Option.some.inj hf
  subst hz
  exact k_vret X hU hS hr hlk dX3_remember_41
def rm_X10_beginAct : Room := { frames := 4, cells := 0, slots := 0, locals := 88 }
set_option maxRecDepth 100000 in
set_option maxHeartbeats 4000000 in
theorem c_X10_beginAct {l : Launch} {D : va_G} {G : Nat → ClassId} {ad : Nat → Nat → Nat} {u : k_U} (hI : k_ok ad) {sz : Nat} {r : k_U} (hf : f_X10_beginAct u = some r) : Met l yX10_beginAct (.code yX10_beginAct cX10_beginAct 1 none :: lw_g) rm_X10_beginAct (k_Pre D G ad u sz [.ref (ad 0 0)]) (k_Qv D G ad r sz) 0 0 (k_A ad sz) := by
  refine k_ofW (by decide +kernel) hI (Nat.le_of_ble_eq_true rfl) ?_
  intro p e s m args below meth c X hr hlk hU hS ls hl
  have hl : lv_has ls 1 [(0, .ref (ad 0 0))] := hl
  unfold f_X10_beginAct at hf
  refine lv_aload_n X.1 X.2.1 dX10_beginAct_0 rfl (lv_at hl 0 rfl) ?_
  refine k_get (v := .ref (ad 0 3)) X hU sh_0_0 fl_X10_55 rfl dX10_beginAct_1 ?_
  refine lv_iconst (v := 0) X.1 X.2.1 dX10_beginAct_4 (by decide) ?_
  refine lv_dup2_11 X.1 X.2.1 dX10_beginAct_5 rfl rfl ?_
  refine k_ild (j0 := 0) X hU sh_0_3 (k_vin (N := 10) (by decide) (by decide)) (by decide) dX10_beginAct_6 ?_
  refine lv_iconst (v := 1) X.1 X.2.1 dX10_beginAct_7 (by decide) ?_
  refine lv_iadd X.1 X.2.1 dX10_beginAct_8 ?_
  obtain ⟨u9, e9, hf⟩ := k_ltE hf
  refine k_ist (j0 := 0) X hU hS sh_0_3 rfl (k_vin (N := 10) (by decide) (by decide)) (by decide) dX10_beginAct_9 (fun H locs hU hS => ?_)
  rw [← e9] at hU
  refine lv_aload_n X.1 X.2.1 dX10_beginAct_10 rfl (lv_at hl 0 rfl) ?_
  refine k_get (v := .ref (ad 4 0)) X hU sh_0_0 fl_X10_43 rfl dX10_beginAct_11 ?_
  refine lv_aload_n X.1 X.2.1 dX10_beginAct_14 rfl (lv_at hl 0 rfl) ?_
  refine k_get (v := .ref (ad 10 0)) X hU sh_0_0 fl_X10_33 rfl dX10_beginAct_15 ?_
  obtain ⟨r18, hr18, hf⟩ := k_bdE hf
  refine k_backv X hS (k_runV (As := [.ref (ad 10 0)]) (rest := []) X hS hU sh_4_0 (by decide) rfl vl_X10_446 (c_X3_remember X.2.2.2.2.2.2.1 hr18) rfl rfl rfl hl.1 ⟨Nat.le_of_ble_eq_true rfl, Nat.le_of_ble_eq_true rfl⟩ (Nat.le_of_ble_eq_true rfl) dX10_beginAct_18 ⟨Nat.zero_le _, Nat.zero_le _⟩) (fun H locs hU hS => ?_)
  have hz := Option.some.inj hf
  subst hz
  exact k_vret X hU hS hr hlk dX10_beginAct_21
def rm_X9_air : Room := { frames := 0, cells := 0, slots := 0, locals := 0 }
set_option maxRecDepth 100000 in
set_option maxHeartbeats 4000000 in
theorem c_X9_air {l : Launch} {D : va_G} {G : Nat → ClassId} {ad : Nat → Nat → Nat} {u : k_U} (hI : k_ok ad) {k : Nat} (hk : k_isW k) {w : k_M} (hw : u k = w) {sz : Nat} {r : Int32} (hf : f_X9_air w = some r) : Met l yX9_air (.code yX9_air cX9_air 1 (some .int) :: lw_g) rm_X9_air (k_Pre D G ad u sz [.ref (ad k 0)]) (k_Qi D G ad u r sz) 0 0 (k_A ad sz) := by
  refine k_ofW (by decide +kernel) hI (Nat.le_of_ble_eq_true rfl) ?_
  intro p e s m args below meth c X hr hlk hU hS ls hl
  have hl : lv_has ls 1 [(0, .ref (ad k 0))] := hl
  have hU : k_Uv D G ad (k_uc u k w) s.heap := by rw [← hw, k_uc_id]; exact hU
  unfold f_X9_air at hf
  refine lv_bipush (v := 100) X.1 X.2.1 dX9_air_0 (by decide) ?_
  refine lv_aload_n X.1 X.2.1 dX9_air_2 rfl (lv_at hl 0 rfl) ?_
  refine k_getw (v := .int (w 0 0)) X hU (sW_0 hk) fl_X9_46 rfl dX9_air_3 ?_
  refine lv_sipush (v := 400) X.1 X.2.1 dX9_air_6 (by decide) ?_
  refine lv_idiv X.1 X.2.1 dX9_air_9 (by decide) ?_
  refine lv_isub X.1 X.2.1 dX9_air_10 ?_
  rw [← hw, k_uc_id] at hU
  have hz := Option.some.inj hf
  subst hz
  exact k_iret (v := (100 - ((w 0 0) / 400))) X hU hS hr hlk rfl rfl dX9_air_11
def rm_X2_valueAtOrAbove : Room := { frames := 0, cells := 0, slots := 0, locals := 0 }
set_option maxRecDepth 100000 in
set_option maxHeartbeats 4000000 in
theorem c_X2_valueAtOrAbove {l : Launch} {D : va_G} {G : Nat → ClassId} {ad : Nat → Nat → Nat} {u : k_U} (hI : k_ok ad) {k : Nat} (hk : k_isW k) {w : k_M} (hw : u k = w) {tc : Nat} {a1 : Int32} {a2 : Int32} (hc : k_isT tc) {sz : Nat} {r : Int32} (hf : f_X2_valueAtOrAbove w tc a1 a2 = some r) : Met l yX2_valueAtOrAbove (.code yX2_valueAtOrAbove cX2_valueAtOrAbove 5 (some .int) :: lw_g) rm_X2_valueAtOrAbove (k_Pre D G ad u sz [.ref (ad k tc), .int a1, .int a2]) (k_Qi D G ad u r sz) 0 0 (k_A ad sz) := by
  refine k_ofW (by decide +kernel) hI (Nat.le_of_ble_eq_true rfl) ?_
  intro p e s m args below meth c X hr hlk hU hS ls hl
  have hl : lv_has ls 5 [(0, .ref (ad k tc)), (1, .int a1), (2, .int a2)] := hl
  have hU : k_Uv D G ad (k_uc u k w) s.heap := by rw [← hw, k_uc_id]; exact hU
  have L5 : ∀ (n5 : Nat) (H : Heap) (locs : List Loc) (ls : Array Slot) (a1 : Int32) (a2 : Int32) (a3 : Int32) (a4 : Int32), k_Uv D G ad (k_uc u k w) H → va_S (k_A ad sz) s.heap H locs → lv_has ls 5 [(0, .ref (ad k tc)), (1, .int a1), (2, .int a2), (3, .int a3), (4, .int a4)] → f_X2_valueAtOrAbove_5 n5 w tc a1 a2 a3 a4 = some r → W p l e rm_X2_valueAtOrAbove s m args below meth c H locs 0 0 (MQ below (k_Qi D G ad u r sz) args s 0 0 (k_A ad sz)) (F0 m 5 ls []) := by
    intro n5
    induction n5 with
    | zero =>
      intro H locs ls a1 a2 a3 a4 hU hS hl hf
      cases (show none = some r from hf)
    | succ n5 ih5 =>
      have J49 : ∀ (H : Heap) (locs : List Loc) (ls : Array Slot) (a1 : Int32) (a2 : Int32) (a3 : Int32) (a4 : Int32), k_Uv D G ad (k_uc u k w) H → va_S (k_A ad sz) s.heap H locs → lv_has ls 5 [(0, .ref (ad k tc)), (1, .int a1), (2, .int a2), (3, .int a3), (4, .int a4)] → f_X2_valueAtOrAbove_49 (f_X2_valueAtOrAbove_5 n5) w tc a1 a2 a3 a4 = some r → W p l e rm_X2_valueAtOrAbove s m args below meth c H locs 0 0 (MQ below (k_Qi D G ad u r sz) args s 0 0 (k_A ad sz)) (F0 m 49 ls []) := by
        intro H locs ls a1 a2 a3 a4 hU hS hl hf
        unfold f_X2_valueAtOrAbove_49 at hf
        obtain ⟨x49, e49, hf⟩ := k_ltE hf
        refine lv_iinc (v := x49) (lv' := [(4, .int x49), (0, .ref (ad k tc)), (1, .int a1), (2, .int a2), (3, .int a3)]) X.1 X.2.1 dX2_valueAtOrAbove_49 hl (k := 4) rfl (by rw [e49]; rfl) (by decide) rfl (fun ls hl => ?_)
        refine lv_goto (tgt := 5) X.1 X.2.1 dX2_valueAtOrAbove_52 (by decide) ?_
        exact ih5 _ _ _ a1 a2 a3 x49 hU hS (lv_sub hl [1, 2, 3, 4, 0] rfl) hf
      have J46 : ∀ (H : Heap) (locs : List Loc) (ls : Array Slot) (a1 : Int32) (a2 : Int32) (a4 : Int32), k_Uv D G ad (k_uc u k w) H → va_S (k_A ad sz) s.heap H locs → lv_has ls 5 [(0, .ref (ad k tc)), (1, .int a1), (2, .int a2), (4, .int a4)] → f_X2_valueAtOrAbove_46 (f_X2_valueAtOrAbove_5 n5) w tc a1 a2 a4 = some r → W p l e rm_X2_valueAtOrAbove s m args below meth c H locs 0 0 (MQ below (k_Qi D G ad u r sz) args s 0 0 (k_A ad sz)) (F0 m 46 ls []) := by
        intro H locs ls a1 a2 a4 hU hS hl hf
        unfold f_X2_valueAtOrAbove_46 at hf
        refine lv_iload X.1 X.2.1 dX2_valueAtOrAbove_46 (lv_at hl 3 rfl) ?_
        refine lv_istore_n (lv' := [(3, .int a4), (0, .ref (ad k tc)), (1, .int a1), (2, .int a2), (4, .int a4)]) X.1 X.2.1 dX2_valueAtOrAbove_48 rfl hl (by decide) rfl (fun ls hl => ?_)
        exact J49 _ _ _ a1 a2 a4 a4 hU hS (lv_sub hl [1, 2, 3, 0, 4] rfl) hf
      intro H locs ls a1 a2 a3 a4 hU hS hl hf
      replace hf : f_X2_valueAtOrAbove_5_b (f_X2_valueAtOrAbove_5 n5) w tc a1 a2 a3 a4 = some r := hf
      unfold f_X2_valueAtOrAbove_5_b at hf
      refine lv_iload X.1 X.2.1 dX2_valueAtOrAbove_5 (lv_at hl 4 rfl) ?_
      refine lv_aload_n X.1 X.2.1 dX2_valueAtOrAbove_7 rfl (lv_at hl 0 rfl) ?_
      refine k_getw (v := .int (w tc 2)) X hU (k_sT hk hc) fl_X2_24 rfl dX2_valueAtOrAbove_8 ?_
      refine lv_icmp_ge (tgt := 55) X.1 X.2.1 dX2_valueAtOrAbove_11 (by decide) (fun c11 => ?_) (fun c11 => ?_)
      · replace hf := k_ifP hf c11
        refine lv_iload_n X.1 X.2.1 dX2_valueAtOrAbove_55 rfl (lv_at hl 3 rfl) ?_
        refine lv_iconst (v := (-1)) X.1 X.2.1 dX2_valueAtOrAbove_56 (by decide) ?_
        refine lv_icmp_ne (tgt := 64) X.1 X.2.1 dX2_valueAtOrAbove_57 (by decide) (fun c57 => ?_) (fun c57 => ?_)
        · replace hf := k_ifN hf c57
          refine lv_aload_n X.1 X.2.1 dX2_valueAtOrAbove_64 rfl (lv_at hl 0 rfl) ?_
          refine k_getw (v := .ref (ad k (tc + 2))) X hU (k_sT hk hc) fl_X2_15 rfl dX2_valueAtOrAbove_65 ?_
          refine lv_iload_n X.1 X.2.1 dX2_valueAtOrAbove_68 rfl (lv_at hl 3 rfl) ?_
          obtain ⟨hi69, hf⟩ := k_ckE hf
          refine k_ildw (j0 := a3.toNatClampNeg) X hU (k_sT2 hk hc) (k_vin (n := 8) hi69 (by decide)) rfl dX2_valueAtOrAbove_69 ?_
          rw [← hw, k_uc_id] at hU
          have hz := Option.some.inj hf
          subst hz
          exact k_iret (v := w (tc + 2) a3.toNatClampNeg) X hU hS hr hlk rfl rfl dX2_valueAtOrAbove_70
        · replace hf := k_ifP hf c57
          refine lv_iload_n X.1 X.2.1 dX2_valueAtOrAbove_60 rfl (lv_at hl 2 rfl) ?_
          refine lv_goto (tgt := 70) X.1 X.2.1 dX2_valueAtOrAbove_61 (by decide) ?_
          rw [← hw, k_uc_id] at hU
          have hz := Option.some.inj hf
          subst hz
          exact k_iret (v := a2) X hU hS hr hlk rfl rfl dX2_valueAtOrAbove_70
      · replace hf := k_ifN hf c11
        refine lv_aload_n X.1 X.2.1 dX2_valueAtOrAbove_14 rfl (lv_at hl 0 rfl) ?_
        refine k_getw (v := .ref (ad k (tc + 1))) X hU (k_sT hk hc) fl_X2_11 rfl dX2_valueAtOrAbove_15 ?_
        refine lv_iload X.1 X.2.1 dX2_valueAtOrAbove_18 (lv_at hl 4 rfl) ?_
        obtain ⟨hi20, hf⟩ := k_ckE hf
        refine k_ildw (j0 := a4.toNatClampNeg) X hU (k_sT1 hk hc) (k_vin (n := 8) hi20 (by decide)) rfl dX2_valueAtOrAbove_20 ?_
        refine lv_iload_n X.1 X.2.1 dX2_valueAtOrAbove_21 rfl (lv_at hl 1 rfl) ?_
        refine lv_icmp_lt (tgt := 49) X.1 X.2.1 dX2_valueAtOrAbove_22 (by decide) (fun c22 => ?_) (fun c22 => ?_)
        · replace hf := k_ifP hf c22
          exact J49 _ _ _ a1 a2 a3 a4 hU hS (lv_sub hl [0, 1, 2, 3, 4] rfl) hf
        · replace hf := k_ifN hf c22
          refine lv_iload_n X.1 X.2.1 dX2_valueAtOrAbove_25 rfl (lv_at hl 3 rfl) ?_
          refine lv_iconst (v := (-1)) X.1 X.2.1 dX2_valueAtOrAbove_26 (by decide) ?_
          refine lv_icmp_eq (tgt := 46) X.1 X.2.1 dX2_valueAtOrAbove_27 (by decide) (fun c27 => ?_) (fun c27 => ?_)
          · replace hf := k_ifP hf c27
            exact J46 _ _ _ a1 a2 a4 hU hS (lv_sub hl [0, 1, 2, 4] rfl) hf
          · replace hf := k_ifN hf c27
            refine lv_aload_n X.1 X.2.1 dX2_valueAtOrAbove_30 rfl (lv_at hl 0 rfl) ?_
            refine k_getw (v := .ref (ad k (tc + 1))) X hU (k_sT hk hc) fl_X2_11 rfl dX2_valueAtOrAbove_31 ?_
            refine lv_iload X.1 X.2.1 dX2_valueAtOrAbove_34 (lv_at hl 4 rfl) ?_
            obtain ⟨hi36, hf⟩ := k_ckE hf
            refine k_ildw (j0 := a4.toNatClampNeg) X hU (k_sT1 hk hc) (k_vin (n := 8) hi36 (by decide)) rfl dX2_valueAtOrAbove_36 ?_
            refine lv_aload_n X.1 X.2.1 dX2_valueAtOrAbove_37 rfl (lv_at hl 0 rfl) ?_
            refine k_getw (v := .ref (ad k (tc + 1))) X hU (k_sT hk hc) fl_X2_11 rfl dX2_valueAtOrAbove_38 ?_
            refine lv_iload_n X.1 X.2.1 dX2_valueAtOrAbove_41 rfl (lv_at hl 3 rfl) ?_
            obtain ⟨hi42, hf⟩ := k_ckE hf
            refine k_ildw (j0 := a3.toNatClampNeg) X hU (k_sT1 hk hc) (k_vin (n := 8) hi42 (by decide)) rfl dX2_valueAtOrAbove_42 ?_
            refine lv_icmp_ge (tgt := 49) X.1 X.2.1 dX2_valueAtOrAbove_43 (by decide) (fun c43 => ?_) (fun c43 => ?_)
            · replace hf := k_ifP hf c43
              exact J49 _ _ _ a1 a2 a3 a4 hU hS (lv_sub hl [0, 1, 2, 3, 4] rfl) hf
            · replace hf := k_ifN hf c43
              exact J46 _ _ _ a1 a2 a4 hU hS (lv_sub hl [0, 1, 2, 4] rfl) hf
  unfold f_X2_valueAtOrAbove at hf
  refine lv_iconst (v := (-1)) X.1 X.2.1 dX2_valueAtOrAbove_0 (by decide) ?_
  refine lv_istore_n (lv' := [(3, .int (-1)), (0, .ref (ad k tc)), (1, .int a1), (2, .int a2)]) X.1 X.2.1 dX2_valueAtOrAbove_1 rfl hl (by decide) rfl (fun ls hl => ?_)
  refine lv_iconst (v := 0) X.1 X.2.1 dX2_valueAtOrAbove_2 (by decide) ?_
  refine lv_istore (lv' := [(4, .int 0), (3, .int (-1)), (0, .ref (ad k tc)), (1, .int a1), (2, .int a2)]) X.1 X.2.1 dX2_valueAtOrAbove_3 hl (by decide) rfl (fun ls hl => ?_)
  exact L5 k_N _ _ _ a1 a2 (-1) 0 hU hS (lv_sub hl [2, 3, 4, 1, 0] rfl) hf
def rm_X9_asksForBrakes : Room := { frames := 1, cells := 0, slots := 0, locals := 24 }
set_option maxRecDepth 100000 in
set_option maxHeartbeats 4000000 in
theorem c_X9_asksForBrakes {l : Launch} {D : va_G} {G : Nat → ClassId} {ad : Nat → Nat → Nat} {u : k_U} (hI : k_ok ad) {k : Nat} (hk : k_isW k) {w : k_M} (hw : u k = w) {sz : Nat} {r : Int32} (hf : f_X9_asksForBrakes w = some r) : Met l yX9_asksForBrakes (.code yX9_asksForBrakes cX9_asksForBrakes 2 (some .boolean) :: lw_g) rm_X9_asksForBrakes (k_Pre D G ad u sz [.ref (ad k 0)]) (k_Qi D G ad u r sz) 0 0 (k_A ad sz) := by
  refine k_ofW (by decide +kernel) hI (Nat.le_of_ble_eq_true rfl) ?_
  intro p e s m args below meth c X hr hlk hU hS ls hl
  have hl : lv_has ls 2 [(0, .ref (ad k 0))] := hl
  have hU : k_Uv D G ad (k_uc u k w) s.heap := by rw [← hw, k_uc_id]; exact hU
  unfold f_X9_asksForBrakes at hf
  refine lv_aload_n X.1 X.2.1 dX9_asksForBrakes_0 rfl (lv_at hl 0 rfl) ?_
  refine k_getw (v := .ref (ad k 3)) X hU (sW_0 hk) fl_X9_25 rfl dX9_asksForBrakes_1 ?_
  refine lv_aload_n X.1 X.2.1 dX9_asksForBrakes_4 rfl (lv_at hl 0 rfl) ?_
  refine k_getw (v := .int (w 0 0)) X hU (sW_0 hk) fl_X9_46 rfl dX9_asksForBrakes_5 ?_
  refine lv_iconst (v := (-1)) X.1 X.2.1 dX9_asksForBrakes_8 (by decide) ?_
  obtain ⟨r9, hr9, hf⟩ := k_bdE hf
  refine k_backi X hS (k_runV (As := [.int (w 0 0), .int (-1)]) (rest := []) X hS hU (k_sT hk k_isT_3) (by decide) rfl vl_X9_112 (c_X2_valueAtOrAbove X.2.2.2.2.2.2.1 hk (k_uc_s _ _ _) k_isT_3 hr9) rfl rfl rfl hl.1 ⟨Nat.le_of_ble_eq_true rfl, Nat.le_of_ble_eq_true rfl⟩ (Nat.le_of_ble_eq_true rfl) dX9_asksForBrakes_9 ⟨Nat.zero_le _, Nat.zero_le _⟩) (fun H locs hU hS => ?_)
  refine lv_istore_n (lv' := [(1, .int r9), (0, .ref (ad k 0))]) X.1 X.2.1 dX9_asksForBrakes_12 rfl hl (by decide) rfl (fun ls hl => ?_)
  refine lv_iload_n X.1 X.2.1 dX9_asksForBrakes_13 rfl (lv_at hl 0 rfl) ?_
  refine lv_iconst (v := (-1)) X.1 X.2.1 dX9_asksForBrakes_14 (by decide) ?_
  refine lv_icmp_eq (tgt := 30) X.1 X.2.1 dX9_asksForBrakes_15 (by decide) (fun c15 => ?_) (fun c15 => ?_)
  · replace hf := k_ifP hf c15
    refine lv_iconst (v := 0) X.1 X.2.1 dX9_asksForBrakes_30 (by decide) ?_
    rw [← hw, k_uc_id] at hU
    have hz := Option.some.inj hf
    subst hz
    exact k_iret (v := 0) X hU hS hr hlk rfl rfl dX9_asksForBrakes_31
  · replace hf := k_ifN hf c15
    refine lv_aload_n X.1 X.2.1 dX9_asksForBrakes_18 rfl (lv_at hl 1 rfl) ?_
    refine k_getw (v := .int (w 0 1)) X hU (sW_0 hk) fl_X9_50 rfl dX9_asksForBrakes_19 ?_
    refine lv_iload_n X.1 X.2.1 dX9_asksForBrakes_22 rfl (lv_at hl 0 rfl) ?_
    refine lv_icmp_le (tgt := 30) X.1 X.2.1 dX9_asksForBrakes_23 (by decide) (fun c23 => ?_) (fun c23 => ?_)
    · replace hf := k_ifP hf c23
      refine lv_iconst (v := 0) X.1 X.2.1 dX9_asksForBrakes_30 (by decide) ?_
      rw [← hw, k_uc_id] at hU
      have hz := Option.some.inj hf
      subst hz
      exact k_iret (v := 0) X hU hS hr hlk rfl rfl dX9_asksForBrakes_31
    · replace hf := k_ifN hf c23
      refine lv_iconst (v := 1) X.1 X.2.1 dX9_asksForBrakes_26 (by decide) ?_
      refine lv_goto (tgt := 31) X.1 X.2.1 dX9_asksForBrakes_27 (by decide) ?_
      rw [← hw, k_uc_id] at hU
      have hz := Option.some.inj hf
      subst hz
      exact k_iret (v := 1) X hU hS hr hlk rfl rfl dX9_asksForBrakes_31
def rm_X0_isPackedAndBelowCeiling : Room := { frames := 0, cells := 0, slots := 0, locals := 0 }
set_option maxRecDepth 100000 in
set_option maxHeartbeats 4000000 in
theorem c_X0_isPackedAndBelowCeiling {l : Launch} {D : va_G} {G : Nat → ClassId} {ad : Nat → Nat → Nat} {u : k_U} (hI : k_ok ad) {k : Nat} (hk : k_isW k) {w : k_M} (hw : u k = w) {q : Nat} {a1 : Int32} (hq : k_isC q) {sz : Nat} {r : Int32} (hf : f_X0_isPackedAndBelowCeiling w q a1 = some r) : Met l yX0_isPackedAndBelowCeiling (.code yX0_isPackedAndBelowCeiling cX0_isPackedAndBelowCeiling 2 (some .boolean) :: lw_g) rm_X0_isPackedAndBelowCeiling (k_Pre D G ad u sz [.ref (ad k q), .int a1]) (k_Qi D G ad u r sz) 0 0 (k_A ad sz) := by
  refine k_ofW (by decide +kernel) hI (Nat.le_of_ble_eq_true rfl) ?_
  intro p e s m args below meth c X hr hlk hU hS ls hl
  have hl : lv_has ls 2 [(0, .ref (ad k q)), (1, .int a1)] := hl
  have hU : k_Uv D G ad (k_uc u k w) s.heap := by rw [← hw, k_uc_id]; exact hU
  unfold f_X0_isPackedAndBelowCeiling at hf
  refine lv_aload_n X.1 X.2.1 dX0_isPackedAndBelowCeiling_0 rfl (lv_at hl 0 rfl) ?_
  refine k_getw (v := .int (w q 5)) X hU (k_sC hk hq) fl_X0_27 rfl dX0_isPackedAndBelowCeiling_1 ?_
  refine lv_if_ne (tgt := 19) X.1 X.2.1 dX0_isPackedAndBelowCeiling_4 (by decide) (fun c4 => ?_) (fun c4 => ?_)
  · replace hf := k_ifN hf c4
    refine lv_iconst (v := 0) X.1 X.2.1 dX0_isPackedAndBelowCeiling_19 (by decide) ?_
    rw [← hw, k_uc_id] at hU
    have hz := Option.some.inj hf
    subst hz
    exact k_iret (v := 0) X hU hS hr hlk rfl rfl dX0_isPackedAndBelowCeiling_20
  · replace hf := k_ifP hf c4
    refine lv_iload_n X.1 X.2.1 dX0_isPackedAndBelowCeiling_7 rfl (lv_at hl 1 rfl) ?_
    refine lv_aload_n X.1 X.2.1 dX0_isPackedAndBelowCeiling_8 rfl (lv_at hl 0 rfl) ?_
    refine k_getw (v := .int (w q 3)) X hU (k_sC hk hq) fl_X0_21 rfl dX0_isPackedAndBelowCeiling_9 ?_
    refine lv_icmp_gt (tgt := 19) X.1 X.2.1 dX0_isPackedAndBelowCeiling_12 (by decide) (fun c12 => ?_) (fun c12 => ?_)
    · replace hf := k_ifP hf c12
      refine lv_iconst (v := 0) X.1 X.2.1 dX0_isPackedAndBelowCeiling_19 (by decide) ?_
      rw [← hw, k_uc_id] at hU
      have hz := Option.some.inj hf
      subst hz
      exact k_iret (v := 0) X hU hS hr hlk rfl rfl dX0_isPackedAndBelowCeiling_20
    · replace hf := k_ifN hf c12
      refine lv_iconst (v := 1) X.1 X.2.1 dX0_isPackedAndBelowCeiling_15 (by decide) ?_
      refine lv_goto (tgt := 20) X.1 X.2.1 dX0_isPackedAndBelowCeiling_16 (by decide) ?_
      rw [← hw, k_uc_id] at hU
      have hz := Option.some.inj hf
      subst hz
      exact k_iret (v := 1) X hU hS hr hlk rfl rfl dX0_isPackedAndBelowCeiling_20
def rm_X9_firstLayerThatMayOpen : Room := { frames := 1, cells := 0, slots := 0, locals := 21 }
set_option maxRecDepth 100000 in
set_option maxHeartbeats 4000000 in
theorem c_X9_firstLayerThatMayOpen {l : Launch} {D : va_G} {G : Nat → ClassId} {ad : Nat → Nat → Nat} {u : k_U} (hI : k_ok ad) {k : Nat} (hk : k_isW k) {w : k_M} (hw : u k = w) {sz : Nat} {r : Int32} (hf : f_X9_firstLayerThatMayOpen w = some r) : Met l yX9_firstLayerThatMayOpen (.code yX9_firstLayerThatMayOpen cX9_firstLayerThatMayOpen 2 (some .int) :: lw_g) rm_X9_firstLayerThatMayOpen (k_Pre D G ad u sz [.ref (ad k 0)]) (k_Qi D G ad u r sz) 0 0 (k_A ad sz) := by
  refine k_ofW (by decide +kernel) hI (Nat.le_of_ble_eq_true rfl) ?_
  intro p e s m args below meth c X hr hlk hU hS ls hl
  have hl : lv_has ls 2 [(0, .ref (ad k 0))] := hl
  have hU : k_Uv D G ad (k_uc u k w) s.heap := by rw [← hw, k_uc_id]; exact hU
  have L2 : ∀ (n2 : Nat) (H : Heap) (locs : List Loc) (ls : Array Slot) (a1 : Int32), k_Uv D G ad (k_uc u k w) H → va_S (k_A ad sz) s.heap H locs → lv_has ls 2 [(0, .ref (ad k 0)), (1, .int a1)] → f_X9_firstLayerThatMayOpen_2 n2 w a1 = some r → W p l e rm_X9_firstLayerThatMayOpen s m args below meth c H locs 0 0 (MQ below (k_Qi D G ad u r sz) args s 0 0 (k_A ad sz)) (F0 m 2 ls []) := by
    intro n2
    induction n2 with
    | zero =>
      intro H locs ls a1 hU hS hl hf
      cases (show none = some r from hf)
    | succ n2 ih2 =>
      have J44 : ∀ (H : Heap) (locs : List Loc) (ls : Array Slot) (a1 : Int32), k_Uv D G ad (k_uc u k w) H → va_S (k_A ad sz) s.heap H locs → lv_has ls 2 [(0, .ref (ad k 0)), (1, .int a1)] → f_X9_firstLayerThatMayOpen_44 (f_X9_firstLayerThatMayOpen_2 n2) w a1 = some r → W p l e rm_X9_firstLayerThatMayOpen s m args below meth c H locs 0 0 (MQ below (k_Qi D G ad u r sz) args s 0 0 (k_A ad sz)) (F0 m 44 ls []) := by
        intro H locs ls a1 hU hS hl hf
        unfold f_X9_firstLayerThatMayOpen_44 at hf
        obtain ⟨x44, e44, hf⟩ := k_ltE hf
        refine lv_iinc (v := x44) (lv' := [(1, .int x44), (0, .ref (ad k 0))]) X.1 X.2.1 dX9_firstLayerThatMayOpen_44 hl (k := 1) rfl (by rw [e44]; rfl) (by decide) rfl (fun ls hl => ?_)
        refine lv_goto (tgt := 2) X.1 X.2.1 dX9_firstLayerThatMayOpen_47 (by decide) ?_
        exact ih2 _ _ _ x44 hU hS (lv_sub hl [1, 0] rfl) hf
      intro H locs ls a1 hU hS hl hf
      replace hf : f_X9_firstLayerThatMayOpen_2_b (f_X9_firstLayerThatMayOpen_2 n2) w a1 = some r := hf
      unfold f_X9_firstLayerThatMayOpen_2_b at hf
      refine lv_iload_n X.1 X.2.1 dX9_firstLayerThatMayOpen_2 rfl (lv_at hl 1 rfl) ?_
      refine lv_aload_n X.1 X.2.1 dX9_firstLayerThatMayOpen_3 rfl (lv_at hl 0 rfl) ?_
      refine k_getw (v := .int (w 0 10)) X hU (sW_0 hk) fl_X9_77 rfl dX9_firstLayerThatMayOpen_4 ?_
      refine lv_icmp_ge (tgt := 50) X.1 X.2.1 dX9_firstLayerThatMayOpen_7 (by decide) (fun c7 => ?_) (fun c7 => ?_)
      · replace hf := k_ifP hf c7
        refine lv_iconst (v := (-1)) X.1 X.2.1 dX9_firstLayerThatMayOpen_50 (by decide) ?_
        rw [← hw, k_uc_id] at hU
        have hz := Option.some.inj hf
        subst hz
        exact k_iret (v := (-1)) X hU hS hr hlk rfl rfl dX9_firstLayerThatMayOpen_51
      · replace hf := k_ifN hf c7
        refine lv_aload_n X.1 X.2.1 dX9_firstLayerThatMayOpen_10 rfl (lv_at hl 0 rfl) ?_
        refine k_getw (v := .ref (ad k 1)) X hU (sW_0 hk) fl_X9_13 rfl dX9_firstLayerThatMayOpen_11 ?_
        refine lv_iload_n X.1 X.2.1 dX9_firstLayerThatMayOpen_14 rfl (lv_at hl 1 rfl) ?_
        obtain ⟨hi15, hf⟩ := k_ckE hf
        have hj15 := (k_vin (n := 8) hi15 (by decide))
        refine k_ald (C := "LayeredChute$Chute") (tag := 23) (t0 := 3) (z := (k, (15 + a1.toNatClampNeg))) X hU ⟨by decide, by decide⟩ rfl (sW_1 hk) hj15 (k_rWl_at hj15) dX9_firstLayerThatMayOpen_15 ?_
        refine lv_aload_n X.1 X.2.1 dX9_firstLayerThatMayOpen_16 rfl (lv_at hl 0 rfl) ?_
        refine k_getw (v := .int (w 0 0)) X hU (sW_0 hk) fl_X9_46 rfl dX9_firstLayerThatMayOpen_17 ?_
        obtain ⟨r20, hr20, hf⟩ := k_bdE hf
        refine k_backi X hS (k_runV (As := [.int (w 0 0)]) (rest := []) X hS hU (k_sC hk (k_isC_l (k_vlt hj15))) (by decide) rfl vl_X9_139 (c_X0_isPackedAndBelowCeiling X.2.2.2.2.2.2.1 hk (k_uc_s _ _ _) (k_isC_l (k_vlt hj15)) hr20) rfl rfl rfl hl.1 ⟨Nat.le_of_ble_eq_true rfl, Nat.le_of_ble_eq_true rfl⟩ (Nat.le_of_ble_eq_true rfl) dX9_firstLayerThatMayOpen_20 ⟨Nat.zero_le _, Nat.zero_le _⟩) (fun H locs hU hS => ?_)
        refine lv_if_eq (tgt := 44) X.1 X.2.1 dX9_firstLayerThatMayOpen_23 (by decide) (fun c23 => ?_) (fun c23 => ?_)
        · replace hf := k_ifP hf c23
          exact J44 _ _ _ a1 hU hS (lv_sub hl [0, 1] rfl) hf
        · replace hf := k_ifN hf c23
          refine lv_aload_n X.1 X.2.1 dX9_firstLayerThatMayOpen_26 rfl (lv_at hl 0 rfl) ?_
          refine k_getw (v := .int (w 0 1)) X hU (sW_0 hk) fl_X9_50 rfl dX9_firstLayerThatMayOpen_27 ?_
          refine lv_aload_n X.1 X.2.1 dX9_firstLayerThatMayOpen_30 rfl (lv_at hl 0 rfl) ?_
          refine k_getw (v := .ref (ad k 1)) X hU (sW_0 hk) fl_X9_13 rfl dX9_firstLayerThatMayOpen_31 ?_
          refine lv_iload_n X.1 X.2.1 dX9_firstLayerThatMayOpen_34 rfl (lv_at hl 1 rfl) ?_
          obtain ⟨hi35, hf⟩ := k_ckE hf
          have hj35 := (k_vin (n := 8) hi35 (by decide))
          refine k_ald (C := "LayeredChute$Chute") (tag := 23) (t0 := 3) (z := (k, (15 + a1.toNatClampNeg))) X hU ⟨by decide, by decide⟩ rfl (sW_1 hk) hj35 (k_rWl_at hj35) dX9_firstLayerThatMayOpen_35 ?_
          refine k_getw (v := .int (w (15 + a1.toNatClampNeg) 4)) X hU (k_sC hk (k_isC_l (k_vlt hj35))) fl_X9_142 rfl dX9_firstLayerThatMayOpen_36 ?_
          refine lv_icmp_gt (tgt := 44) X.1 X.2.1 dX9_firstLayerThatMayOpen_39 (by decide) (fun c39 => ?_) (fun c39 => ?_)
          · replace hf := k_ifP hf c39
            exact J44 _ _ _ a1 hU hS (lv_sub hl [0, 1] rfl) hf
          · replace hf := k_ifN hf c39
            refine lv_iload_n X.1 X.2.1 dX9_firstLayerThatMayOpen_42 rfl (lv_at hl 1 rfl) ?_
            rw [← hw, k_uc_id] at hU
            have hz := Option.some.inj hf
            subst hz
            exact k_iret (v := a1) X hU hS hr hlk rfl rfl dX9_firstLayerThatMayOpen_43
  unfold f_X9_firstLayerThatMayOpen at hf
  refine lv_iconst (v := 0) X.1 X.2.1 dX9_firstLayerThatMayOpen_0 (by decide) ?_
  refine lv_istore_n (lv' := [(1, .int 0), (0, .ref (ad k 0))]) X.1 X.2.1 dX9_firstLayerThatMayOpen_1 rfl hl (by decide) rfl (fun ls hl => ?_)
  exact L2 k_N _ _ _ 0 hU hS (lv_sub hl [1, 0] rfl) hf
def rm_X0_hasFailed : Room := { frames := 0, cells := 0, slots := 0, locals := 0 }
set_option maxRecDepth 100000 in
set_option maxHeartbeats 4000000 in
theorem c_X0_hasFailed {l : Launch} {D : va_G} {G : Nat → ClassId} {ad : Nat → Nat → Nat} {u : k_U} (hI : k_ok ad) {k : Nat} (hk : k_isW k) {w : k_M} (hw : u k = w) {q : Nat} (hq : k_isC q) {sz : Nat} {r : Int32} (hf : f_X0_hasFailed w q = some r) : Met l yX0_hasFailed (.code yX0_hasFailed cX0_hasFailed 1 (some .boolean) :: lw_g) rm_X0_hasFailed (k_Pre D G ad u sz [.ref (ad k q)]) (k_Qi D G ad u r sz) 0 0 (k_A ad sz) := by
  refine k_ofW (by decide +kernel) hI (Nat.le_of_ble_eq_true rfl) ?_
  intro p e s m args below meth c X hr hlk hU hS ls hl
  have hl : lv_has ls 1 [(0, .ref (ad k q))] := hl
  have hU : k_Uv D G ad (k_uc u k w) s.heap := by rw [← hw, k_uc_id]; exact hU
  unfold f_X0_hasFailed at hf
  refine lv_aload_n X.1 X.2.1 dX0_hasFailed_0 rfl (lv_at hl 0 rfl) ?_
  refine k_getw (v := .int (w q 5)) X hU (k_sC hk hq) fl_X0_27 rfl dX0_hasFailed_1 ?_
  refine lv_iconst (v := 2) X.1 X.2.1 dX0_hasFailed_4 (by decide) ?_
  refine lv_icmp_eq (tgt := 16) X.1 X.2.1 dX0_hasFailed_5 (by decide) (fun c5 => ?_) (fun c5 => ?_)
  · replace hf := k_ifP hf c5
    refine lv_iconst (v := 1) X.1 X.2.1 dX0_hasFailed_16 (by decide) ?_
    refine lv_goto (tgt := 21) X.1 X.2.1 dX0_hasFailed_17 (by decide) ?_
    rw [← hw, k_uc_id] at hU
    have hz := Option.some.inj hf
    subst hz
    exact k_iret (v := 1) X hU hS hr hlk rfl rfl dX0_hasFailed_21
  · replace hf := k_ifN hf c5
    refine lv_aload_n X.1 X.2.1 dX0_hasFailed_8 rfl (lv_at hl 0 rfl) ?_
    refine k_getw (v := .int (w q 5)) X hU (k_sC hk hq) fl_X0_27 rfl dX0_hasFailed_9 ?_
    refine lv_iconst (v := 3) X.1 X.2.1 dX0_hasFailed_12 (by decide) ?_
    refine lv_icmp_ne (tgt := 20) X.1 X.2.1 dX0_hasFailed_13 (by decide) (fun c13 => ?_) (fun c13 => ?_)
    · replace hf := k_ifN hf c13
      refine lv_iconst (v := 0) X.1 X.2.1 dX0_hasFailed_20 (by decide) ?_
      rw [← hw, k_uc_id] at hU
      have hz := Option.some.inj hf
      subst hz
      exact k_iret (v := 0) X hU hS hr hlk rfl rfl dX0_hasFailed_21
    · replace hf := k_ifP hf c13
      refine lv_iconst (v := 1) X.1 X.2.1 dX0_hasFailed_16 (by decide) ?_
      refine lv_goto (tgt := 21) X.1 X.2.1 dX0_hasFailed_17 (by decide) ?_
      rw [← hw, k_uc_id] at hU
      have hz := Option.some.inj hf
      subst hz
      exact k_iret (v := 1) X hU hS hr hlk rfl rfl dX0_hasFailed_21
def rm_X9_failedLayers : Room := { frames := 1, cells := 0, slots := 0, locals := 20 }
set_option maxRecDepth 100000 in
set_option maxHeartbeats 4000000 in
theorem c_X9_failedLayers {l : Launch} {D : va_G} {G : Nat → ClassId} {ad : Nat → Nat → Nat} {u : k_U} (hI : k_ok ad) {k : Nat} (hk : k_isW k) {w : k_M} (hw : u k = w) {sz : Nat} {r : Int32} (hf : f_X9_failedLayers w = some r) : Met l yX9_failedLayers (.code yX9_failedLayers cX9_failedLayers 3 (some .int) :: lw_g) rm_X9_failedLayers (k_Pre D G ad u sz [.ref (ad k 0)]) (k_Qi D G ad u r sz) 0 0 (k_A ad sz) := by
  refine k_ofW (by decide +kernel) hI (Nat.le_of_ble_eq_true rfl) ?_
  intro p e s m args below meth c X hr hlk hU hS ls hl
  have hl : lv_has ls 3 [(0, .ref (ad k 0))] := hl
  have hU : k_Uv D G ad (k_uc u k w) s.heap := by rw [← hw, k_uc_id]; exact hU
  have L4 : ∀ (n4 : Nat) (H : Heap) (locs : List Loc) (ls : Array Slot) (a1 : Int32) (a2 : Int32), k_Uv D G ad (k_uc u k w) H → va_S (k_A ad sz) s.heap H locs → lv_has ls 3 [(0, .ref (ad k 0)), (1, .int a1), (2, .int a2)] → f_X9_failedLayers_4 n4 w a1 a2 = some r → W p l e rm_X9_failedLayers s m args below meth c H locs 0 0 (MQ below (k_Qi D G ad u r sz) args s 0 0 (k_A ad sz)) (F0 m 4 ls []) := by
    intro n4
    induction n4 with
    | zero =>
      intro H locs ls a1 a2 hU hS hl hf
      cases (show none = some r from hf)
    | succ n4 ih4 =>
      have J27 : ∀ (H : Heap) (locs : List Loc) (ls : Array Slot) (a1 : Int32) (a2 : Int32), k_Uv D G ad (k_uc u k w) H → va_S (k_A ad sz) s.heap H locs → lv_has ls 3 [(0, .ref (ad k 0)), (1, .int a1), (2, .int a2)] → f_X9_failedLayers_27 (f_X9_failedLayers_4 n4) w a1 a2 = some r → W p l e rm_X9_failedLayers s m args below meth c H locs 0 0 (MQ below (k_Qi D G ad u r sz) args s 0 0 (k_A ad sz)) (F0 m 27 ls []) := by
        intro H locs ls a1 a2 hU hS hl hf
        unfold f_X9_failedLayers_27 at hf
        obtain ⟨x27, e27, hf⟩ := k_ltE hf
        refine lv_iinc (v := x27) (lv' := [(2, .int x27), (0, .ref (ad k 0)), (1, .int a1)]) X.1 X.2.1 dX9_failedLayers_27 hl (k := 2) rfl (by rw [e27]; rfl) (by decide) rfl (fun ls hl => ?_)
        refine lv_goto (tgt := 4) X.1 X.2.1 dX9_failedLayers_30 (by decide) ?_
        exact ih4 _ _ _ a1 x27 hU hS (lv_sub hl [1, 2, 0] rfl) hf
      intro H locs ls a1 a2 hU hS hl hf
      replace hf : f_X9_failedLayers_4_b (f_X9_failedLayers_4 n4) w a1 a2 = some r := hf
      unfold f_X9_failedLayers_4_b at hf
      refine lv_iload_n X.1 X.2.1 dX9_failedLayers_4 rfl (lv_at hl 2 rfl) ?_
      refine lv_aload_n X.1 X.2.1 dX9_failedLayers_5 rfl (lv_at hl 0 rfl) ?_
      refine k_getw (v := .int (w 0 10)) X hU (sW_0 hk) fl_X9_77 rfl dX9_failedLayers_6 ?_
      refine lv_icmp_ge (tgt := 33) X.1 X.2.1 dX9_failedLayers_9 (by decide) (fun c9 => ?_) (fun c9 => ?_)
      · replace hf := k_ifP hf c9
        refine lv_iload_n X.1 X.2.1 dX9_failedLayers_33 rfl (lv_at hl 1 rfl) ?_
        rw [← hw, k_uc_id] at hU
        have hz := Option.some.inj hf
        subst hz
        exact k_iret (v := a1) X hU hS hr hlk rfl rfl dX9_failedLayers_34
      · replace hf := k_ifN hf c9
        refine lv_aload_n X.1 X.2.1 dX9_failedLayers_12 rfl (lv_at hl 0 rfl) ?_
        refine k_getw (v := .ref (ad k 1)) X hU (sW_0 hk) fl_X9_13 rfl dX9_failedLayers_13 ?_
        refine lv_iload_n X.1 X.2.1 dX9_failedLayers_16 rfl (lv_at hl 2 rfl) ?_
        obtain ⟨hi17, hf⟩ := k_ckE hf
        have hj17 := (k_vin (n := 8) hi17 (by decide))
        refine k_ald (C := "LayeredChute$Chute") (tag := 23) (t0 := 3) (z := (k, (15 + a2.toNatClampNeg))) X hU ⟨by decide, by decide⟩ rfl (sW_1 hk) hj17 (k_rWl_at hj17) dX9_failedLayers_17 ?_
        obtain ⟨r18, hr18, hf⟩ := k_bdE hf
        refine k_backi X hS (k_runV (As := []) (rest := []) X hS hU (k_sC hk (k_isC_l (k_vlt hj17))) (by decide) rfl vl_X9_123 (c_X0_hasFailed X.2.2.2.2.2.2.1 hk (k_uc_s _ _ _) (k_isC_l (k_vlt hj17)) hr18) rfl rfl rfl hl.1 ⟨Nat.le_of_ble_eq_true rfl, Nat.le_of_ble_eq_true rfl⟩ (Nat.le_of_ble_eq_true rfl) dX9_failedLayers_18 ⟨Nat.zero_le _, Nat.zero_le _⟩) (fun H locs hU hS => ?_)
        refine lv_if_eq (tgt := 27) X.1 X.2.1 dX9_failedLayers_21 (by decide) (fun c21 => ?_) (fun c21 => ?_)
        · replace hf := k_ifP hf c21
          exact J27 _ _ _ a1 a2 hU hS (lv_sub hl [0, 1, 2] rfl) hf
        · replace hf := k_ifN hf c21
          obtain ⟨x24, e24, hf⟩ := k_ltE hf
          refine lv_iinc (v := x24) (lv' := [(1, .int x24), (0, .ref (ad k 0)), (2, .int a2)]) X.1 X.2.1 dX9_failedLayers_24 hl (k := 1) rfl (by rw [e24]; rfl) (by decide) rfl (fun ls hl => ?_)
          exact J27 _ _ _ x24 a2 hU hS (lv_sub hl [1, 0, 2] rfl) hf
  unfold f_X9_failedLayers at hf
  refine lv_iconst (v := 0) X.1 X.2.1 dX9_failedLayers_0 (by decide) ?_
  refine lv_istore_n (lv' := [(1, .int 0), (0, .ref (ad k 0))]) X.1 X.2.1 dX9_failedLayers_1 rfl hl (by decide) rfl (fun ls hl => ?_)
  refine lv_iconst (v := 0) X.1 X.2.1 dX9_failedLayers_2 (by decide) ?_
  refine lv_istore_n (lv' := [(2, .int 0), (1, .int 0), (0, .ref (ad k 0))]) X.1 X.2.1 dX9_failedLayers_3 rfl hl (by decide) rfl (fun ls hl => ?_)
  exact L4 k_N _ _ _ 0 0 hU hS (lv_sub hl [2, 1, 0] rfl) hf
def rm_X1_keep : Room := { frames := 0, cells := 0, slots := 0, locals := 0 }
set_option maxRecDepth 100000 in
set_option maxHeartbeats 4000000 in
theorem c_X1_keep {l : Launch} {D : va_G} {G : Nat → ClassId} {ad : Nat → Nat → Nat} {u : k_U} (hI : k_ok ad) {k : Nat} (hk : k_isW k) {w : k_M} (hw : u k = w) {a1 : Int32} {a2 : Int32} {a3 : Int32} {a4 : Int32} {sz : Nat} {r : k_M} (hf : f_X1_keep w a1 a2 a3 a4 = some r) : Met l yX1_keep (.code yX1_keep cX1_keep 6 none :: lw_g) rm_X1_keep (k_Pre D G ad u sz [.ref (ad k 13), .int a1, .int a2, .int a3, .int a4]) (k_Qv D G ad (k_uc u k r) sz) 0 0 (k_A ad sz) := by
  refine k_ofW (by decide +kernel) hI (Nat.le_of_ble_eq_true rfl) ?_
  intro p e s m args below meth c X hr hlk hU hS ls hl
  have hl : lv_has ls 6 [(0, .ref (ad k 13)), (1, .int a1), (2, .int a2), (3, .int a3), (4, .int a4)] := hl
  have hU : k_Uv D G ad (k_uc u k w) s.heap := by rw [← hw, k_uc_id]; exact hU
  unfold f_X1_keep at hf
  refine lv_aload_n X.1 X.2.1 dX1_keep_0 rfl (lv_at hl 0 rfl) ?_
  refine k_getw (v := .int (w 13 1)) X hU (sW_13 hk) fl_X1_19 rfl dX1_keep_1 ?_
  refine lv_aload_n X.1 X.2.1 dX1_keep_4 rfl (lv_at hl 0 rfl) ?_
  refine k_getw (v := .int (w 13 2)) X hU (sW_13 hk) fl_X1_23 rfl dX1_keep_5 ?_
  refine lv_iadd X.1 X.2.1 dX1_keep_8 ?_
  refine lv_bipush (v := 30) X.1 X.2.1 dX1_keep_9 (by decide) ?_
  refine lv_irem X.1 X.2.1 dX1_keep_11 (by decide) ?_
  refine lv_iconst (v := 4) X.1 X.2.1 dX1_keep_12 (by decide) ?_
  refine lv_imul X.1 X.2.1 dX1_keep_13 ?_
  obtain ⟨x14, e14, hf⟩ := k_ltE hf
  refine k_nmi e14 ?_
  refine lv_istore (lv' := [(5, .int x14), (0, .ref (ad k 13)), (1, .int a1), (2, .int a2), (3, .int a3), (4, .int a4)]) X.1 X.2.1 dX1_keep_14 hl (by decide) rfl (fun ls hl => ?_)
  refine lv_aload_n X.1 X.2.1 dX1_keep_16 rfl (lv_at hl 1 rfl) ?_
  refine k_getw (v := .ref (ad k 14)) X hU (sW_13 hk) fl_X1_9 rfl dX1_keep_17 ?_
  refine lv_iload X.1 X.2.1 dX1_keep_20 (lv_at hl 0 rfl) ?_
  refine lv_iload_n X.1 X.2.1 dX1_keep_22 rfl (lv_at hl 2 rfl) ?_
  obtain ⟨hi23, hf⟩ := k_ckE hf
  obtain ⟨w23, e23, hf⟩ := k_ltE hf
  refine k_istw X hU hS (sW_14 hk) e23 (k_vin (n := 120) hi23 (by decide)) rfl dX1_keep_23 (fun H locs hU hS => ?_)
  refine lv_aload_n X.1 X.2.1 dX1_keep_24 rfl (lv_at hl 1 rfl) ?_
  refine k_getw (v := .ref (ad k 14)) X hU (sW_13 hk) fl_X1_9 rfl dX1_keep_25 ?_
  refine lv_iload X.1 X.2.1 dX1_keep_28 (lv_at hl 0 rfl) ?_
  refine lv_iconst (v := 1) X.1 X.2.1 dX1_keep_30 (by decide) ?_
  refine lv_iadd X.1 X.2.1 dX1_keep_31 ?_
  refine lv_iload_n X.1 X.2.1 dX1_keep_32 rfl (lv_at hl 3 rfl) ?_
  obtain ⟨hi33, hf⟩ := k_ckE hf
  obtain ⟨w33, e33, hf⟩ := k_ltE hf
  refine k_istw X hU hS (sW_14 hk) e33 (k_vin (n := 120) hi33 (by decide)) rfl dX1_keep_33 (fun H locs hU hS => ?_)
  refine lv_aload_n X.1 X.2.1 dX1_keep_34 rfl (lv_at hl 1 rfl) ?_
  refine k_getw (v := .ref (ad k 14)) X hU (sW_13 hk) fl_X1_9 rfl dX1_keep_35 ?_
  refine lv_iload X.1 X.2.1 dX1_keep_38 (lv_at hl 0 rfl) ?_
  refine lv_iconst (v := 2) X.1 X.2.1 dX1_keep_40 (by decide) ?_
  refine lv_iadd X.1 X.2.1 dX1_keep_41 ?_
  refine lv_iload_n X.1 X.2.1 dX1_keep_42 rfl (lv_at hl 4 rfl) ?_
  obtain ⟨hi43, hf⟩ := k_ckE hf
  obtain ⟨w43, e43, hf⟩ := k_ltE hf
  refine k_istw X hU hS (sW_14 hk) e43 (k_vin (n := 120) hi43 (by decide)) rfl dX1_keep_43 (fun H locs hU hS => ?_)
  refine lv_aload_n X.1 X.2.1 dX1_keep_44 rfl (lv_at hl 1 rfl) ?_
  refine k_getw (v := .ref (ad k 14)) X hU (sW_13 hk) fl_X1_9 rfl dX1_keep_45 ?_
  refine lv_iload X.1 X.2.1 dX1_keep_48 (lv_at hl 0 rfl) ?_
  refine lv_iconst (v := 3) X.1 X.2.1 dX1_keep_50 (by decide) ?_
  refine lv_iadd X.1 X.2.1 dX1_keep_51 ?_
  refine lv_iload X.1 X.2.1 dX1_keep_52 (lv_at hl 5 rfl) ?_
  obtain ⟨hi54, hf⟩ := k_ckE hf
  obtain ⟨w54, e54, hf⟩ := k_ltE hf
  refine k_istw X hU hS (sW_14 hk) e54 (k_vin (n := 120) hi54 (by decide)) rfl dX1_keep_54 (fun H locs hU hS => ?_)
  refine lv_aload_n X.1 X.2.1 dX1_keep_55 rfl (lv_at hl 1 rfl) ?_
  refine k_getw (v := .int (w54 13 2)) X hU (sW_13 hk) fl_X1_23 rfl dX1_keep_56 ?_
  refine lv_bipush (v := 30) X.1 X.2.1 dX1_keep_59 (by decide) ?_
  refine lv_icmp_ge (tgt := 77) X.1 X.2.1 dX1_keep_61 (by decide) (fun c61 => ?_) (fun c61 => ?_)
  · replace hf := k_ifP hf c61
    refine lv_aload_n X.1 X.2.1 dX1_keep_77 rfl (lv_at hl 1 rfl) ?_
    refine lv_aload_n X.1 X.2.1 dX1_keep_78 rfl (lv_at hl 1 rfl) ?_
    refine k_getw (v := .int (w54 13 1)) X hU (sW_13 hk) fl_X1_19 rfl dX1_keep_79 ?_
    refine lv_iconst (v := 1) X.1 X.2.1 dX1_keep_82 (by decide) ?_
    refine lv_iadd X.1 X.2.1 dX1_keep_83 ?_
    refine lv_bipush (v := 30) X.1 X.2.1 dX1_keep_84 (by decide) ?_
    refine lv_irem X.1 X.2.1 dX1_keep_86 (by decide) ?_
    obtain ⟨w87, e87, hf⟩ := k_ltE hf
    refine k_putw X hU hS (sW_13 hk) fp_X1_19 rfl e87 rfl rfl dX1_keep_87 (fun H locs hU hS => ?_)
    have hz := Option.some.inj hf
    subst hz
    exact k_vret X hU hS hr hlk dX1_keep_90
  · replace hf := k_ifN hf c61
    refine lv_aload_n X.1 X.2.1 dX1_keep_64 rfl (lv_at hl 1 rfl) ?_
    refine lv_dup X.1 X.2.1 dX1_keep_65 rfl ?_
    refine k_getw (v := .int (w54 13 2)) X hU (sW_13 hk) fl_X1_23 rfl dX1_keep_66 ?_
    refine lv_iconst (v := 1) X.1 X.2.1 dX1_keep_69 (by decide) ?_
    refine lv_iadd X.1 X.2.1 dX1_keep_70 ?_
    obtain ⟨w71, e71, hf⟩ := k_ltE hf
    refine k_putw X hU hS (sW_13 hk) fp_X1_23 rfl e71 rfl rfl dX1_keep_71 (fun H locs hU hS => ?_)
    refine lv_goto (tgt := 90) X.1 X.2.1 dX1_keep_74 (by decide) ?_
    have hz := Option.some.inj hf
    subst hz
    exact k_vret X hU hS hr hlk dX1_keep_90
def rm_X9_openTheReserve : Room := { frames := 1, cells := 0, slots := 0, locals := 25 }
set_option maxRecDepth 100000 in
set_option maxHeartbeats 4000000 in
theorem c_X9_openTheReserve {l : Launch} {D : va_G} {G : Nat → ClassId} {ad : Nat → Nat → Nat} {u : k_U} (hI : k_ok ad) {k : Nat} (hk : k_isW k) {w : k_M} (hw : u k = w) {a1 : Int32} {sz : Nat} {r : k_M} (hf : f_X9_openTheReserve w a1 = some r) : Met l yX9_openTheReserve (.code yX9_openTheReserve cX9_openTheReserve 2 none :: lw_g) rm_X9_openTheReserve (k_Pre D G ad u sz [.ref (ad k 0), .int a1]) (k_Qv D G ad (k_uc u k r) sz) 0 0 (k_A ad sz) := by
  refine k_ofW (by decide +kernel) hI (Nat.le_of_ble_eq_true rfl) ?_
  intro p e s m args below meth c X hr hlk hU hS ls hl
  have hl : lv_has ls 2 [(0, .ref (ad k 0)), (1, .int a1)] := hl
  have hU : k_Uv D G ad (k_uc u k w) s.heap := by rw [← hw, k_uc_id]; exact hU
  unfold f_X9_openTheReserve at hf
  refine lv_aload_n X.1 X.2.1 dX9_openTheReserve_0 rfl (lv_at hl 0 rfl) ?_
  refine k_getw (v := .ref (ad k 2)) X hU (sW_0 hk) fl_X9_18 rfl dX9_openTheReserve_1 ?_
  refine lv_iconst (v := 1) X.1 X.2.1 dX9_openTheReserve_4 (by decide) ?_
  obtain ⟨w5, e5, hf⟩ := k_ltE hf
  refine k_putw X hU hS (k_sC hk k_isC_2) fp_X9_120 rfl e5 rfl rfl dX9_openTheReserve_5 (fun H locs hU hS => ?_)
  refine lv_aload_n X.1 X.2.1 dX9_openTheReserve_8 rfl (lv_at hl 0 rfl) ?_
  refine k_getw (v := .ref (ad k 13)) X hU (sW_0 hk) fl_X9_42 rfl dX9_openTheReserve_9 ?_
  refine lv_aload_n X.1 X.2.1 dX9_openTheReserve_12 rfl (lv_at hl 0 rfl) ?_
  refine k_getw (v := .int (w5 0 6)) X hU (sW_0 hk) fl_X9_65 rfl dX9_openTheReserve_13 ?_
  refine lv_iconst (v := 4) X.1 X.2.1 dX9_openTheReserve_16 (by decide) ?_
  refine lv_aload_n X.1 X.2.1 dX9_openTheReserve_17 rfl (lv_at hl 0 rfl) ?_
  refine k_getw (v := .int (w5 0 10)) X hU (sW_0 hk) fl_X9_77 rfl dX9_openTheReserve_18 ?_
  refine lv_iload_n X.1 X.2.1 dX9_openTheReserve_21 rfl (lv_at hl 1 rfl) ?_
  obtain ⟨r22, hr22, hf⟩ := k_bdE hf
  refine k_backv X hS (k_runV (As := [.int (w5 0 6), .int 4, .int (w5 0 10), .int a1]) (rest := []) X hS hU (sW_13 hk) (by decide) rfl vl_X9_157 (c_X1_keep X.2.2.2.2.2.2.1 hk (k_uc_s _ _ _) hr22) rfl rfl rfl hl.1 ⟨Nat.le_of_ble_eq_true rfl, Nat.le_of_ble_eq_true rfl⟩ (Nat.le_of_ble_eq_true rfl) dX9_openTheReserve_22 ⟨Nat.zero_le _, Nat.zero_le _⟩) (fun H locs hU hS => ?_)
  rw [k_uc_uc] at hU
  have hz := Option.some.inj hf
  subst hz
  exact k_vret X hU hS hr hlk dX9_openTheReserve_25
def rm_X9_openLayer : Room := { frames := 1, cells := 0, slots := 0, locals := 25 }
set_option maxRecDepth 100000 in
set_option maxHeartbeats 4000000 in
theorem c_X9_openLayer {l : Launch} {D : va_G} {G : Nat → ClassId} {ad : Nat → Nat → Nat} {u : k_U} (hI : k_ok ad) {k : Nat} (hk : k_isW k) {w : k_M} (hw : u k = w) {a1 : Int32} {sz : Nat} {r : k_M} (hf : f_X9_openLayer w a1 = some r) : Met l yX9_openLayer (.code yX9_openLayer cX9_openLayer 3 none :: lw_g) rm_X9_openLayer (k_Pre D G ad u sz [.ref (ad k 0), .int a1]) (k_Qv D G ad (k_uc u k r) sz) 0 0 (k_A ad sz) := by
  refine k_ofW (by decide +kernel) hI (Nat.le_of_ble_eq_true rfl) ?_
  intro p e s m args below meth c X hr hlk hU hS ls hl
  have hl : lv_has ls 3 [(0, .ref (ad k 0)), (1, .int a1)] := hl
  have hU : k_Uv D G ad (k_uc u k w) s.heap := by rw [← hw, k_uc_id]; exact hU
  unfold f_X9_openLayer at hf
  refine lv_aload_n X.1 X.2.1 dX9_openLayer_0 rfl (lv_at hl 0 rfl) ?_
  refine k_getw (v := .ref (ad k 1)) X hU (sW_0 hk) fl_X9_13 rfl dX9_openLayer_1 ?_
  refine lv_iload_n X.1 X.2.1 dX9_openLayer_4 rfl (lv_at hl 1 rfl) ?_
  obtain ⟨hi5, hf⟩ := k_ckE hf
  have hj5 := (k_vin (n := 8) hi5 (by decide))
  refine k_ald (C := "LayeredChute$Chute") (tag := 23) (t0 := 3) (z := (k, (15 + a1.toNatClampNeg))) X hU ⟨by decide, by decide⟩ rfl (sW_1 hk) hj5 (k_rWl_at hj5) dX9_openLayer_5 ?_
  refine lv_astore_n (lv' := [(2, .ref (ad k (15 + a1.toNatClampNeg))), (0, .ref (ad k 0)), (1, .int a1)]) X.1 X.2.1 dX9_openLayer_6 rfl hl (by decide) rfl (fun ls hl => ?_)
  refine lv_aload_n X.1 X.2.1 dX9_openLayer_7 rfl (lv_at hl 0 rfl) ?_
  refine k_getw (v := .int (w (15 + a1.toNatClampNeg) 6)) X hU (k_sC hk (k_isC_l (k_vlt hj5))) fl_X9_127 rfl dX9_openLayer_8 ?_
  refine lv_if_eq (tgt := 39) X.1 X.2.1 dX9_openLayer_11 (by decide) (fun c11 => ?_) (fun c11 => ?_)
  · replace hf := k_ifP hf c11
    refine lv_aload_n X.1 X.2.1 dX9_openLayer_39 rfl (lv_at hl 0 rfl) ?_
    refine lv_iconst (v := 1) X.1 X.2.1 dX9_openLayer_40 (by decide) ?_
    obtain ⟨w41, e41, hf⟩ := k_ltE hf
    refine k_putw X hU hS (k_sC hk (k_isC_l (k_vlt hj5))) fp_X9_120 rfl e41 rfl rfl dX9_openLayer_41 (fun H locs hU hS => ?_)
    refine lv_aload_n X.1 X.2.1 dX9_openLayer_44 rfl (lv_at hl 1 rfl) ?_
    refine k_getw (v := .ref (ad k 13)) X hU (sW_0 hk) fl_X9_42 rfl dX9_openLayer_45 ?_
    refine lv_aload_n X.1 X.2.1 dX9_openLayer_48 rfl (lv_at hl 1 rfl) ?_
    refine k_getw (v := .int (w41 0 6)) X hU (sW_0 hk) fl_X9_65 rfl dX9_openLayer_49 ?_
    refine lv_iconst (v := 0) X.1 X.2.1 dX9_openLayer_52 (by decide) ?_
    refine lv_iload_n X.1 X.2.1 dX9_openLayer_53 rfl (lv_at hl 2 rfl) ?_
    refine lv_aload_n X.1 X.2.1 dX9_openLayer_54 rfl (lv_at hl 1 rfl) ?_
    refine k_getw (v := .int (w41 0 1)) X hU (sW_0 hk) fl_X9_50 rfl dX9_openLayer_55 ?_
    obtain ⟨r58, hr58, hf⟩ := k_bdE hf
    refine k_backv X hS (k_runV (As := [.int (w41 0 6), .int 0, .int a1, .int (w41 0 1)]) (rest := []) X hS hU (sW_13 hk) (by decide) rfl vl_X9_157 (c_X1_keep X.2.2.2.2.2.2.1 hk (k_uc_s _ _ _) hr58) rfl rfl rfl hl.1 ⟨Nat.le_of_ble_eq_true rfl, Nat.le_of_ble_eq_true rfl⟩ (Nat.le_of_ble_eq_true rfl) dX9_openLayer_58 ⟨Nat.zero_le _, Nat.zero_le _⟩) (fun H locs hU hS => ?_)
    rw [k_uc_uc] at hU
    have hz := Option.some.inj hf
    subst hz
    exact k_vret X hU hS hr hlk dX9_openLayer_61
  · replace hf := k_ifN hf c11
    refine lv_aload_n X.1 X.2.1 dX9_openLayer_14 rfl (lv_at hl 0 rfl) ?_
    refine lv_iconst (v := 3) X.1 X.2.1 dX9_openLayer_15 (by decide) ?_
    obtain ⟨w16, e16, hf⟩ := k_ltE hf
    refine k_putw X hU hS (k_sC hk (k_isC_l (k_vlt hj5))) fp_X9_120 rfl e16 rfl rfl dX9_openLayer_16 (fun H locs hU hS => ?_)
    refine lv_aload_n X.1 X.2.1 dX9_openLayer_19 rfl (lv_at hl 1 rfl) ?_
    refine k_getw (v := .ref (ad k 13)) X hU (sW_0 hk) fl_X9_42 rfl dX9_openLayer_20 ?_
    refine lv_aload_n X.1 X.2.1 dX9_openLayer_23 rfl (lv_at hl 1 rfl) ?_
    refine k_getw (v := .int (w16 0 6)) X hU (sW_0 hk) fl_X9_65 rfl dX9_openLayer_24 ?_
    refine lv_iconst (v := 3) X.1 X.2.1 dX9_openLayer_27 (by decide) ?_
    refine lv_iload_n X.1 X.2.1 dX9_openLayer_28 rfl (lv_at hl 2 rfl) ?_
    refine lv_aload_n X.1 X.2.1 dX9_openLayer_29 rfl (lv_at hl 1 rfl) ?_
    refine k_getw (v := .int (w16 0 1)) X hU (sW_0 hk) fl_X9_50 rfl dX9_openLayer_30 ?_
    obtain ⟨r33, hr33, hf⟩ := k_bdE hf
    refine k_backv X hS (k_runV (As := [.int (w16 0 6), .int 3, .int a1, .int (w16 0 1)]) (rest := []) X hS hU (sW_13 hk) (by decide) rfl vl_X9_157 (c_X1_keep X.2.2.2.2.2.2.1 hk (k_uc_s _ _ _) hr33) rfl rfl rfl hl.1 ⟨Nat.le_of_ble_eq_true rfl, Nat.le_of_ble_eq_true rfl⟩ (Nat.le_of_ble_eq_true rfl) dX9_openLayer_33 ⟨Nat.zero_le _, Nat.zero_le _⟩) (fun H locs hU hS => ?_)
    rw [k_uc_uc] at hU
    refine lv_goto (tgt := 61) X.1 X.2.1 dX9_openLayer_36 (by decide) ?_
    have hz := Option.some.inj hf
    subst hz
    exact k_vret X hU hS hr hlk dX9_openLayer_61
def rm_X9_openWhatMay : Room := { frames := 2, cells := 0, slots := 0, locals := 47 }
set_option maxRecDepth 100000 in
set_option maxHeartbeats 4000000 in
theorem c_X9_openWhatMay {l : Launch} {D : va_G} {G : Nat → ClassId} {ad : Nat → Nat → Nat} {u : k_U} (hI : k_ok ad) {k : Nat} (hk : k_isW k) {w : k_M} (hw : u k = w) {sz : Nat} {r : k_M} (hf : f_X9_openWhatMay w = some r) : Met l yX9_openWhatMay (.code yX9_openWhatMay cX9_openWhatMay 3 none :: lw_g) rm_X9_openWhatMay (k_Pre D G ad u sz [.ref (ad k 0)]) (k_Qv D G ad (k_uc u k r) sz) 0 0 (k_A ad sz) := by
  refine k_ofW (by decide +kernel) hI (Nat.le_of_ble_eq_true rfl) ?_
  intro p e s m args below meth c X hr hlk hU hS ls hl
  have hl : lv_has ls 3 [(0, .ref (ad k 0))] := hl
  have hU : k_Uv D G ad (k_uc u k w) s.heap := by rw [← hw, k_uc_id]; exact hU
  unfold f_X9_openWhatMay at hf
  refine lv_aload_n X.1 X.2.1 dX9_openWhatMay_0 rfl (lv_at hl 0 rfl) ?_
  obtain ⟨r1, hr1, hf⟩ := k_bdE hf
  refine k_backi X hS (k_runV (As := []) (rest := []) X hS hU (sW_0 hk) (by decide) rfl vl_X9_151 (c_X9_firstLayerThatMayOpen X.2.2.2.2.2.2.1 hk (k_uc_s _ _ _) hr1) rfl rfl rfl hl.1 ⟨Nat.le_of_ble_eq_true rfl, Nat.le_of_ble_eq_true rfl⟩ (Nat.le_of_ble_eq_true rfl) dX9_openWhatMay_1 ⟨Nat.zero_le _, Nat.zero_le _⟩) (fun H locs hU hS => ?_)
  refine lv_istore_n (lv' := [(1, .int r1), (0, .ref (ad k 0))]) X.1 X.2.1 dX9_openWhatMay_4 rfl hl (by decide) rfl (fun ls hl => ?_)
  refine lv_aload_n X.1 X.2.1 dX9_openWhatMay_5 rfl (lv_at hl 1 rfl) ?_
  obtain ⟨r6, hr6, hf⟩ := k_bdE hf
  refine k_backi X hS (k_runV (As := []) (rest := []) X hS hU (sW_0 hk) (by decide) rfl vl_X9_154 (c_X9_failedLayers X.2.2.2.2.2.2.1 hk (k_uc_s _ _ _) hr6) rfl rfl rfl hl.1 ⟨Nat.le_of_ble_eq_true rfl, Nat.le_of_ble_eq_true rfl⟩ (Nat.le_of_ble_eq_true rfl) dX9_openWhatMay_6 ⟨Nat.zero_le _, Nat.zero_le _⟩) (fun H locs hU hS => ?_)
  refine lv_istore_n (lv' := [(2, .int r6), (1, .int r1), (0, .ref (ad k 0))]) X.1 X.2.1 dX9_openWhatMay_9 rfl hl (by decide) rfl (fun ls hl => ?_)
  refine lv_iload_n X.1 X.2.1 dX9_openWhatMay_10 rfl (lv_at hl 1 rfl) ?_
  refine lv_iconst (v := (-1)) X.1 X.2.1 dX9_openWhatMay_11 (by decide) ?_
  refine lv_icmp_eq (tgt := 23) X.1 X.2.1 dX9_openWhatMay_12 (by decide) (fun c12 => ?_) (fun c12 => ?_)
  · replace hf := k_ifP hf c12
    refine lv_aload_n X.1 X.2.1 dX9_openWhatMay_23 rfl (lv_at hl 2 rfl) ?_
    refine k_getw (v := .int (w 0 11)) X hU (sW_0 hk) fl_X9_80 rfl dX9_openWhatMay_24 ?_
    refine lv_if_eq (tgt := 60) X.1 X.2.1 dX9_openWhatMay_27 (by decide) (fun c27 => ?_) (fun c27 => ?_)
    · replace hf := k_ifP hf c27
      have hz := Option.some.inj hf
      subst hz
      exact k_vret X hU hS hr hlk dX9_openWhatMay_60
    · replace hf := k_ifN hf c27
      refine lv_aload_n X.1 X.2.1 dX9_openWhatMay_30 rfl (lv_at hl 2 rfl) ?_
      refine k_getw (v := .ref (ad k 2)) X hU (sW_0 hk) fl_X9_18 rfl dX9_openWhatMay_31 ?_
      refine lv_aload_n X.1 X.2.1 dX9_openWhatMay_34 rfl (lv_at hl 2 rfl) ?_
      refine k_getw (v := .int (w 0 0)) X hU (sW_0 hk) fl_X9_46 rfl dX9_openWhatMay_35 ?_
      obtain ⟨r38, hr38, hf⟩ := k_bdE hf
      refine k_backi X hS (k_runV (As := [.int (w 0 0)]) (rest := []) X hS hU (k_sC hk k_isC_2) (by decide) rfl vl_X9_139 (c_X0_isPackedAndBelowCeiling X.2.2.2.2.2.2.1 hk (k_uc_s _ _ _) k_isC_2 hr38) rfl rfl rfl hl.1 ⟨Nat.le_of_ble_eq_true rfl, Nat.le_of_ble_eq_true rfl⟩ (Nat.le_of_ble_eq_true rfl) dX9_openWhatMay_38 ⟨Nat.zero_le _, Nat.zero_le _⟩) (fun H locs hU hS => ?_)
      refine lv_if_eq (tgt := 60) X.1 X.2.1 dX9_openWhatMay_41 (by decide) (fun c41 => ?_) (fun c41 => ?_)
      · replace hf := k_ifP hf c41
        have hz := Option.some.inj hf
        subst hz
        exact k_vret X hU hS hr hlk dX9_openWhatMay_60
      · replace hf := k_ifN hf c41
        refine lv_iload_n X.1 X.2.1 dX9_openWhatMay_44 rfl (lv_at hl 0 rfl) ?_
        refine lv_aload_n X.1 X.2.1 dX9_openWhatMay_45 rfl (lv_at hl 2 rfl) ?_
        refine k_getw (v := .ref (ad k 2)) X hU (sW_0 hk) fl_X9_18 rfl dX9_openWhatMay_46 ?_
        refine k_getw (v := .int (w 2 4)) X hU (k_sC hk k_isC_2) fl_X9_142 rfl dX9_openWhatMay_49 ?_
        refine lv_icmp_lt (tgt := 60) X.1 X.2.1 dX9_openWhatMay_52 (by decide) (fun c52 => ?_) (fun c52 => ?_)
        · replace hf := k_ifP hf c52
          have hz := Option.some.inj hf
          subst hz
          exact k_vret X hU hS hr hlk dX9_openWhatMay_60
        · replace hf := k_ifN hf c52
          refine lv_aload_n X.1 X.2.1 dX9_openWhatMay_55 rfl (lv_at hl 2 rfl) ?_
          refine lv_iload_n X.1 X.2.1 dX9_openWhatMay_56 rfl (lv_at hl 0 rfl) ?_
          obtain ⟨r57, hr57, hf⟩ := k_bdE hf
          refine k_backv X hS (k_runV (As := [.int r6]) (rest := []) X hS hU (sW_0 hk) (by decide) rfl vl_X9_200 (c_X9_openTheReserve X.2.2.2.2.2.2.1 hk (k_uc_s _ _ _) hr57) rfl rfl rfl hl.1 ⟨Nat.le_of_ble_eq_true rfl, Nat.le_of_ble_eq_true rfl⟩ (Nat.le_of_ble_eq_true rfl) dX9_openWhatMay_57 ⟨Nat.zero_le _, Nat.zero_le _⟩) (fun H locs hU hS => ?_)
          rw [k_uc_uc] at hU
          have hz := Option.some.inj hf
          subst hz
          exact k_vret X hU hS hr hlk dX9_openWhatMay_60
  · replace hf := k_ifN hf c12
    refine lv_aload_n X.1 X.2.1 dX9_openWhatMay_15 rfl (lv_at hl 2 rfl) ?_
    refine lv_iload_n X.1 X.2.1 dX9_openWhatMay_16 rfl (lv_at hl 1 rfl) ?_
    obtain ⟨r17, hr17, hf⟩ := k_bdE hf
    refine k_backv X hS (k_runV (As := [.int r1]) (rest := []) X hS hU (sW_0 hk) (by decide) rfl vl_X9_196 (c_X9_openLayer X.2.2.2.2.2.2.1 hk (k_uc_s _ _ _) hr17) rfl rfl rfl hl.1 ⟨Nat.le_of_ble_eq_true rfl, Nat.le_of_ble_eq_true rfl⟩ (Nat.le_of_ble_eq_true rfl) dX9_openWhatMay_17 ⟨Nat.zero_le _, Nat.zero_le _⟩) (fun H locs hU hS => ?_)
    rw [k_uc_uc] at hU
    refine lv_goto (tgt := 60) X.1 X.2.1 dX9_openWhatMay_20 (by decide) ?_
    have hz := Option.some.inj hf
    subst hz
    exact k_vret X hU hS hr hlk dX9_openWhatMay_60
def rm_X9_hasLayer : Room := { frames := 0, cells := 0, slots := 0, locals := 0 }
set_option maxRecDepth 100000 in
set_option maxHeartbeats 4000000 in
theorem c_X9_hasLayer {l : Launch} {D : va_G} {G : Nat → ClassId} {ad : Nat → Nat → Nat} {u : k_U} (hI : k_ok ad) {k : Nat} (hk : k_isW k) {w : k_M} (hw : u k = w) {a1 : Int32} {sz : Nat} {r : Int32} (hf : f_X9_hasLayer w a1 = some r) : Met l yX9_hasLayer (.code yX9_hasLayer cX9_hasLayer 2 (some .boolean) :: lw_g) rm_X9_hasLayer (k_Pre D G ad u sz [.ref (ad k 0), .int a1]) (k_Qi D G ad u r sz) 0 0 (k_A ad sz) := by
  refine k_ofW (by decide +kernel) hI (Nat.le_of_ble_eq_true rfl) ?_
  intro p e s m args below meth c X hr hlk hU hS ls hl
  have hl : lv_has ls 2 [(0, .ref (ad k 0)), (1, .int a1)] := hl
  have hU : k_Uv D G ad (k_uc u k w) s.heap := by rw [← hw, k_uc_id]; exact hU
  unfold f_X9_hasLayer at hf
  refine lv_iload_n X.1 X.2.1 dX9_hasLayer_0 rfl (lv_at hl 1 rfl) ?_
  refine lv_if_lt (tgt := 16) X.1 X.2.1 dX9_hasLayer_1 (by decide) (fun c1 => ?_) (fun c1 => ?_)
  · replace hf := k_ifP hf c1
    refine lv_iconst (v := 0) X.1 X.2.1 dX9_hasLayer_16 (by decide) ?_
    rw [← hw, k_uc_id] at hU
    have hz := Option.some.inj hf
    subst hz
    exact k_iret (v := 0) X hU hS hr hlk rfl rfl dX9_hasLayer_17
  · replace hf := k_ifN hf c1
    refine lv_iload_n X.1 X.2.1 dX9_hasLayer_4 rfl (lv_at hl 1 rfl) ?_
    refine lv_aload_n X.1 X.2.1 dX9_hasLayer_5 rfl (lv_at hl 0 rfl) ?_
    refine k_getw (v := .int (w 0 10)) X hU (sW_0 hk) fl_X9_77 rfl dX9_hasLayer_6 ?_
    refine lv_icmp_ge (tgt := 16) X.1 X.2.1 dX9_hasLayer_9 (by decide) (fun c9 => ?_) (fun c9 => ?_)
    · replace hf := k_ifP hf c9
      refine lv_iconst (v := 0) X.1 X.2.1 dX9_hasLayer_16 (by decide) ?_
      rw [← hw, k_uc_id] at hU
      have hz := Option.some.inj hf
      subst hz
      exact k_iret (v := 0) X hU hS hr hlk rfl rfl dX9_hasLayer_17
    · replace hf := k_ifN hf c9
      refine lv_iconst (v := 1) X.1 X.2.1 dX9_hasLayer_12 (by decide) ?_
      refine lv_goto (tgt := 17) X.1 X.2.1 dX9_hasLayer_13 (by decide) ?_
      rw [← hw, k_uc_id] at hU
      have hz := Option.some.inj hf
      subst hz
      exact k_iret (v := 1) X hU hS hr hlk rfl rfl dX9_hasLayer_17
def rm_X9_chuteAt : Room := { frames := 1, cells := 0, slots := 0, locals := 21 }
set_option maxRecDepth 100000 in
set_option maxHeartbeats 4000000 in
theorem c_X9_chuteAt {l : Launch} {D : va_G} {G : Nat → ClassId} {ad : Nat → Nat → Nat} {u : k_U} (hI : k_ok ad) {k : Nat} (hk : k_isW k) {w : k_M} (hw : u k = w) {a1 : Int32} {sz : Nat} {r : Nat} (hf : f_X9_chuteAt w a1 = some r) : Met l yX9_chuteAt (.code yX9_chuteAt cX9_chuteAt 2 (some (.object "LayeredChute$Chute")) :: lw_g) rm_X9_chuteAt (k_Pre D G ad u sz [.ref (ad k 0), .int a1]) (k_Qr D G ad u (ad k r) sz) 0 0 (k_A ad sz) := by
  refine k_ofW (by decide +kernel) hI (Nat.le_of_ble_eq_true rfl) ?_
  intro p e s m args below meth c X hr hlk hU hS ls hl
  have hl : lv_has ls 2 [(0, .ref (ad k 0)), (1, .int a1)] := hl
  have hU : k_Uv D G ad (k_uc u k w) s.heap := by rw [← hw, k_uc_id]; exact hU
  unfold f_X9_chuteAt at hf
  refine lv_aload_n X.1 X.2.1 dX9_chuteAt_0 rfl (lv_at hl 0 rfl) ?_
  refine lv_iload_n X.1 X.2.1 dX9_chuteAt_1 rfl (lv_at hl 1 rfl) ?_
  obtain ⟨r2, hr2, hf⟩ := k_bdE hf
  refine k_backi X hS (k_runV (As := [.int a1]) (rest := []) X hS hU (sW_0 hk) (by decide) rfl vl_X9_108 (c_X9_hasLayer X.2.2.2.2.2.2.1 hk (k_uc_s _ _ _) hr2) rfl rfl rfl hl.1 ⟨Nat.le_of_ble_eq_true rfl, Nat.le_of_ble_eq_true rfl⟩ (Nat.le_of_ble_eq_true rfl) dX9_chuteAt_2 ⟨Nat.zero_le _, Nat.zero_le _⟩) (fun H locs hU hS => ?_)
  refine lv_if_eq (tgt := 17) X.1 X.2.1 dX9_chuteAt_5 (by decide) (fun c5 => ?_) (fun c5 => ?_)
  · replace hf := k_ifP hf c5
    refine lv_aload_n X.1 X.2.1 dX9_chuteAt_17 rfl (lv_at hl 0 rfl) ?_
    refine k_getw (v := .ref (ad k 2)) X hU (sW_0 hk) fl_X9_18 rfl dX9_chuteAt_18 ?_
    rw [← hw, k_uc_id] at hU
    have hz := Option.some.inj hf
    subst hz
    exact k_aret X hU hS hr hlk rfl dX9_chuteAt_21
  · replace hf := k_ifN hf c5
    refine lv_aload_n X.1 X.2.1 dX9_chuteAt_8 rfl (lv_at hl 0 rfl) ?_
    refine k_getw (v := .ref (ad k 1)) X hU (sW_0 hk) fl_X9_13 rfl dX9_chuteAt_9 ?_
    refine lv_iload_n X.1 X.2.1 dX9_chuteAt_12 rfl (lv_at hl 1 rfl) ?_
    obtain ⟨hi13, hf⟩ := k_ckE hf
    have hj13 := (k_vin (n := 8) hi13 (by decide))
    refine k_ald (C := "LayeredChute$Chute") (tag := 23) (t0 := 3) (z := (k, (15 + a1.toNatClampNeg))) X hU ⟨by decide, by decide⟩ rfl (sW_1 hk) hj13 (k_rWl_at hj13) dX9_chuteAt_13 ?_
    refine lv_goto (tgt := 21) X.1 X.2.1 dX9_chuteAt_14 (by decide) ?_
    rw [← hw, k_uc_id] at hU
    have hz := Option.some.inj hf
    subst hz
    exact k_aret X hU hS hr hlk rfl dX9_chuteAt_21
def rm_X0_pull : Room := { frames := 0, cells := 0, slots := 0, locals := 0 }
set_option maxRecDepth 100000 in
set_option maxHeartbeats 4000000 in
theorem c_X0_pull {l : Launch} {D : va_G} {G : Nat → ClassId} {ad : Nat → Nat → Nat} {u : k_U} (hI : k_ok ad) {k : Nat} (hk : k_isW k) {w : k_M} (hw : u k = w) {q : Nat} {a1 : Int32} {a2 : Int32} (hq : k_isC q) {sz : Nat} {r : Int64} (hf : f_X0_pull w q a1 a2 = some r) : Met l yX0_pull (.code yX0_pull cX0_pull 3 (some .long) :: lw_g) rm_X0_pull (k_Pre D G ad u sz [.ref (ad k q), .int a1, .int a2]) (k_Ql D G ad u r sz) 0 0 (k_A ad sz) := by
  refine k_ofW (by decide +kernel) hI (Nat.le_of_ble_eq_true rfl) ?_
  intro p e s m args below meth c X hr hlk hU hS ls hl
  have hl : lv_has ls 3 [(0, .ref (ad k q)), (1, .int a1), (2, .int a2)] := hl
  have hU : k_Uv D G ad (k_uc u k w) s.heap := by rw [← hw, k_uc_id]; exact hU
  unfold f_X0_pull at hf
  refine lv_aload_n X.1 X.2.1 dX0_pull_0 rfl (lv_at hl 0 rfl) ?_
  refine k_getw (v := .int (w q 0)) X hU (k_sC hk hq) fl_X0_9 rfl dX0_pull_1 ?_
  refine lv_i2l (v := (w q 0).toInt64) X.1 X.2.1 dX0_pull_4 rfl ?_
  refine lv_iload_n X.1 X.2.1 dX0_pull_5 rfl (lv_at hl 1 rfl) ?_
  refine lv_i2l (v := a1.toInt64) X.1 X.2.1 dX0_pull_6 rfl ?_
  refine lv_lmul X.1 X.2.1 dX0_pull_7 ?_
  refine lv_iload_n X.1 X.2.1 dX0_pull_8 rfl (lv_at hl 2 rfl) ?_
  refine lv_i2l (v := a2.toInt64) X.1 X.2.1 dX0_pull_9 rfl ?_
  refine lv_lmul X.1 X.2.1 dX0_pull_10 ?_
  refine lv_iload_n X.1 X.2.1 dX0_pull_11 rfl (lv_at hl 2 rfl) ?_
  refine lv_i2l (v := a2.toInt64) X.1 X.2.1 dX0_pull_12 rfl ?_
  refine lv_lmul X.1 X.2.1 dX0_pull_13 ?_
  refine lv_ldc2 (v := 10000) X.1 X.2.1 X.2.2.2.1 (X.2.2.2.2.1 _ t_786) dX0_pull_14 ?_
  refine lv_ldiv X.1 X.2.1 dX0_pull_17 (by decide) ?_
  rw [← hw, k_uc_id] at hU
  have hz := Option.some.inj hf
  subst hz
  exact k_lret (v := ((((((w q 0).toInt64) * a1.toInt64) * a2.toInt64) * a2.toInt64) / (10000 : Int64))) X hU hS hr hlk rfl dX0_pull_18
def rm_X0_loadOfOneLine : Room := { frames := 0, cells := 0, slots := 0, locals := 0 }
set_option maxRecDepth 100000 in
set_option maxHeartbeats 4000000 in
theorem c_X0_loadOfOneLine {l : Launch} {D : va_G} {G : Nat → ClassId} {ad : Nat → Nat → Nat} {u : k_U} (hI : k_ok ad) {k : Nat} (hk : k_isW k) {w : k_M} (hw : u k = w) {q : Nat} {a1 : Int64} {a3 : Int32} {a4 : Int32} (hq : k_isC q) {sz : Nat} {r : Int64} (hf : f_X0_loadOfOneLine w q a1 a3 a4 = some r) : Met l yX0_loadOfOneLine (.code yX0_loadOfOneLine cX0_loadOfOneLine 9 (some .long) :: lw_g) rm_X0_loadOfOneLine (k_Pre D G ad u sz [.ref (ad k q), .long a1, .int a3, .int a4]) (k_Ql D G ad u r sz) 0 0 (k_A ad sz) := by
  refine k_ofW (by decide +kernel) hI (Nat.le_of_ble_eq_true rfl) ?_
  intro p e s m args below meth c X hr hlk hU hS ls hl
  have hl : lv_has ls 9 [(0, .ref (ad k q)), (1, .long a1), (3, .int a3), (4, .int a4)] := hl
  have hU : k_Uv D G ad (k_uc u k w) s.heap := by rw [← hw, k_uc_id]; exact hU
  have J27 : ∀ (H : Heap) (locs : List Loc) (ls : Array Slot) (a1 : Int64) (a5 : Int32) (as0 : Int32), k_Uv D G ad (k_uc u k w) H → va_S (k_A ad sz) s.heap H locs → lv_has ls 9 [(1, .long a1), (5, .int a5)] → f_X0_loadOfOneLine_27 w q a3 a4 a1 a5 as0 = some r → W p l e rm_X0_loadOfOneLine s m args below meth c H locs 0 0 (MQ below (k_Ql D G ad u r sz) args s 0 0 (k_A ad sz)) (F0 m 27 ls [.int as0]) := by
    intro H locs ls a1 a5 as0 hU hS hl hf
    unfold f_X0_loadOfOneLine_27 at hf
    refine lv_istore (lv' := [(6, .int as0), (1, .long a1), (5, .int a5)]) X.1 X.2.1 dX0_loadOfOneLine_27 hl (by decide) rfl (fun ls hl => ?_)
    refine lv_lload_n X.1 X.2.1 dX0_loadOfOneLine_29 rfl (lv_at hl 1 rfl) ?_
    refine lv_bipush (v := 100) X.1 X.2.1 dX0_loadOfOneLine_30 (by decide) ?_
    refine lv_iconst (v := 5) X.1 X.2.1 dX0_loadOfOneLine_32 (by decide) ?_
    refine lv_iload X.1 X.2.1 dX0_loadOfOneLine_33 (lv_at hl 0 rfl) ?_
    refine lv_imul X.1 X.2.1 dX0_loadOfOneLine_35 ?_
    refine lv_iadd X.1 X.2.1 dX0_loadOfOneLine_36 ?_
    refine lv_i2l (v := (100 + (5 * as0)).toInt64) X.1 X.2.1 dX0_loadOfOneLine_37 rfl ?_
    refine lv_lmul X.1 X.2.1 dX0_loadOfOneLine_38 ?_
    refine lv_ldc2 (v := 100) X.1 X.2.1 X.2.2.2.1 (X.2.2.2.2.1 _ t_795) dX0_loadOfOneLine_39 ?_
    refine lv_ldiv X.1 X.2.1 dX0_loadOfOneLine_42 (by decide) ?_
    obtain ⟨x43, e43, hf⟩ := k_ltE hf
    refine k_nml e43 ?_
    refine lv_lstore (lv' := [(7, .long x43), (6, .int as0), (1, .long a1), (5, .int a5)]) X.1 X.2.1 dX0_loadOfOneLine_43 hl (by decide) rfl (fun ls hl => ?_)
    refine lv_lload X.1 X.2.1 dX0_loadOfOneLine_45 (lv_at hl 0 rfl) ?_
    refine lv_iload X.1 X.2.1 dX0_loadOfOneLine_47 (lv_at hl 3 rfl) ?_
    refine lv_i2l (v := a5.toInt64) X.1 X.2.1 dX0_loadOfOneLine_49 rfl ?_
    refine lv_ladd X.1 X.2.1 dX0_loadOfOneLine_50 ?_
    refine lv_lconst (v := 1) X.1 X.2.1 dX0_loadOfOneLine_51 (by decide) ?_
    refine lv_lsub X.1 X.2.1 dX0_loadOfOneLine_52 ?_
    refine lv_iload X.1 X.2.1 dX0_loadOfOneLine_53 (lv_at hl 3 rfl) ?_
    refine lv_i2l (v := a5.toInt64) X.1 X.2.1 dX0_loadOfOneLine_55 rfl ?_
    obtain ⟨hi56, hf⟩ := k_ckE hf
    refine lv_ldiv X.1 X.2.1 dX0_loadOfOneLine_56 hi56 ?_
    rw [← hw, k_uc_id] at hU
    have hz := Option.some.inj hf
    subst hz
    exact k_lret (v := (((x43 + a5.toInt64) - (1 : Int64)) / a5.toInt64)) X hU hS hr hlk rfl dX0_loadOfOneLine_57
  unfold f_X0_loadOfOneLine at hf
  refine lv_aload_n X.1 X.2.1 dX0_loadOfOneLine_0 rfl (lv_at hl 0 rfl) ?_
  refine k_getw (v := .int (w q 1)) X hU (k_sC hk hq) fl_X0_15 rfl dX0_loadOfOneLine_1 ?_
  refine lv_iload X.1 X.2.1 dX0_loadOfOneLine_4 (lv_at hl 3 rfl) ?_
  refine lv_isub X.1 X.2.1 dX0_loadOfOneLine_6 ?_
  obtain ⟨x7, e7, hf⟩ := k_ltE hf
  refine k_nmi e7 ?_
  refine lv_istore (lv' := [(5, .int x7), (0, .ref (ad k q)), (1, .long a1), (3, .int a3), (4, .int a4)]) X.1 X.2.1 dX0_loadOfOneLine_7 hl (by decide) rfl (fun ls hl => ?_)
  refine lv_iload X.1 X.2.1 dX0_loadOfOneLine_9 (lv_at hl 0 rfl) ?_
  refine lv_iconst (v := 1) X.1 X.2.1 dX0_loadOfOneLine_11 (by decide) ?_
  refine lv_icmp_ge (tgt := 17) X.1 X.2.1 dX0_loadOfOneLine_12 (by decide) (fun c12 => ?_) (fun c12 => ?_)
  · replace hf := k_ifP hf c12
    refine lv_iload_n X.1 X.2.1 dX0_loadOfOneLine_17 rfl (lv_at hl 3 rfl) ?_
    refine lv_if_ge (tgt := 26) X.1 X.2.1 dX0_loadOfOneLine_18 (by decide) (fun c18 => ?_) (fun c18 => ?_)
    · replace hf := k_ifP hf c18
      refine lv_iload_n X.1 X.2.1 dX0_loadOfOneLine_26 rfl (lv_at hl 3 rfl) ?_
      exact J27 _ _ _ a1 x7 a3 hU hS (lv_sub hl [2, 0] rfl) hf
    · replace hf := k_ifN hf c18
      refine lv_iload_n X.1 X.2.1 dX0_loadOfOneLine_21 rfl (lv_at hl 3 rfl) ?_
      refine lv_ineg X.1 X.2.1 dX0_loadOfOneLine_22 ?_
      refine lv_goto (tgt := 27) X.1 X.2.1 dX0_loadOfOneLine_23 (by decide) ?_
      exact J27 _ _ _ a1 x7 (-a3) hU hS (lv_sub hl [2, 0] rfl) hf
  · replace hf := k_ifN hf c12
    refine lv_lconst (v := 0) X.1 X.2.1 dX0_loadOfOneLine_15 (by decide) ?_
    rw [← hw, k_uc_id] at hU
    have hz := Option.some.inj hf
    subst hz
    exact k_lret (v := (0 : Int64)) X hU hS hr hlk rfl dX0_loadOfOneLine_16
def rm_X0_strengthOf : Room := { frames := 0, cells := 0, slots := 0, locals := 0 }
set_option maxRecDepth 100000 in
set_option maxHeartbeats 4000000 in
theorem c_X0_strengthOf {l : Launch} {D : va_G} {G : Nat → ClassId} {ad : Nat → Nat → Nat} {u : k_U} (hI : k_ok ad) {k : Nat} (hk : k_isW k) {w : k_M} (hw : u k = w) {q : Nat} {a1 : Int32} (hq : k_isC q) {sz : Nat} {r : Int32} (hf : f_X0_strengthOf w q a1 = some r) : Met l yX0_strengthOf (.code yX0_strengthOf cX0_strengthOf 2 (some .int) :: lw_g) rm_X0_strengthOf (k_Pre D G ad u sz [.ref (ad k q), .int a1]) (k_Qi D G ad u r sz) 0 0 (k_A ad sz) := by
  refine k_ofW (by decide +kernel) hI (Nat.le_of_ble_eq_true rfl) ?_
  intro p e s m args below meth c X hr hlk hU hS ls hl
  have hl : lv_has ls 2 [(0, .ref (ad k q)), (1, .int a1)] := hl
  have hU : k_Uv D G ad (k_uc u k w) s.heap := by rw [← hw, k_uc_id]; exact hU
  unfold f_X0_strengthOf at hf
  refine lv_aload_n X.1 X.2.1 dX0_strengthOf_0 rfl (lv_at hl 0 rfl) ?_
  refine k_getw (v := .int (w q 2)) X hU (k_sC hk hq) fl_X0_18 rfl dX0_strengthOf_1 ?_
  refine lv_iconst (v := 3) X.1 X.2.1 dX0_strengthOf_4 (by decide) ?_
  refine lv_iload_n X.1 X.2.1 dX0_strengthOf_5 rfl (lv_at hl 1 rfl) ?_
  refine lv_imul X.1 X.2.1 dX0_strengthOf_6 ?_
  refine lv_iadd X.1 X.2.1 dX0_strengthOf_7 ?_
  rw [← hw, k_uc_id] at hU
  have hz := Option.some.inj hf
  subst hz
  exact k_iret (v := ((w q 2) + (3 * a1))) X hU hS hr hlk rfl rfl dX0_strengthOf_8
def rm_X0_linesThatTear : Room := { frames := 1, cells := 0, slots := 0, locals := 28 }
set_option maxRecDepth 100000 in
set_option maxHeartbeats 4000000 in
theorem c_X0_linesThatTear {l : Launch} {D : va_G} {G : Nat → ClassId} {ad : Nat → Nat → Nat} {u : k_U} (hI : k_ok ad) {k : Nat} (hk : k_isW k) {w : k_M} (hw : u k = w) {q : Nat} {a1 : Int64} {a3 : Int32} {a4 : Int32} (hq : k_isC q) {sz : Nat} {r : Int32} (hf : f_X0_linesThatTear w q a1 a3 a4 = some r) : Met l yX0_linesThatTear (.code yX0_linesThatTear cX0_linesThatTear 9 (some .int) :: lw_g) rm_X0_linesThatTear (k_Pre D G ad u sz [.ref (ad k q), .long a1, .int a3, .int a4]) (k_Qi D G ad u r sz) 0 0 (k_A ad sz) := by
  refine k_ofW (by decide +kernel) hI (Nat.le_of_ble_eq_true rfl) ?_
  intro p e s m args below meth c X hr hlk hU hS ls hl
  have hl : lv_has ls 9 [(0, .ref (ad k q)), (1, .long a1), (3, .int a3), (4, .int a4)] := hl
  have hU : k_Uv D G ad (k_uc u k w) s.heap := by rw [← hw, k_uc_id]; exact hU
  have J81 : ∀ (H : Heap) (locs : List Loc) (ls : Array Slot) (a5 : Int32), k_Uv D G ad (k_uc u k w) H → va_S (k_A ad sz) s.heap H locs → lv_has ls 9 [(0, .ref (ad k q)), (5, .int a5)] → f_X0_linesThatTear_81 w q a1 a3 a4 a5 = some r → W p l e rm_X0_linesThatTear s m args below meth c H locs 0 0 (MQ below (k_Qi D G ad u r sz) args s 0 0 (k_A ad sz)) (F0 m 81 ls []) := by
    intro H locs ls a5 hU hS hl hf
    unfold f_X0_linesThatTear_81 at hf
    refine lv_iload X.1 X.2.1 dX0_linesThatTear_81 (lv_at hl 1 rfl) ?_
    refine lv_aload_n X.1 X.2.1 dX0_linesThatTear_83 rfl (lv_at hl 0 rfl) ?_
    refine k_getw (v := .int (w q 7)) X hU (k_sC hk hq) fl_X0_34 rfl dX0_linesThatTear_84 ?_
    refine lv_isub X.1 X.2.1 dX0_linesThatTear_87 ?_
    rw [← hw, k_uc_id] at hU
    have hz := Option.some.inj hf
    subst hz
    exact k_iret (v := (a5 - (w q 7))) X hU hS hr hlk rfl rfl dX0_linesThatTear_88
  have L9 : ∀ (n9 : Nat) (H : Heap) (locs : List Loc) (ls : Array Slot) (a1 : Int64) (a3 : Int32) (a4 : Int32) (a5 : Int32) (a6 : Int32), k_Uv D G ad (k_uc u k w) H → va_S (k_A ad sz) s.heap H locs → lv_has ls 9 [(0, .ref (ad k q)), (1, .long a1), (3, .int a3), (4, .int a4), (5, .int a5), (6, .int a6)] → f_X0_linesThatTear_9 n9 w q a1 a3 a4 a5 a6 = some r → W p l e rm_X0_linesThatTear s m args below meth c H locs 0 0 (MQ below (k_Qi D G ad u r sz) args s 0 0 (k_A ad sz)) (F0 m 9 ls []) := by
    intro n9
    induction n9 with
    | zero =>
      intro H locs ls a1 a3 a4 a5 a6 hU hS hl hf
      cases (show none = some r from hf)
    | succ n9 ih9 =>
      have J78 : ∀ (H : Heap) (locs : List Loc) (ls : Array Slot) (a1 : Int64) (a3 : Int32) (a4 : Int32) (a5 : Int32) (a6 : Int32), k_Uv D G ad (k_uc u k w) H → va_S (k_A ad sz) s.heap H locs → lv_has ls 9 [(0, .ref (ad k q)), (1, .long a1), (3, .int a3), (4, .int a4), (5, .int a5), (6, .int a6)] → f_X0_linesThatTear_78 (f_X0_linesThatTear_9 n9) w q a1 a3 a4 a5 a6 = some r → W p l e rm_X0_linesThatTear s m args below meth c H locs 0 0 (MQ below (k_Qi D G ad u r sz) args s 0 0 (k_A ad sz)) (F0 m 78 ls []) := by
        intro H locs ls a1 a3 a4 a5 a6 hU hS hl hf
        unfold f_X0_linesThatTear_78 at hf
        refine lv_goto (tgt := 9) X.1 X.2.1 dX0_linesThatTear_78 (by decide) ?_
        exact ih9 _ _ _ a1 a3 a4 a5 a6 hU hS (lv_sub hl [0, 1, 2, 3, 4, 5] rfl) hf
      have L39 : ∀ (n39 : Nat) (H : Heap) (locs : List Loc) (ls : Array Slot) (a1 : Int64) (a3 : Int32) (a4 : Int32) (a5 : Int32) (a6 : Int32) (a7 : Int64), k_Uv D G ad (k_uc u k w) H → va_S (k_A ad sz) s.heap H locs → lv_has ls 9 [(0, .ref (ad k q)), (1, .long a1), (3, .int a3), (4, .int a4), (5, .int a5), (6, .int a6), (7, .long a7)] → f_X0_linesThatTear_39 (f_X0_linesThatTear_9 n9) n39 w q a1 a3 a4 a5 a6 a7 = some r → W p l e rm_X0_linesThatTear s m args below meth c H locs 0 0 (MQ below (k_Qi D G ad u r sz) args s 0 0 (k_A ad sz)) (F0 m 39 ls []) := by
        intro n39
        induction n39 with
        | zero =>
          intro H locs ls a1 a3 a4 a5 a6 a7 hU hS hl hf
          cases (show none = some r from hf)
        | succ n39 ih39 =>
          intro H locs ls a1 a3 a4 a5 a6 a7 hU hS hl hf
          replace hf : f_X0_linesThatTear_39_b (f_X0_linesThatTear_9 n9) (f_X0_linesThatTear_39 (f_X0_linesThatTear_9 n9) n39) w q a1 a3 a4 a5 a6 a7 = some r := hf
          unfold f_X0_linesThatTear_39_b at hf
          refine lv_iload X.1 X.2.1 dX0_linesThatTear_39 (lv_at hl 4 rfl) ?_
          refine lv_aload_n X.1 X.2.1 dX0_linesThatTear_41 rfl (lv_at hl 0 rfl) ?_
          refine k_getw (v := .int (w q 1)) X hU (k_sC hk hq) fl_X0_15 rfl dX0_linesThatTear_42 ?_
          refine lv_icmp_ge (tgt := 78) X.1 X.2.1 dX0_linesThatTear_45 (by decide) (fun c45 => ?_) (fun c45 => ?_)
          · replace hf := k_ifP hf c45
            exact J78 _ _ _ a1 a3 a4 a5 a6 hU hS (lv_sub hl [0, 1, 2, 3, 4, 5] rfl) hf
          · replace hf := k_ifN hf c45
            refine lv_aload_n X.1 X.2.1 dX0_linesThatTear_48 rfl (lv_at hl 0 rfl) ?_
            refine lv_iload X.1 X.2.1 dX0_linesThatTear_49 (lv_at hl 4 rfl) ?_
            obtain ⟨r51, hr51, hf⟩ := k_bdE hf
            refine k_backi X hS (k_runV (As := [.int a5]) (rest := []) X hS hU (k_sC hk hq) (by decide) rfl vl_X0_45 (c_X0_strengthOf X.2.2.2.2.2.2.1 hk (k_uc_s _ _ _) hq hr51) rfl rfl rfl hl.1 ⟨Nat.le_of_ble_eq_true rfl, Nat.le_of_ble_eq_true rfl⟩ (Nat.le_of_ble_eq_true rfl) dX0_linesThatTear_51 ⟨Nat.zero_le _, Nat.zero_le _⟩) (fun H locs hU hS => ?_)
            refine lv_sipush (v := 1000) X.1 X.2.1 dX0_linesThatTear_54 (by decide) ?_
            refine lv_iload X.1 X.2.1 dX0_linesThatTear_57 (lv_at hl 3 rfl) ?_
            refine lv_isub X.1 X.2.1 dX0_linesThatTear_59 ?_
            refine lv_imul X.1 X.2.1 dX0_linesThatTear_60 ?_
            refine lv_sipush (v := 1000) X.1 X.2.1 dX0_linesThatTear_61 (by decide) ?_
            refine lv_idiv X.1 X.2.1 dX0_linesThatTear_64 (by decide) ?_
            refine lv_i2l (v := ((r51 * (1000 - a4)) / 1000).toInt64) X.1 X.2.1 dX0_linesThatTear_65 rfl ?_
            refine lv_lload X.1 X.2.1 dX0_linesThatTear_66 (lv_at hl 6 rfl) ?_
            refine W.lcmp X.1 X.2.1 dX0_linesThatTear_68 ?_
            refine lv_if_ge (tgt := 78) X.1 X.2.1 dX0_linesThatTear_69 (by decide) (fun c69 => ?_) (fun c69 => ?_)
            · replace hf := k_ifP hf c69
              exact J78 _ _ _ a1 a3 a4 a5 a6 hU hS (lv_sub hl [0, 1, 2, 3, 4, 5] rfl) hf
            · replace hf := k_ifN hf c69
              obtain ⟨x72, e72, hf⟩ := k_ltE hf
              refine lv_iinc (v := x72) (lv' := [(5, .int x72), (0, .ref (ad k q)), (1, .long a1), (3, .int a3), (4, .int a4), (6, .int a6), (7, .long a7)]) X.1 X.2.1 dX0_linesThatTear_72 hl (k := 4) rfl (by rw [e72]; rfl) (by decide) rfl (fun ls hl => ?_)
              refine lv_goto (tgt := 39) X.1 X.2.1 dX0_linesThatTear_75 (by decide) ?_
              exact ih39 _ _ _ a1 a3 a4 x72 a6 a7 hU hS (lv_sub hl [1, 2, 3, 4, 0, 5, 6] rfl) hf
      intro H locs ls a1 a3 a4 a5 a6 hU hS hl hf
      replace hf : f_X0_linesThatTear_9_b (f_X0_linesThatTear_9 n9) w q a1 a3 a4 a5 a6 = some r := hf
      unfold f_X0_linesThatTear_9_b at hf
      refine lv_iload X.1 X.2.1 dX0_linesThatTear_9 (lv_at hl 4 rfl) ?_
      refine lv_iload X.1 X.2.1 dX0_linesThatTear_11 (lv_at hl 5 rfl) ?_
      refine lv_icmp_le (tgt := 81) X.1 X.2.1 dX0_linesThatTear_13 (by decide) (fun c13 => ?_) (fun c13 => ?_)
      · replace hf := k_ifP hf c13
        exact J81 _ _ _ a5 hU hS (lv_sub hl [0, 4] rfl) hf
      · replace hf := k_ifN hf c13
        refine lv_iload X.1 X.2.1 dX0_linesThatTear_16 (lv_at hl 4 rfl) ?_
        refine lv_aload_n X.1 X.2.1 dX0_linesThatTear_18 rfl (lv_at hl 0 rfl) ?_
        refine k_getw (v := .int (w q 1)) X hU (k_sC hk hq) fl_X0_15 rfl dX0_linesThatTear_19 ?_
        refine lv_icmp_ge (tgt := 81) X.1 X.2.1 dX0_linesThatTear_22 (by decide) (fun c22 => ?_) (fun c22 => ?_)
        · replace hf := k_ifP hf c22
          exact J81 _ _ _ a5 hU hS (lv_sub hl [0, 4] rfl) hf
        · replace hf := k_ifN hf c22
          refine lv_iload X.1 X.2.1 dX0_linesThatTear_25 (lv_at hl 4 rfl) ?_
          refine lv_istore (lv' := [(6, .int a5), (0, .ref (ad k q)), (1, .long a1), (3, .int a3), (4, .int a4), (5, .int a5)]) X.1 X.2.1 dX0_linesThatTear_27 hl (by decide) rfl (fun ls hl => ?_)
          refine lv_aload_n X.1 X.2.1 dX0_linesThatTear_29 rfl (lv_at hl 1 rfl) ?_
          refine lv_lload_n X.1 X.2.1 dX0_linesThatTear_30 rfl (lv_at hl 2 rfl) ?_
          refine lv_iload_n X.1 X.2.1 dX0_linesThatTear_31 rfl (lv_at hl 3 rfl) ?_
          refine lv_iload X.1 X.2.1 dX0_linesThatTear_32 (lv_at hl 5 rfl) ?_
          obtain ⟨r34, hr34, hf⟩ := k_bdE hf
          refine k_backl X hS (k_runV (As := [.long a1, .int a3, .int a5]) (rest := []) X hS hU (k_sC hk hq) (by decide) rfl vl_X0_41 (c_X0_loadOfOneLine X.2.2.2.2.2.2.1 hk (k_uc_s _ _ _) hq hr34) rfl rfl rfl hl.1 ⟨Nat.le_of_ble_eq_true rfl, Nat.le_of_ble_eq_true rfl⟩ (Nat.le_of_ble_eq_true rfl) dX0_linesThatTear_34 ⟨Nat.zero_le _, Nat.zero_le _⟩) (fun H locs hU hS => ?_)
          refine lv_lstore (lv' := [(7, .long r34), (6, .int a5), (0, .ref (ad k q)), (1, .long a1), (3, .int a3), (4, .int a4), (5, .int a5)]) X.1 X.2.1 dX0_linesThatTear_37 hl (by decide) rfl (fun ls hl => ?_)
          exact L39 k_N _ _ _ a1 a3 a4 a5 a5 r34 hU hS (lv_sub hl [2, 3, 4, 5, 6, 1, 0] rfl) hf
  unfold f_X0_linesThatTear at hf
  refine lv_aload_n X.1 X.2.1 dX0_linesThatTear_0 rfl (lv_at hl 0 rfl) ?_
  refine k_getw (v := .int (w q 7)) X hU (k_sC hk hq) fl_X0_34 rfl dX0_linesThatTear_1 ?_
  obtain ⟨x4, e4, hf⟩ := k_ltE hf
  refine k_nmi e4 ?_
  refine lv_istore (lv' := [(5, .int x4), (0, .ref (ad k q)), (1, .long a1), (3, .int a3), (4, .int a4)]) X.1 X.2.1 dX0_linesThatTear_4 hl (by decide) rfl (fun ls hl => ?_)
  refine lv_iconst (v := (-1)) X.1 X.2.1 dX0_linesThatTear_6 (by decide) ?_
  refine lv_istore (lv' := [(6, .int (-1)), (5, .int x4), (0, .ref (ad k q)), (1, .long a1), (3, .int a3), (4, .int a4)]) X.1 X.2.1 dX0_linesThatTear_7 hl (by decide) rfl (fun ls hl => ?_)
  exact L9 k_N _ _ _ a1 a3 a4 x4 (-1) hU hS (lv_sub hl [2, 3, 4, 5, 1, 0] rfl) hf
def rm_X0_linesThere : Room := { frames := 0, cells := 0, slots := 0, locals := 0 }
set_option maxRecDepth 100000 in
set_option maxHeartbeats 4000000 in
theorem c_X0_linesThere {l : Launch} {D : va_G} {G : Nat → ClassId} {ad : Nat → Nat → Nat} {u : k_U} (hI : k_ok ad) {k : Nat} (hk : k_isW k) {w : k_M} (hw : u k = w) {q : Nat} (hq : k_isC q) {sz : Nat} {r : Int32} (hf : f_X0_linesThere w q = some r) : Met l yX0_linesThere (.code yX0_linesThere cX0_linesThere 1 (some .int) :: lw_g) rm_X0_linesThere (k_Pre D G ad u sz [.ref (ad k q)]) (k_Qi D G ad u r sz) 0 0 (k_A ad sz) := by
  refine k_ofW (by decide +kernel) hI (Nat.le_of_ble_eq_true rfl) ?_
  intro p e s m args below meth c X hr hlk hU hS ls hl
  have hl : lv_has ls 1 [(0, .ref (ad k q))] := hl
  have hU : k_Uv D G ad (k_uc u k w) s.heap := by rw [← hw, k_uc_id]; exact hU
  unfold f_X0_linesThere at hf
  refine lv_aload_n X.1 X.2.1 dX0_linesThere_0 rfl (lv_at hl 0 rfl) ?_
  refine k_getw (v := .int (w q 1)) X hU (k_sC hk hq) fl_X0_15 rfl dX0_linesThere_1 ?_
  refine lv_aload_n X.1 X.2.1 dX0_linesThere_4 rfl (lv_at hl 0 rfl) ?_
  refine k_getw (v := .int (w q 7)) X hU (k_sC hk hq) fl_X0_34 rfl dX0_linesThere_5 ?_
  refine lv_isub X.1 X.2.1 dX0_linesThere_8 ?_
  rw [← hw, k_uc_id] at hU
  have hz := Option.some.inj hf
  subst hz
  exact k_iret (v := ((w q 1) - (w q 7))) X hU hS hr hlk rfl rfl dX0_linesThere_9
def rm_X9_tear : Room := { frames := 1, cells := 0, slots := 0, locals := 25 }
set_option maxRecDepth 100000 in
set_option maxHeartbeats 4000000 in
theorem c_X9_tear {l : Launch} {D : va_G} {G : Nat → ClassId} {ad : Nat → Nat → Nat} {u : k_U} (hI : k_ok ad) {k : Nat} (hk : k_isW k) {w : k_M} (hw : u k = w) {q1 : Nat} {a2 : Int32} {a3 : Int32} (hq1 : k_isC q1) {sz : Nat} {r : k_M} (hf : f_X9_tear w q1 a2 a3 = some r) : Met l yX9_tear (.code yX9_tear cX9_tear 4 none :: lw_g) rm_X9_tear (k_Pre D G ad u sz [.ref (ad k 0), .ref (ad k q1), .int a2, .int a3]) (k_Qv D G ad (k_uc u k r) sz) 0 0 (k_A ad sz) := by
  refine k_ofW (by decide +kernel) hI (Nat.le_of_ble_eq_true rfl) ?_
  intro p e s m args below meth c X hr hlk hU hS ls hl
  have hl : lv_has ls 4 [(0, .ref (ad k 0)), (1, .ref (ad k q1)), (2, .int a2), (3, .int a3)] := hl
  have hU : k_Uv D G ad (k_uc u k w) s.heap := by rw [← hw, k_uc_id]; exact hU
  unfold f_X9_tear at hf
  refine lv_aload_n X.1 X.2.1 dX9_tear_0 rfl (lv_at hl 1 rfl) ?_
  refine lv_dup X.1 X.2.1 dX9_tear_1 rfl ?_
  refine k_getw (v := .int (w q1 7)) X hU (k_sC hk hq1) fl_X9_133 rfl dX9_tear_2 ?_
  refine lv_iload_n X.1 X.2.1 dX9_tear_5 rfl (lv_at hl 3 rfl) ?_
  refine lv_iadd X.1 X.2.1 dX9_tear_6 ?_
  obtain ⟨w7, e7, hf⟩ := k_ltE hf
  refine k_putw X hU hS (k_sC hk hq1) fp_X9_133 rfl e7 rfl rfl dX9_tear_7 (fun H locs hU hS => ?_)
  refine lv_aload_n X.1 X.2.1 dX9_tear_10 rfl (lv_at hl 0 rfl) ?_
  refine k_getw (v := .ref (ad k 13)) X hU (sW_0 hk) fl_X9_42 rfl dX9_tear_11 ?_
  refine lv_aload_n X.1 X.2.1 dX9_tear_14 rfl (lv_at hl 0 rfl) ?_
  refine k_getw (v := .int (w7 0 6)) X hU (sW_0 hk) fl_X9_65 rfl dX9_tear_15 ?_
  refine lv_iconst (v := 1) X.1 X.2.1 dX9_tear_18 (by decide) ?_
  refine lv_iload_n X.1 X.2.1 dX9_tear_19 rfl (lv_at hl 2 rfl) ?_
  refine lv_iload_n X.1 X.2.1 dX9_tear_20 rfl (lv_at hl 3 rfl) ?_
  obtain ⟨r21, hr21, hf⟩ := k_bdE hf
  refine k_backv X hS (k_runV (As := [.int (w7 0 6), .int 1, .int a2, .int a3]) (rest := []) X hS hU (sW_13 hk) (by decide) rfl vl_X9_157 (c_X1_keep X.2.2.2.2.2.2.1 hk (k_uc_s _ _ _) hr21) rfl rfl rfl hl.1 ⟨Nat.le_of_ble_eq_true rfl, Nat.le_of_ble_eq_true rfl⟩ (Nat.le_of_ble_eq_true rfl) dX9_tear_21 ⟨Nat.zero_le _, Nat.zero_le _⟩) (fun H locs hU hS => ?_)
  rw [k_uc_uc] at hU
  refine lv_aload_n X.1 X.2.1 dX9_tear_24 rfl (lv_at hl 1 rfl) ?_
  obtain ⟨r25, hr25, hf⟩ := k_bdE hf
  refine k_backi X hS (k_runV (As := []) (rest := []) X hS hU (k_sC hk hq1) (by decide) rfl vl_X9_136 (c_X0_linesThere X.2.2.2.2.2.2.1 hk (k_uc_s _ _ _) hq1 hr25) rfl rfl rfl hl.1 ⟨Nat.le_of_ble_eq_true rfl, Nat.le_of_ble_eq_true rfl⟩ (Nat.le_of_ble_eq_true rfl) dX9_tear_25 ⟨Nat.zero_le _, Nat.zero_le _⟩) (fun H locs hU hS => ?_)
  refine lv_if_ne (tgt := 53) X.1 X.2.1 dX9_tear_28 (by decide) (fun c28 => ?_) (fun c28 => ?_)
  · replace hf := k_ifN hf c28
    have hz := Option.some.inj hf
    subst hz
    exact k_vret X hU hS hr hlk dX9_tear_53
  · replace hf := k_ifP hf c28
    refine lv_aload_n X.1 X.2.1 dX9_tear_31 rfl (lv_at hl 1 rfl) ?_
    refine lv_iconst (v := 2) X.1 X.2.1 dX9_tear_32 (by decide) ?_
    obtain ⟨w33, e33, hf⟩ := k_ltE hf
    refine k_putw X hU hS (k_sC hk hq1) fp_X9_120 rfl e33 rfl rfl dX9_tear_33 (fun H locs hU hS => ?_)
    refine lv_aload_n X.1 X.2.1 dX9_tear_36 rfl (lv_at hl 0 rfl) ?_
    refine k_getw (v := .ref (ad k 13)) X hU (sW_0 hk) fl_X9_42 rfl dX9_tear_37 ?_
    refine lv_aload_n X.1 X.2.1 dX9_tear_40 rfl (lv_at hl 0 rfl) ?_
    refine k_getw (v := .int (w33 0 6)) X hU (sW_0 hk) fl_X9_65 rfl dX9_tear_41 ?_
    refine lv_iconst (v := 2) X.1 X.2.1 dX9_tear_44 (by decide) ?_
    refine lv_iload_n X.1 X.2.1 dX9_tear_45 rfl (lv_at hl 2 rfl) ?_
    refine lv_aload_n X.1 X.2.1 dX9_tear_46 rfl (lv_at hl 1 rfl) ?_
    refine k_getw (v := .int (w33 q1 0)) X hU (k_sC hk hq1) fl_X9_219 rfl dX9_tear_47 ?_
    obtain ⟨r50, hr50, hf⟩ := k_bdE hf
    refine k_backv X hS (k_runV (As := [.int (w33 0 6), .int 2, .int a2, .int (w33 q1 0)]) (rest := []) X hS hU (sW_13 hk) (by decide) rfl vl_X9_157 (c_X1_keep X.2.2.2.2.2.2.1 hk (k_uc_s _ _ _) hr50) rfl rfl rfl hl.1 ⟨Nat.le_of_ble_eq_true rfl, Nat.le_of_ble_eq_true rfl⟩ (Nat.le_of_ble_eq_true rfl) dX9_tear_50 ⟨Nat.zero_le _, Nat.zero_le _⟩) (fun H locs hU hS => ?_)
    rw [k_uc_uc] at hU
    have hz := Option.some.inj hf
    subst hz
    exact k_vret X hU hS hr hlk dX9_tear_53
def rm_X9_tearAndBrake : Room := { frames := 2, cells := 0, slots := 0, locals := 56 }
set_option maxRecDepth 100000 in
set_option maxHeartbeats 4000000 in
theorem c_X9_tearAndBrake {l : Launch} {D : va_G} {G : Nat → ClassId} {ad : Nat → Nat → Nat} {u : k_U} (hI : k_ok ad) {k : Nat} (hk : k_isW k) {w : k_M} (hw : u k = w) {a1 : Int32} {sz : Nat} {r : (k_M × Int64)} (hf : f_X9_tearAndBrake w a1 = some r) : Met l yX9_tearAndBrake (.code yX9_tearAndBrake cX9_tearAndBrake 10 (some .long) :: lw_g) rm_X9_tearAndBrake (k_Pre D G ad u sz [.ref (ad k 0), .int a1]) (k_Ql D G ad (k_uc u k r.1) r.2 sz) 0 0 (k_A ad sz) := by
  refine k_ofW (by decide +kernel) hI (Nat.le_of_ble_eq_true rfl) ?_
  intro p e s m args below meth c X hr hlk hU hS ls hl
  have hl : lv_has ls 10 [(0, .ref (ad k 0)), (1, .int a1)] := hl
  have hU : k_Uv D G ad (k_uc u k w) s.heap := by rw [← hw, k_uc_id]; exact hU
  have L32 : ∀ (n32 : Nat) (H : Heap) (locs : List Loc) (ls : Array Slot) (w : k_M) (a1 : Int32) (a2 : Int64) (a4 : Int32) (a5 : Int32), k_Uv D G ad (k_uc u k w) H → va_S (k_A ad sz) s.heap H locs → lv_has ls 10 [(0, .ref (ad k 0)), (1, .int a1), (2, .long a2), (4, .int a4), (5, .int a5)] → f_X9_tearAndBrake_32 n32 w a1 a2 a4 a5 = some r → W p l e rm_X9_tearAndBrake s m args below meth c H locs 0 0 (MQ below (k_Ql D G ad (k_uc u k r.1) r.2 sz) args s 0 0 (k_A ad sz)) (F0 m 32 ls []) := by
    intro n32
    induction n32 with
    | zero =>
      intro H locs ls w a1 a2 a4 a5 hU hS hl hf
      cases (show none = some r from hf)
    | succ n32 ih32 =>
      have J118 : ∀ (H : Heap) (locs : List Loc) (ls : Array Slot) (w : k_M) (a1 : Int32) (a2 : Int64) (a4 : Int32) (a5 : Int32), k_Uv D G ad (k_uc u k w) H → va_S (k_A ad sz) s.heap H locs → lv_has ls 10 [(0, .ref (ad k 0)), (1, .int a1), (2, .long a2), (4, .int a4), (5, .int a5)] → f_X9_tearAndBrake_118 (f_X9_tearAndBrake_32 n32) w a1 a2 a4 a5 = some r → W p l e rm_X9_tearAndBrake s m args below meth c H locs 0 0 (MQ below (k_Ql D G ad (k_uc u k r.1) r.2 sz) args s 0 0 (k_A ad sz)) (F0 m 118 ls []) := by
        intro H locs ls w a1 a2 a4 a5 hU hS hl hf
        unfold f_X9_tearAndBrake_118 at hf
        obtain ⟨x118, e118, hf⟩ := k_ltE hf
        refine lv_iinc (v := x118) (lv' := [(5, .int x118), (0, .ref (ad k 0)), (1, .int a1), (2, .long a2), (4, .int a4)]) X.1 X.2.1 dX9_tearAndBrake_118 hl (k := 4) rfl (by rw [e118]; rfl) (by decide) rfl (fun ls hl => ?_)
        refine lv_goto (tgt := 32) X.1 X.2.1 dX9_tearAndBrake_121 (by decide) ?_
        exact ih32 _ _ _ w a1 a2 a4 x118 hU hS (lv_sub hl [1, 2, 3, 4, 0] rfl) hf
      have J116 : ∀ (H : Heap) (locs : List Loc) (ls : Array Slot) (w : k_M) (a1 : Int32) (a4 : Int32) (a5 : Int32) (as0 : Int64) (as1 : Int64), k_Uv D G ad (k_uc u k w) H → va_S (k_A ad sz) s.heap H locs → lv_has ls 10 [(0, .ref (ad k 0)), (1, .int a1), (4, .int a4), (5, .int a5)] → f_X9_tearAndBrake_116 (f_X9_tearAndBrake_32 n32) w a1 a4 a5 as0 as1 = some r → W p l e rm_X9_tearAndBrake s m args below meth c H locs 0 0 (MQ below (k_Ql D G ad (k_uc u k r.1) r.2 sz) args s 0 0 (k_A ad sz)) (F0 m 116 ls [.long as0, .long as1]) := by
        intro H locs ls w a1 a4 a5 as0 as1 hU hS hl hf
        unfold f_X9_tearAndBrake_116 at hf
        refine lv_ladd X.1 X.2.1 dX9_tearAndBrake_116 ?_
        obtain ⟨x117, e117, hf⟩ := k_ltE hf
        refine k_nml e117 ?_
        refine lv_lstore_n (lv' := [(2, .long x117), (0, .ref (ad k 0)), (1, .int a1), (4, .int a4), (5, .int a5)]) X.1 X.2.1 dX9_tearAndBrake_117 rfl hl (by decide) rfl (fun ls hl => ?_)
        exact J118 _ _ _ w a1 x117 a4 a5 hU hS (lv_sub hl [1, 2, 0, 3, 4] rfl) hf
      have J100 : ∀ (H : Heap) (locs : List Loc) (ls : Array Slot) (w : k_M) (a1 : Int32) (a2 : Int64) (a4 : Int32) (a5 : Int32) (q6 : Nat) (a7 : Int64), k_isC q6 → k_Uv D G ad (k_uc u k w) H → va_S (k_A ad sz) s.heap H locs → lv_has ls 10 [(0, .ref (ad k 0)), (1, .int a1), (2, .long a2), (4, .int a4), (5, .int a5), (6, .ref (ad k q6)), (7, .long a7)] → f_X9_tearAndBrake_100 (f_X9_tearAndBrake_32 n32) w a1 a2 a4 a5 q6 a7 = some r → W p l e rm_X9_tearAndBrake s m args below meth c H locs 0 0 (MQ below (k_Ql D G ad (k_uc u k r.1) r.2 sz) args s 0 0 (k_A ad sz)) (F0 m 100 ls []) := by
        intro H locs ls w a1 a2 a4 a5 q6 a7 hq6 hU hS hl hf
        unfold f_X9_tearAndBrake_100 at hf
        refine lv_lload_n X.1 X.2.1 dX9_tearAndBrake_100 rfl (lv_at hl 2 rfl) ?_
        refine lv_aload X.1 X.2.1 dX9_tearAndBrake_101 (lv_at hl 5 rfl) ?_
        refine k_getw (v := .int (w q6 5)) X hU (k_sC hk hq6) fl_X9_120 rfl dX9_tearAndBrake_103 ?_
        refine lv_iconst (v := 1) X.1 X.2.1 dX9_tearAndBrake_106 (by decide) ?_
        refine lv_icmp_ne (tgt := 115) X.1 X.2.1 dX9_tearAndBrake_107 (by decide) (fun c107 => ?_) (fun c107 => ?_)
        · replace hf := k_ifN hf c107
          refine lv_lconst (v := 0) X.1 X.2.1 dX9_tearAndBrake_115 (by decide) ?_
          exact J116 _ _ _ w a1 a4 a5 (0 : Int64) a2 hU hS (lv_sub hl [0, 1, 3, 4] rfl) hf
        · replace hf := k_ifP hf c107
          refine lv_lload X.1 X.2.1 dX9_tearAndBrake_110 (lv_at hl 6 rfl) ?_
          refine lv_goto (tgt := 116) X.1 X.2.1 dX9_tearAndBrake_112 (by decide) ?_
          exact J116 _ _ _ w a1 a4 a5 a7 a2 hU hS (lv_sub hl [0, 1, 3, 4] rfl) hf
      intro H locs ls w a1 a2 a4 a5 hU hS hl hf
      replace hf : f_X9_tearAndBrake_32_b (f_X9_tearAndBrake_32 n32) w a1 a2 a4 a5 = some r := hf
      unfold f_X9_tearAndBrake_32_b at hf
      refine lv_iload X.1 X.2.1 dX9_tearAndBrake_32 (lv_at hl 4 rfl) ?_
      refine lv_iload X.1 X.2.1 dX9_tearAndBrake_34 (lv_at hl 3 rfl) ?_
      refine lv_icmp_ge (tgt := 124) X.1 X.2.1 dX9_tearAndBrake_36 (by decide) (fun c36 => ?_) (fun c36 => ?_)
      · replace hf := k_ifP hf c36
        refine lv_lload_n X.1 X.2.1 dX9_tearAndBrake_124 rfl (lv_at hl 2 rfl) ?_
        have hz := Option.some.inj hf
        subst hz
        exact k_lret (v := a2) X hU hS hr hlk rfl dX9_tearAndBrake_125
      · replace hf := k_ifN hf c36
        refine lv_aload_n X.1 X.2.1 dX9_tearAndBrake_39 rfl (lv_at hl 0 rfl) ?_
        refine lv_iload X.1 X.2.1 dX9_tearAndBrake_40 (lv_at hl 4 rfl) ?_
        obtain ⟨r42, hr42, hf⟩ := k_bdE hf
        refine k_backr X hS (k_runV (As := [.int a5]) (rest := []) X hS hU (sW_0 hk) (by decide) rfl vl_X9_116 (c_X9_chuteAt X.2.2.2.2.2.2.1 hk (k_uc_s _ _ _) hr42) rfl rfl rfl hl.1 ⟨Nat.le_of_ble_eq_true rfl, Nat.le_of_ble_eq_true rfl⟩ (Nat.le_of_ble_eq_true rfl) dX9_tearAndBrake_42 ⟨Nat.zero_le _, Nat.zero_le _⟩) (fun H locs hU hS => ?_)
        obtain ⟨hi42, hf⟩ := k_ckE hf
        refine lv_astore (lv' := [(6, .ref (ad k r42)), (0, .ref (ad k 0)), (1, .int a1), (2, .long a2), (4, .int a4), (5, .int a5)]) X.1 X.2.1 dX9_tearAndBrake_45 hl (by decide) rfl (fun ls hl => ?_)
        refine lv_aload X.1 X.2.1 dX9_tearAndBrake_47 (lv_at hl 0 rfl) ?_
        refine k_getw (v := .int (w r42 5)) X hU (k_sC hk hi42) fl_X9_120 rfl dX9_tearAndBrake_49 ?_
        refine lv_iconst (v := 1) X.1 X.2.1 dX9_tearAndBrake_52 (by decide) ?_
        refine lv_icmp_ne (tgt := 118) X.1 X.2.1 dX9_tearAndBrake_53 (by decide) (fun c53 => ?_) (fun c53 => ?_)
        · replace hf := k_ifN hf c53
          exact J118 _ _ _ w a1 a2 a4 a5 hU hS (lv_sub hl [1, 2, 3, 4, 5] rfl) hf
        · replace hf := k_ifP hf c53
          refine lv_aload X.1 X.2.1 dX9_tearAndBrake_56 (lv_at hl 0 rfl) ?_
          refine lv_iload_n X.1 X.2.1 dX9_tearAndBrake_58 rfl (lv_at hl 2 rfl) ?_
          refine lv_aload_n X.1 X.2.1 dX9_tearAndBrake_59 rfl (lv_at hl 1 rfl) ?_
          refine k_getw (v := .int (w 0 1)) X hU (sW_0 hk) fl_X9_50 rfl dX9_tearAndBrake_60 ?_
          obtain ⟨r63, hr63, hf⟩ := k_bdE hf
          refine k_backl X hS (k_runV (As := [.int a1, .int (w 0 1)]) (rest := []) X hS hU (k_sC hk hi42) (by decide) rfl vl_X9_207 (c_X0_pull X.2.2.2.2.2.2.1 hk (k_uc_s _ _ _) hi42 hr63) rfl rfl rfl hl.1 ⟨Nat.le_of_ble_eq_true rfl, Nat.le_of_ble_eq_true rfl⟩ (Nat.le_of_ble_eq_true rfl) dX9_tearAndBrake_63 ⟨Nat.zero_le _, Nat.zero_le _⟩) (fun H locs hU hS => ?_)
          refine lv_lstore (lv' := [(7, .long r63), (6, .ref (ad k r42)), (0, .ref (ad k 0)), (1, .int a1), (2, .long a2), (4, .int a4), (5, .int a5)]) X.1 X.2.1 dX9_tearAndBrake_66 hl (by decide) rfl (fun ls hl => ?_)
          refine lv_aload X.1 X.2.1 dX9_tearAndBrake_68 (lv_at hl 1 rfl) ?_
          refine lv_lload X.1 X.2.1 dX9_tearAndBrake_70 (lv_at hl 0 rfl) ?_
          refine lv_aload_n X.1 X.2.1 dX9_tearAndBrake_72 rfl (lv_at hl 2 rfl) ?_
          refine k_getw (v := .int (w 0 5)) X hU (sW_0 hk) fl_X9_62 rfl dX9_tearAndBrake_73 ?_
          refine lv_aload_n X.1 X.2.1 dX9_tearAndBrake_76 rfl (lv_at hl 2 rfl) ?_
          refine k_getw (v := .int (w 0 4)) X hU (sW_0 hk) fl_X9_59 rfl dX9_tearAndBrake_77 ?_
          obtain ⟨r80, hr80, hf⟩ := k_bdE hf
          refine k_backi X hS (k_runV (As := [.long r63, .int (w 0 5), .int (w 0 4)]) (rest := []) X hS hU (k_sC hk hi42) (by decide) rfl vl_X9_211 (c_X0_linesThatTear X.2.2.2.2.2.2.1 hk (k_uc_s _ _ _) hi42 hr80) rfl rfl rfl hl.1 ⟨Nat.le_of_ble_eq_true rfl, Nat.le_of_ble_eq_true rfl⟩ (Nat.le_of_ble_eq_true rfl) dX9_tearAndBrake_80 ⟨Nat.zero_le _, Nat.zero_le _⟩) (fun H locs hU hS => ?_)
          refine lv_istore (lv' := [(9, .int r80), (7, .long r63), (6, .ref (ad k r42)), (0, .ref (ad k 0)), (1, .int a1), (2, .long a2), (4, .int a4), (5, .int a5)]) X.1 X.2.1 dX9_tearAndBrake_83 hl (by decide) rfl (fun ls hl => ?_)
          refine lv_iload X.1 X.2.1 dX9_tearAndBrake_85 (lv_at hl 0 rfl) ?_
          refine lv_if_le (tgt := 100) X.1 X.2.1 dX9_tearAndBrake_87 (by decide) (fun c87 => ?_) (fun c87 => ?_)
          · replace hf := k_ifP hf c87
            exact J100 _ _ _ w a1 a2 a4 a5 r42 r63 (hi42) hU hS (lv_sub hl [3, 4, 5, 6, 7, 2, 1] rfl) hf
          · replace hf := k_ifN hf c87
            refine lv_aload_n X.1 X.2.1 dX9_tearAndBrake_90 rfl (lv_at hl 3 rfl) ?_
            refine lv_aload X.1 X.2.1 dX9_tearAndBrake_91 (lv_at hl 2 rfl) ?_
            refine lv_iload X.1 X.2.1 dX9_tearAndBrake_93 (lv_at hl 7 rfl) ?_
            refine lv_iload X.1 X.2.1 dX9_tearAndBrake_95 (lv_at hl 0 rfl) ?_
            obtain ⟨r97, hr97, hf⟩ := k_bdE hf
            refine k_backv X hS (k_runV (As := [.ref (ad k r42), .int a5, .int r80]) (rest := []) X hS hU (sW_0 hk) (by decide) rfl vl_X9_215 (c_X9_tear X.2.2.2.2.2.2.1 hk (k_uc_s _ _ _) hi42 hr97) rfl rfl rfl hl.1 ⟨Nat.le_of_ble_eq_true rfl, Nat.le_of_ble_eq_true rfl⟩ (Nat.le_of_ble_eq_true rfl) dX9_tearAndBrake_97 ⟨Nat.zero_le _, Nat.zero_le _⟩) (fun H locs hU hS => ?_)
            rw [k_uc_uc] at hU
            exact J100 _ _ _ r97 a1 a2 a4 a5 r42 r63 (hi42) hU hS (lv_sub hl [3, 4, 5, 6, 7, 2, 1] rfl) hf
  unfold f_X9_tearAndBrake at hf
  refine lv_ldc2 (v := 2) X.1 X.2.1 X.2.2.2.1 (X.2.2.2.2.1 _ t_771) dX9_tearAndBrake_0 ?_
  refine lv_iload_n X.1 X.2.1 dX9_tearAndBrake_3 rfl (lv_at hl 1 rfl) ?_
  refine lv_i2l (v := a1.toInt64) X.1 X.2.1 dX9_tearAndBrake_4 rfl ?_
  refine lv_lmul X.1 X.2.1 dX9_tearAndBrake_5 ?_
  refine lv_aload_n X.1 X.2.1 dX9_tearAndBrake_6 rfl (lv_at hl 0 rfl) ?_
  refine k_getw (v := .int (w 0 1)) X hU (sW_0 hk) fl_X9_50 rfl dX9_tearAndBrake_7 ?_
  refine lv_i2l (v := (w 0 1).toInt64) X.1 X.2.1 dX9_tearAndBrake_10 rfl ?_
  refine lv_lmul X.1 X.2.1 dX9_tearAndBrake_11 ?_
  refine lv_aload_n X.1 X.2.1 dX9_tearAndBrake_12 rfl (lv_at hl 0 rfl) ?_
  refine k_getw (v := .int (w 0 1)) X hU (sW_0 hk) fl_X9_50 rfl dX9_tearAndBrake_13 ?_
  refine lv_i2l (v := (w 0 1).toInt64) X.1 X.2.1 dX9_tearAndBrake_16 rfl ?_
  refine lv_lmul X.1 X.2.1 dX9_tearAndBrake_17 ?_
  refine lv_ldc2 (v := 10000) X.1 X.2.1 X.2.2.2.1 (X.2.2.2.2.1 _ t_772) dX9_tearAndBrake_18 ?_
  refine lv_ldiv X.1 X.2.1 dX9_tearAndBrake_21 (by decide) ?_
  obtain ⟨x22, e22, hf⟩ := k_ltE hf
  refine k_nml e22 ?_
  refine lv_lstore_n (lv' := [(2, .long x22), (0, .ref (ad k 0)), (1, .int a1)]) X.1 X.2.1 dX9_tearAndBrake_22 rfl hl (by decide) rfl (fun ls hl => ?_)
  refine lv_aload_n X.1 X.2.1 dX9_tearAndBrake_23 rfl (lv_at hl 1 rfl) ?_
  obtain ⟨r24, hr24, hf⟩ := k_bdE hf
  refine k_backi X hS (k_runV (As := []) (rest := []) X hS hU (sW_0 hk) (by decide) rfl vl_X9_104 (c_X9_chuteCount X.2.2.2.2.2.2.1 hk (k_uc_s _ _ _) hr24) rfl rfl rfl hl.1 ⟨Nat.le_of_ble_eq_true rfl, Nat.le_of_ble_eq_true rfl⟩ (Nat.le_of_ble_eq_true rfl) dX9_tearAndBrake_24 ⟨Nat.zero_le _, Nat.zero_le _⟩) (fun H locs hU hS => ?_)
  refine lv_istore (lv' := [(4, .int r24), (2, .long x22), (0, .ref (ad k 0)), (1, .int a1)]) X.1 X.2.1 dX9_tearAndBrake_27 hl (by decide) rfl (fun ls hl => ?_)
  refine lv_iconst (v := 0) X.1 X.2.1 dX9_tearAndBrake_29 (by decide) ?_
  refine lv_istore (lv' := [(5, .int 0), (4, .int r24), (2, .long x22), (0, .ref (ad k 0)), (1, .int a1)]) X.1 X.2.1 dX9_tearAndBrake_30 hl (by decide) rfl (fun ls hl => ?_)
  exact L32 k_N _ _ _ w a1 x22 r24 0 hU hS (lv_sub hl [3, 4, 2, 1, 0] rfl) hf
def rm_X9_openChutes : Room := { frames := 2, cells := 0, slots := 0, locals := 42 }
set_option maxRecDepth 100000 in
set_option maxHeartbeats 4000000 in
theorem c_X9_openChutes {l : Launch} {D : va_G} {G : Nat → ClassId} {ad : Nat → Nat → Nat} {u : k_U} (hI : k_ok ad) {k : Nat} (hk : k_isW k) {w : k_M} (hw : u k = w) {sz : Nat} {r : Int32} (hf : f_X9_openChutes w = some r) : Met l yX9_openChutes (.code yX9_openChutes cX9_openChutes 4 (some .int) :: lw_g) rm_X9_openChutes (k_Pre D G ad u sz [.ref (ad k 0)]) (k_Qi D G ad u r sz) 0 0 (k_A ad sz) := by
  refine k_ofW (by decide +kernel) hI (Nat.le_of_ble_eq_true rfl) ?_
  intro p e s m args below meth c X hr hlk hU hS ls hl
  have hl : lv_has ls 4 [(0, .ref (ad k 0))] := hl
  have hU : k_Uv D G ad (k_uc u k w) s.heap := by rw [← hw, k_uc_id]; exact hU
  have L9 : ∀ (n9 : Nat) (H : Heap) (locs : List Loc) (ls : Array Slot) (a1 : Int32) (a2 : Int32) (a3 : Int32), k_Uv D G ad (k_uc u k w) H → va_S (k_A ad sz) s.heap H locs → lv_has ls 4 [(0, .ref (ad k 0)), (1, .int a1), (2, .int a2), (3, .int a3)] → f_X9_openChutes_9 n9 w a1 a2 a3 = some r → W p l e rm_X9_openChutes s m args below meth c H locs 0 0 (MQ below (k_Qi D G ad u r sz) args s 0 0 (k_A ad sz)) (F0 m 9 ls []) := by
    intro n9
    induction n9 with
    | zero =>
      intro H locs ls a1 a2 a3 hU hS hl hf
      cases (show none = some r from hf)
    | succ n9 ih9 =>
      have J29 : ∀ (H : Heap) (locs : List Loc) (ls : Array Slot) (a1 : Int32) (a2 : Int32) (a3 : Int32), k_Uv D G ad (k_uc u k w) H → va_S (k_A ad sz) s.heap H locs → lv_has ls 4 [(0, .ref (ad k 0)), (1, .int a1), (2, .int a2), (3, .int a3)] → f_X9_openChutes_29 (f_X9_openChutes_9 n9) w a1 a2 a3 = some r → W p l e rm_X9_openChutes s m args below meth c H locs 0 0 (MQ below (k_Qi D G ad u r sz) args s 0 0 (k_A ad sz)) (F0 m 29 ls []) := by
        intro H locs ls a1 a2 a3 hU hS hl hf
        unfold f_X9_openChutes_29 at hf
        obtain ⟨x29, e29, hf⟩ := k_ltE hf
        refine lv_iinc (v := x29) (lv' := [(3, .int x29), (0, .ref (ad k 0)), (1, .int a1), (2, .int a2)]) X.1 X.2.1 dX9_openChutes_29 hl (k := 3) rfl (by rw [e29]; rfl) (by decide) rfl (fun ls hl => ?_)
        refine lv_goto (tgt := 9) X.1 X.2.1 dX9_openChutes_32 (by decide) ?_
        exact ih9 _ _ _ a1 a2 x29 hU hS (lv_sub hl [1, 2, 3, 0] rfl) hf
      intro H locs ls a1 a2 a3 hU hS hl hf
      replace hf : f_X9_openChutes_9_b (f_X9_openChutes_9 n9) w a1 a2 a3 = some r := hf
      unfold f_X9_openChutes_9_b at hf
      refine lv_iload_n X.1 X.2.1 dX9_openChutes_9 rfl (lv_at hl 3 rfl) ?_
      refine lv_iload_n X.1 X.2.1 dX9_openChutes_10 rfl (lv_at hl 2 rfl) ?_
      refine lv_icmp_ge (tgt := 35) X.1 X.2.1 dX9_openChutes_11 (by decide) (fun c11 => ?_) (fun c11 => ?_)
      · replace hf := k_ifP hf c11
        refine lv_iload_n X.1 X.2.1 dX9_openChutes_35 rfl (lv_at hl 1 rfl) ?_
        rw [← hw, k_uc_id] at hU
        have hz := Option.some.inj hf
        subst hz
        exact k_iret (v := a1) X hU hS hr hlk rfl rfl dX9_openChutes_36
      · replace hf := k_ifN hf c11
        refine lv_aload_n X.1 X.2.1 dX9_openChutes_14 rfl (lv_at hl 0 rfl) ?_
        refine lv_iload_n X.1 X.2.1 dX9_openChutes_15 rfl (lv_at hl 3 rfl) ?_
        obtain ⟨r16, hr16, hf⟩ := k_bdE hf
        refine k_backr X hS (k_runV (As := [.int a3]) (rest := []) X hS hU (sW_0 hk) (by decide) rfl vl_X9_116 (c_X9_chuteAt X.2.2.2.2.2.2.1 hk (k_uc_s _ _ _) hr16) rfl rfl rfl hl.1 ⟨Nat.le_of_ble_eq_true rfl, Nat.le_of_ble_eq_true rfl⟩ (Nat.le_of_ble_eq_true rfl) dX9_openChutes_16 ⟨Nat.zero_le _, Nat.zero_le _⟩) (fun H locs hU hS => ?_)
        obtain ⟨hi16, hf⟩ := k_ckE hf
        refine k_getw (v := .int (w r16 5)) X hU (k_sC hk hi16) fl_X9_120 rfl dX9_openChutes_19 ?_
        refine lv_iconst (v := 1) X.1 X.2.1 dX9_openChutes_22 (by decide) ?_
        refine lv_icmp_ne (tgt := 29) X.1 X.2.1 dX9_openChutes_23 (by decide) (fun c23 => ?_) (fun c23 => ?_)
        · replace hf := k_ifN hf c23
          exact J29 _ _ _ a1 a2 a3 hU hS (lv_sub hl [0, 1, 2, 3] rfl) hf
        · replace hf := k_ifP hf c23
          obtain ⟨x26, e26, hf⟩ := k_ltE hf
          refine lv_iinc (v := x26) (lv' := [(1, .int x26), (0, .ref (ad k 0)), (2, .int a2), (3, .int a3)]) X.1 X.2.1 dX9_openChutes_26 hl (k := 1) rfl (by rw [e26]; rfl) (by decide) rfl (fun ls hl => ?_)
          exact J29 _ _ _ x26 a2 a3 hU hS (lv_sub hl [1, 0, 2, 3] rfl) hf
  unfold f_X9_openChutes at hf
  refine lv_iconst (v := 0) X.1 X.2.1 dX9_openChutes_0 (by decide) ?_
  refine lv_istore_n (lv' := [(1, .int 0), (0, .ref (ad k 0))]) X.1 X.2.1 dX9_openChutes_1 rfl hl (by decide) rfl (fun ls hl => ?_)
  refine lv_aload_n X.1 X.2.1 dX9_openChutes_2 rfl (lv_at hl 1 rfl) ?_
  obtain ⟨r3, hr3, hf⟩ := k_bdE hf
  refine k_backi X hS (k_runV (As := []) (rest := []) X hS hU (sW_0 hk) (by decide) rfl vl_X9_104 (c_X9_chuteCount X.2.2.2.2.2.2.1 hk (k_uc_s _ _ _) hr3) rfl rfl rfl hl.1 ⟨Nat.le_of_ble_eq_true rfl, Nat.le_of_ble_eq_true rfl⟩ (Nat.le_of_ble_eq_true rfl) dX9_openChutes_3 ⟨Nat.zero_le _, Nat.zero_le _⟩) (fun H locs hU hS => ?_)
  refine lv_istore_n (lv' := [(2, .int r3), (1, .int 0), (0, .ref (ad k 0))]) X.1 X.2.1 dX9_openChutes_6 rfl hl (by decide) rfl (fun ls hl => ?_)
  refine lv_iconst (v := 0) X.1 X.2.1 dX9_openChutes_7 (by decide) ?_
  refine lv_istore_n (lv' := [(3, .int 0), (2, .int r3), (1, .int 0), (0, .ref (ad k 0))]) X.1 X.2.1 dX9_openChutes_8 rfl hl (by decide) rfl (fun ls hl => ?_)
  exact L9 k_N _ _ _ 0 r3 0 hU hS (lv_sub hl [3, 2, 1, 0] rfl) hf
def rm_X2_valueAtOrBelow : Room := { frames := 0, cells := 0, slots := 0, locals := 0 }
set_option maxRecDepth 100000 in
set_option maxHeartbeats 4000000 in
theorem c_X2_valueAtOrBelow {l : Launch} {D : va_G} {G : Nat → ClassId} {ad : Nat → Nat → Nat} {u : k_U} (hI : k_ok ad) {k : Nat} (hk : k_isW k) {w : k_M} (hw : u k = w) {tc : Nat} {a1 : Int32} {a2 : Int32} (hc : k_isT tc) {sz : Nat} {r : Int32} (hf : f_X2_valueAtOrBelow w tc a1 a2 = some r) : Met l yX2_valueAtOrBelow (.code yX2_valueAtOrBelow cX2_valueAtOrBelow 5 (some .int) :: lw_g) rm_X2_valueAtOrBelow (k_Pre D G ad u sz [.ref (ad k tc), .int a1, .int a2]) (k_Qi D G ad u r sz) 0 0 (k_A ad sz) := by
  refine k_ofW (by decide +kernel) hI (Nat.le_of_ble_eq_true rfl) ?_
  intro p e s m args below meth c X hr hlk hU hS ls hl
  have hl : lv_has ls 5 [(0, .ref (ad k tc)), (1, .int a1), (2, .int a2)] := hl
  have hU : k_Uv D G ad (k_uc u k w) s.heap := by rw [← hw, k_uc_id]; exact hU
  have L5 : ∀ (n5 : Nat) (H : Heap) (locs : List Loc) (ls : Array Slot) (a1 : Int32) (a2 : Int32) (a3 : Int32) (a4 : Int32), k_Uv D G ad (k_uc u k w) H → va_S (k_A ad sz) s.heap H locs → lv_has ls 5 [(0, .ref (ad k tc)), (1, .int a1), (2, .int a2), (3, .int a3), (4, .int a4)] → f_X2_valueAtOrBelow_5 n5 w tc a1 a2 a3 a4 = some r → W p l e rm_X2_valueAtOrBelow s m args below meth c H locs 0 0 (MQ below (k_Qi D G ad u r sz) args s 0 0 (k_A ad sz)) (F0 m 5 ls []) := by
    intro n5
    induction n5 with
    | zero =>
      intro H locs ls a1 a2 a3 a4 hU hS hl hf
      cases (show none = some r from hf)
    | succ n5 ih5 =>
      have J49 : ∀ (H : Heap) (locs : List Loc) (ls : Array Slot) (a1 : Int32) (a2 : Int32) (a3 : Int32) (a4 : Int32), k_Uv D G ad (k_uc u k w) H → va_S (k_A ad sz) s.heap H locs → lv_has ls 5 [(0, .ref (ad k tc)), (1, .int a1), (2, .int a2), (3, .int a3), (4, .int a4)] → f_X2_valueAtOrBelow_49 (f_X2_valueAtOrBelow_5 n5) w tc a1 a2 a3 a4 = some r → W p l e rm_X2_valueAtOrBelow s m args below meth c H locs 0 0 (MQ below (k_Qi D G ad u r sz) args s 0 0 (k_A ad sz)) (F0 m 49 ls []) := by
        intro H locs ls a1 a2 a3 a4 hU hS hl hf
        unfold f_X2_valueAtOrBelow_49 at hf
        obtain ⟨x49, e49, hf⟩ := k_ltE hf
        refine lv_iinc (v := x49) (lv' := [(4, .int x49), (0, .ref (ad k tc)), (1, .int a1), (2, .int a2), (3, .int a3)]) X.1 X.2.1 dX2_valueAtOrBelow_49 hl (k := 4) rfl (by rw [e49]; rfl) (by decide) rfl (fun ls hl => ?_)
        refine lv_goto (tgt := 5) X.1 X.2.1 dX2_valueAtOrBelow_52 (by decide) ?_
        exact ih5 _ _ _ a1 a2 a3 x49 hU hS (lv_sub hl [1, 2, 3, 4, 0] rfl) hf
      have J46 : ∀ (H : Heap) (locs : List Loc) (ls : Array Slot) (a1 : Int32) (a2 : Int32) (a4 : Int32), k_Uv D G ad (k_uc u k w) H → va_S (k_A ad sz) s.heap H locs → lv_has ls 5 [(0, .ref (ad k tc)), (1, .int a1), (2, .int a2), (4, .int a4)] → f_X2_valueAtOrBelow_46 (f_X2_valueAtOrBelow_5 n5) w tc a1 a2 a4 = some r → W p l e rm_X2_valueAtOrBelow s m args below meth c H locs 0 0 (MQ below (k_Qi D G ad u r sz) args s 0 0 (k_A ad sz)) (F0 m 46 ls []) := by
        intro H locs ls a1 a2 a4 hU hS hl hf
        unfold f_X2_valueAtOrBelow_46 at hf
        refine lv_iload X.1 X.2.1 dX2_valueAtOrBelow_46 (lv_at hl 3 rfl) ?_
        refine lv_istore_n (lv' := [(3, .int a4), (0, .ref (ad k tc)), (1, .int a1), (2, .int a2), (4, .int a4)]) X.1 X.2.1 dX2_valueAtOrBelow_48 rfl hl (by decide) rfl (fun ls hl => ?_)
        exact J49 _ _ _ a1 a2 a4 a4 hU hS (lv_sub hl [1, 2, 3, 0, 4] rfl) hf
      intro H locs ls a1 a2 a3 a4 hU hS hl hf
      replace hf : f_X2_valueAtOrBelow_5_b (f_X2_valueAtOrBelow_5 n5) w tc a1 a2 a3 a4 = some r := hf
      unfold f_X2_valueAtOrBelow_5_b at hf
      refine lv_iload X.1 X.2.1 dX2_valueAtOrBelow_5 (lv_at hl 4 rfl) ?_
      refine lv_aload_n X.1 X.2.1 dX2_valueAtOrBelow_7 rfl (lv_at hl 0 rfl) ?_
      refine k_getw (v := .int (w tc 2)) X hU (k_sT hk hc) fl_X2_24 rfl dX2_valueAtOrBelow_8 ?_
      refine lv_icmp_ge (tgt := 55) X.1 X.2.1 dX2_valueAtOrBelow_11 (by decide) (fun c11 => ?_) (fun c11 => ?_)
      · replace hf := k_ifP hf c11
        refine lv_iload_n X.1 X.2.1 dX2_valueAtOrBelow_55 rfl (lv_at hl 3 rfl) ?_
        refine lv_iconst (v := (-1)) X.1 X.2.1 dX2_valueAtOrBelow_56 (by decide) ?_
        refine lv_icmp_ne (tgt := 64) X.1 X.2.1 dX2_valueAtOrBelow_57 (by decide) (fun c57 => ?_) (fun c57 => ?_)
        · replace hf := k_ifN hf c57
          refine lv_aload_n X.1 X.2.1 dX2_valueAtOrBelow_64 rfl (lv_at hl 0 rfl) ?_
          refine k_getw (v := .ref (ad k (tc + 2))) X hU (k_sT hk hc) fl_X2_15 rfl dX2_valueAtOrBelow_65 ?_
          refine lv_iload_n X.1 X.2.1 dX2_valueAtOrBelow_68 rfl (lv_at hl 3 rfl) ?_
          obtain ⟨hi69, hf⟩ := k_ckE hf
          refine k_ildw (j0 := a3.toNatClampNeg) X hU (k_sT2 hk hc) (k_vin (n := 8) hi69 (by decide)) rfl dX2_valueAtOrBelow_69 ?_
          rw [← hw, k_uc_id] at hU
          have hz := Option.some.inj hf
          subst hz
          exact k_iret (v := w (tc + 2) a3.toNatClampNeg) X hU hS hr hlk rfl rfl dX2_valueAtOrBelow_70
        · replace hf := k_ifP hf c57
          refine lv_iload_n X.1 X.2.1 dX2_valueAtOrBelow_60 rfl (lv_at hl 2 rfl) ?_
          refine lv_goto (tgt := 70) X.1 X.2.1 dX2_valueAtOrBelow_61 (by decide) ?_
          rw [← hw, k_uc_id] at hU
          have hz := Option.some.inj hf
          subst hz
          exact k_iret (v := a2) X hU hS hr hlk rfl rfl dX2_valueAtOrBelow_70
      · replace hf := k_ifN hf c11
        refine lv_aload_n X.1 X.2.1 dX2_valueAtOrBelow_14 rfl (lv_at hl 0 rfl) ?_
        refine k_getw (v := .ref (ad k (tc + 1))) X hU (k_sT hk hc) fl_X2_11 rfl dX2_valueAtOrBelow_15 ?_
        refine lv_iload X.1 X.2.1 dX2_valueAtOrBelow_18 (lv_at hl 4 rfl) ?_
        obtain ⟨hi20, hf⟩ := k_ckE hf
        refine k_ildw (j0 := a4.toNatClampNeg) X hU (k_sT1 hk hc) (k_vin (n := 8) hi20 (by decide)) rfl dX2_valueAtOrBelow_20 ?_
        refine lv_iload_n X.1 X.2.1 dX2_valueAtOrBelow_21 rfl (lv_at hl 1 rfl) ?_
        refine lv_icmp_gt (tgt := 49) X.1 X.2.1 dX2_valueAtOrBelow_22 (by decide) (fun c22 => ?_) (fun c22 => ?_)
        · replace hf := k_ifP hf c22
          exact J49 _ _ _ a1 a2 a3 a4 hU hS (lv_sub hl [0, 1, 2, 3, 4] rfl) hf
        · replace hf := k_ifN hf c22
          refine lv_iload_n X.1 X.2.1 dX2_valueAtOrBelow_25 rfl (lv_at hl 3 rfl) ?_
          refine lv_iconst (v := (-1)) X.1 X.2.1 dX2_valueAtOrBelow_26 (by decide) ?_
          refine lv_icmp_eq (tgt := 46) X.1 X.2.1 dX2_valueAtOrBelow_27 (by decide) (fun c27 => ?_) (fun c27 => ?_)
          · replace hf := k_ifP hf c27
            exact J46 _ _ _ a1 a2 a4 hU hS (lv_sub hl [0, 1, 2, 4] rfl) hf
          · replace hf := k_ifN hf c27
            refine lv_aload_n X.1 X.2.1 dX2_valueAtOrBelow_30 rfl (lv_at hl 0 rfl) ?_
            refine k_getw (v := .ref (ad k (tc + 1))) X hU (k_sT hk hc) fl_X2_11 rfl dX2_valueAtOrBelow_31 ?_
            refine lv_iload X.1 X.2.1 dX2_valueAtOrBelow_34 (lv_at hl 4 rfl) ?_
            obtain ⟨hi36, hf⟩ := k_ckE hf
            refine k_ildw (j0 := a4.toNatClampNeg) X hU (k_sT1 hk hc) (k_vin (n := 8) hi36 (by decide)) rfl dX2_valueAtOrBelow_36 ?_
            refine lv_aload_n X.1 X.2.1 dX2_valueAtOrBelow_37 rfl (lv_at hl 0 rfl) ?_
            refine k_getw (v := .ref (ad k (tc + 1))) X hU (k_sT hk hc) fl_X2_11 rfl dX2_valueAtOrBelow_38 ?_
            refine lv_iload_n X.1 X.2.1 dX2_valueAtOrBelow_41 rfl (lv_at hl 3 rfl) ?_
            obtain ⟨hi42, hf⟩ := k_ckE hf
            refine k_ildw (j0 := a3.toNatClampNeg) X hU (k_sT1 hk hc) (k_vin (n := 8) hi42 (by decide)) rfl dX2_valueAtOrBelow_42 ?_
            refine lv_icmp_le (tgt := 49) X.1 X.2.1 dX2_valueAtOrBelow_43 (by decide) (fun c43 => ?_) (fun c43 => ?_)
            · replace hf := k_ifP hf c43
              exact J49 _ _ _ a1 a2 a3 a4 hU hS (lv_sub hl [0, 1, 2, 3, 4] rfl) hf
            · replace hf := k_ifN hf c43
              exact J46 _ _ _ a1 a2 a4 hU hS (lv_sub hl [0, 1, 2, 4] rfl) hf
  unfold f_X2_valueAtOrBelow at hf
  refine lv_iconst (v := (-1)) X.1 X.2.1 dX2_valueAtOrBelow_0 (by decide) ?_
  refine lv_istore_n (lv' := [(3, .int (-1)), (0, .ref (ad k tc)), (1, .int a1), (2, .int a2)]) X.1 X.2.1 dX2_valueAtOrBelow_1 rfl hl (by decide) rfl (fun ls hl => ?_)
  refine lv_iconst (v := 0) X.1 X.2.1 dX2_valueAtOrBelow_2 (by decide) ?_
  refine lv_istore (lv' := [(4, .int 0), (3, .int (-1)), (0, .ref (ad k tc)), (1, .int a1), (2, .int a2)]) X.1 X.2.1 dX2_valueAtOrBelow_3 hl (by decide) rfl (fun ls hl => ?_)
  exact L5 k_N _ _ _ a1 a2 (-1) 0 hU hS (lv_sub hl [2, 3, 4, 1, 0] rfl) hf
def rm_X8_distanceTo : Room := { frames := 0, cells := 0, slots := 0, locals := 0 }
set_option maxRecDepth 100000 in
set_option maxHeartbeats 4000000 in
theorem c_X8_distanceTo {l : Launch} {D : va_G} {G : Nat → ClassId} {ad : Nat → Nat → Nat} {u : k_U} (hI : k_ok ad) {k : Nat} (hk : k_isW k) {w : k_M} (hw : u k = w) {a1 : Int32} {a2 : Int32} {sz : Nat} {r : Int32} (hf : f_X8_distanceTo w a1 a2 = some r) : Met l yX8_distanceTo (.code yX8_distanceTo cX8_distanceTo 3 (some .int) :: lw_g) rm_X8_distanceTo (k_Pre D G ad u sz [.ref (ad k 9), .int a1, .int a2]) (k_Qi D G ad u r sz) 0 0 (k_A ad sz) := by
  refine k_ofW (by decide +kernel) hI (Nat.le_of_ble_eq_true rfl) ?_
  intro p e s m args below meth c X hr hlk hU hS ls hl
  have hl : lv_has ls 3 [(0, .ref (ad k 9)), (1, .int a1), (2, .int a2)] := hl
  have hU : k_Uv D G ad (k_uc u k w) s.heap := by rw [← hw, k_uc_id]; exact hU
  unfold f_X8_distanceTo at hf
  refine lv_iload_n X.1 X.2.1 dX8_distanceTo_0 rfl (lv_at hl 2 rfl) ?_
  refine lv_aload_n X.1 X.2.1 dX8_distanceTo_1 rfl (lv_at hl 0 rfl) ?_
  refine k_getw (v := .ref (ad k 10)) X hU (sW_9 hk) fl_X8_11 rfl dX8_distanceTo_2 ?_
  refine lv_iload_n X.1 X.2.1 dX8_distanceTo_5 rfl (lv_at hl 1 rfl) ?_
  obtain ⟨hi6, hf⟩ := k_ckE hf
  refine k_ildw (j0 := a1.toNatClampNeg) X hU (sW_10 hk) (k_vin (n := 8) hi6 (by decide)) rfl dX8_distanceTo_6 ?_
  refine lv_icmp_ge (tgt := 19) X.1 X.2.1 dX8_distanceTo_7 (by decide) (fun c7 => ?_) (fun c7 => ?_)
  · replace hf := k_ifP hf c7
    refine lv_iload_n X.1 X.2.1 dX8_distanceTo_19 rfl (lv_at hl 2 rfl) ?_
    refine lv_aload_n X.1 X.2.1 dX8_distanceTo_20 rfl (lv_at hl 0 rfl) ?_
    refine k_getw (v := .ref (ad k 11)) X hU (sW_9 hk) fl_X8_15 rfl dX8_distanceTo_21 ?_
    refine lv_iload_n X.1 X.2.1 dX8_distanceTo_24 rfl (lv_at hl 1 rfl) ?_
    obtain ⟨hi25, hf⟩ := k_ckE hf
    refine k_ildw (j0 := a1.toNatClampNeg) X hU (sW_11 hk) (k_vin (n := 8) hi25 (by decide)) rfl dX8_distanceTo_25 ?_
    refine lv_icmp_le (tgt := 40) X.1 X.2.1 dX8_distanceTo_26 (by decide) (fun c26 => ?_) (fun c26 => ?_)
    · replace hf := k_ifP hf c26
      refine lv_iconst (v := 0) X.1 X.2.1 dX8_distanceTo_40 (by decide) ?_
      rw [← hw, k_uc_id] at hU
      have hz := Option.some.inj hf
      subst hz
      exact k_iret (v := 0) X hU hS hr hlk rfl rfl dX8_distanceTo_41
    · replace hf := k_ifN hf c26
      refine lv_iload_n X.1 X.2.1 dX8_distanceTo_29 rfl (lv_at hl 2 rfl) ?_
      refine lv_aload_n X.1 X.2.1 dX8_distanceTo_30 rfl (lv_at hl 0 rfl) ?_
      refine k_getw (v := .ref (ad k 11)) X hU (sW_9 hk) fl_X8_15 rfl dX8_distanceTo_31 ?_
      refine lv_iload_n X.1 X.2.1 dX8_distanceTo_34 rfl (lv_at hl 1 rfl) ?_
      obtain ⟨hi35, hf⟩ := k_ckE hf
      refine k_ildw (j0 := a1.toNatClampNeg) X hU (sW_11 hk) (k_vin (n := 8) hi35 (by decide)) rfl dX8_distanceTo_35 ?_
      refine lv_isub X.1 X.2.1 dX8_distanceTo_36 ?_
      refine lv_goto (tgt := 41) X.1 X.2.1 dX8_distanceTo_37 (by decide) ?_
      rw [← hw, k_uc_id] at hU
      have hz := Option.some.inj hf
      subst hz
      exact k_iret (v := (a2 - (w 11 a1.toNatClampNeg))) X hU hS hr hlk rfl rfl dX8_distanceTo_41
  · replace hf := k_ifN hf c7
    refine lv_aload_n X.1 X.2.1 dX8_distanceTo_10 rfl (lv_at hl 0 rfl) ?_
    refine k_getw (v := .ref (ad k 10)) X hU (sW_9 hk) fl_X8_11 rfl dX8_distanceTo_11 ?_
    refine lv_iload_n X.1 X.2.1 dX8_distanceTo_14 rfl (lv_at hl 1 rfl) ?_
    obtain ⟨hi15, hf⟩ := k_ckE hf
    refine k_ildw (j0 := a1.toNatClampNeg) X hU (sW_10 hk) (k_vin (n := 8) hi15 (by decide)) rfl dX8_distanceTo_15 ?_
    refine lv_iload_n X.1 X.2.1 dX8_distanceTo_16 rfl (lv_at hl 2 rfl) ?_
    refine lv_isub X.1 X.2.1 dX8_distanceTo_17 ?_
    rw [← hw, k_uc_id] at hU
    have hz := Option.some.inj hf
    subst hz
    exact k_iret (v := ((w 10 a1.toNatClampNeg) - a2)) X hU hS hr hlk rfl rfl dX8_distanceTo_18
def rm_X8_firstWith : Room := { frames := 1, cells := 0, slots := 0, locals := 22 }
set_option maxRecDepth 100000 in
set_option maxHeartbeats 4000000 in
theorem c_X8_firstWith {l : Launch} {D : va_G} {G : Nat → ClassId} {ad : Nat → Nat → Nat} {u : k_U} (hI : k_ok ad) {k : Nat} (hk : k_isW k) {w : k_M} (hw : u k = w) {a1 : Int32} {sz : Nat} {r : Int32} (hf : f_X8_firstWith w a1 = some r) : Met l yX8_firstWith (.code yX8_firstWith cX8_firstWith 3 (some .int) :: lw_g) rm_X8_firstWith (k_Pre D G ad u sz [.ref (ad k 9), .int a1]) (k_Qi D G ad u r sz) 0 0 (k_A ad sz) := by
  refine k_ofW (by decide +kernel) hI (Nat.le_of_ble_eq_true rfl) ?_
  intro p e s m args below meth c X hr hlk hU hS ls hl
  have hl : lv_has ls 3 [(0, .ref (ad k 9)), (1, .int a1)] := hl
  have hU : k_Uv D G ad (k_uc u k w) s.heap := by rw [← hw, k_uc_id]; exact hU
  have L2 : ∀ (n2 : Nat) (H : Heap) (locs : List Loc) (ls : Array Slot) (a1 : Int32) (a2 : Int32), k_Uv D G ad (k_uc u k w) H → va_S (k_A ad sz) s.heap H locs → lv_has ls 3 [(0, .ref (ad k 9)), (1, .int a1), (2, .int a2)] → f_X8_firstWith_2 n2 w a1 a2 = some r → W p l e rm_X8_firstWith s m args below meth c H locs 0 0 (MQ below (k_Qi D G ad u r sz) args s 0 0 (k_A ad sz)) (F0 m 2 ls []) := by
    intro n2
    induction n2 with
    | zero =>
      intro H locs ls a1 a2 hU hS hl hf
      cases (show none = some r from hf)
    | succ n2 ih2 =>
      intro H locs ls a1 a2 hU hS hl hf
      replace hf : f_X8_firstWith_2_b (f_X8_firstWith_2 n2) w a1 a2 = some r := hf
      unfold f_X8_firstWith_2_b at hf
      refine lv_iload_n X.1 X.2.1 dX8_firstWith_2 rfl (lv_at hl 2 rfl) ?_
      refine lv_aload_n X.1 X.2.1 dX8_firstWith_3 rfl (lv_at hl 0 rfl) ?_
      refine k_getw (v := .int (w 9 3)) X hU (sW_9 hk) fl_X8_27 rfl dX8_firstWith_4 ?_
      refine lv_icmp_ge (tgt := 27) X.1 X.2.1 dX8_firstWith_7 (by decide) (fun c7 => ?_) (fun c7 => ?_)
      · replace hf := k_ifP hf c7
        refine lv_iconst (v := (-1)) X.1 X.2.1 dX8_firstWith_27 (by decide) ?_
        rw [← hw, k_uc_id] at hU
        have hz := Option.some.inj hf
        subst hz
        exact k_iret (v := (-1)) X hU hS hr hlk rfl rfl dX8_firstWith_28
      · replace hf := k_ifN hf c7
        refine lv_aload_n X.1 X.2.1 dX8_firstWith_10 rfl (lv_at hl 0 rfl) ?_
        refine lv_iload_n X.1 X.2.1 dX8_firstWith_11 rfl (lv_at hl 2 rfl) ?_
        refine lv_iload_n X.1 X.2.1 dX8_firstWith_12 rfl (lv_at hl 1 rfl) ?_
        obtain ⟨r13, hr13, hf⟩ := k_bdE hf
        refine k_backi X hS (k_runV (As := [.int a2, .int a1]) (rest := []) X hS hU (sW_9 hk) (by decide) rfl vl_X8_31 (c_X8_distanceTo X.2.2.2.2.2.2.1 hk (k_uc_s _ _ _) hr13) rfl rfl rfl hl.1 ⟨Nat.le_of_ble_eq_true rfl, Nat.le_of_ble_eq_true rfl⟩ (Nat.le_of_ble_eq_true rfl) dX8_firstWith_13 ⟨Nat.zero_le _, Nat.zero_le _⟩) (fun H locs hU hS => ?_)
        refine lv_if_ne (tgt := 21) X.1 X.2.1 dX8_firstWith_16 (by decide) (fun c16 => ?_) (fun c16 => ?_)
        · replace hf := k_ifN hf c16
          obtain ⟨x21, e21, hf⟩ := k_ltE hf
          refine lv_iinc (v := x21) (lv' := [(2, .int x21), (0, .ref (ad k 9)), (1, .int a1)]) X.1 X.2.1 dX8_firstWith_21 hl (k := 2) rfl (by rw [e21]; rfl) (by decide) rfl (fun ls hl => ?_)
          refine lv_goto (tgt := 2) X.1 X.2.1 dX8_firstWith_24 (by decide) ?_
          exact ih2 _ _ _ a1 x21 hU hS (lv_sub hl [1, 2, 0] rfl) hf
        · replace hf := k_ifP hf c16
          refine lv_iload_n X.1 X.2.1 dX8_firstWith_19 rfl (lv_at hl 2 rfl) ?_
          rw [← hw, k_uc_id] at hU
          have hz := Option.some.inj hf
          subst hz
          exact k_iret (v := a2) X hU hS hr hlk rfl rfl dX8_firstWith_20
  unfold f_X8_firstWith at hf
  refine lv_iconst (v := 0) X.1 X.2.1 dX8_firstWith_0 (by decide) ?_
  refine lv_istore_n (lv' := [(2, .int 0), (0, .ref (ad k 9)), (1, .int a1)]) X.1 X.2.1 dX8_firstWith_1 rfl hl (by decide) rfl (fun ls hl => ?_)
  exact L2 k_N _ _ _ a1 0 hU hS (lv_sub hl [1, 2, 0] rfl) hf
def rm_X9_landingResult : Room := { frames := 2, cells := 0, slots := 0, locals := 44 }
set_option maxRecDepth 100000 in
set_option maxHeartbeats 4000000 in
theorem c_X9_landingResult {l : Launch} {D : va_G} {G : Nat → ClassId} {ad : Nat → Nat → Nat} {u : k_U} (hI : k_ok ad) {k : Nat} (hk : k_isW k) {w : k_M} (hw : u k = w) {sz : Nat} {r : Int32} (hf : f_X9_landingResult w = some r) : Met l yX9_landingResult (.code yX9_landingResult cX9_landingResult 2 (some .int) :: lw_g) rm_X9_landingResult (k_Pre D G ad u sz [.ref (ad k 0)]) (k_Qi D G ad u r sz) 0 0 (k_A ad sz) := by
  refine k_ofW (by decide +kernel) hI (Nat.le_of_ble_eq_true rfl) ?_
  intro p e s m args below meth c X hr hlk hU hS ls hl
  have hl : lv_has ls 2 [(0, .ref (ad k 0))] := hl
  have hU : k_Uv D G ad (k_uc u k w) s.heap := by rw [← hw, k_uc_id]; exact hU
  unfold f_X9_landingResult at hf
  refine lv_aload_n X.1 X.2.1 dX9_landingResult_0 rfl (lv_at hl 0 rfl) ?_
  obtain ⟨r1, hr1, hf⟩ := k_bdE hf
  refine k_backi X hS (k_runV (As := []) (rest := []) X hS hU (sW_0 hk) (by decide) rfl vl_X9_190 (c_X9_hasLanded X.2.2.2.2.2.2.1 hk (k_uc_s _ _ _) hr1) rfl rfl rfl hl.1 ⟨Nat.le_of_ble_eq_true rfl, Nat.le_of_ble_eq_true rfl⟩ (Nat.le_of_ble_eq_true rfl) dX9_landingResult_1 ⟨Nat.zero_le _, Nat.zero_le _⟩) (fun H locs hU hS => ?_)
  refine lv_if_ne (tgt := 9) X.1 X.2.1 dX9_landingResult_4 (by decide) (fun c4 => ?_) (fun c4 => ?_)
  · replace hf := k_ifN hf c4
    refine lv_aload_n X.1 X.2.1 dX9_landingResult_9 rfl (lv_at hl 0 rfl) ?_
    refine k_getw (v := .ref (ad k 9)) X hU (sW_0 hk) fl_X9_35 rfl dX9_landingResult_10 ?_
    refine lv_aload_n X.1 X.2.1 dX9_landingResult_13 rfl (lv_at hl 0 rfl) ?_
    refine k_getw (v := .int (w 0 2)) X hU (sW_0 hk) fl_X9_56 rfl dX9_landingResult_14 ?_
    obtain ⟨r17, hr17, hf⟩ := k_bdE hf
    refine k_backi X hS (k_runV (As := [.int (w 0 2)]) (rest := []) X hS hU (sW_9 hk) (by decide) rfl vl_X9_222 (c_X8_firstWith X.2.2.2.2.2.2.1 hk (k_uc_s _ _ _) hr17) rfl rfl rfl hl.1 ⟨Nat.le_of_ble_eq_true rfl, Nat.le_of_ble_eq_true rfl⟩ (Nat.le_of_ble_eq_true rfl) dX9_landingResult_17 ⟨Nat.zero_le _, Nat.zero_le _⟩) (fun H locs hU hS => ?_)
    refine lv_istore_n (lv' := [(1, .int r17), (0, .ref (ad k 0))]) X.1 X.2.1 dX9_landingResult_20 rfl hl (by decide) rfl (fun ls hl => ?_)
    refine lv_iload_n X.1 X.2.1 dX9_landingResult_21 rfl (lv_at hl 0 rfl) ?_
    refine lv_iconst (v := (-1)) X.1 X.2.1 dX9_landingResult_22 (by decide) ?_
    refine lv_icmp_ne (tgt := 28) X.1 X.2.1 dX9_landingResult_23 (by decide) (fun c23 => ?_) (fun c23 => ?_)
    · replace hf := k_ifN hf c23
      refine lv_aload_n X.1 X.2.1 dX9_landingResult_28 rfl (lv_at hl 1 rfl) ?_
      refine k_getw (v := .int (w 0 1)) X hU (sW_0 hk) fl_X9_50 rfl dX9_landingResult_29 ?_
      refine lv_aload_n X.1 X.2.1 dX9_landingResult_32 rfl (lv_at hl 1 rfl) ?_
      refine k_getw (v := .ref (ad k 9)) X hU (sW_0 hk) fl_X9_35 rfl dX9_landingResult_33 ?_
      refine k_getw (v := .ref (ad k 12)) X hU (sW_9 hk) fl_X9_226 rfl dX9_landingResult_36 ?_
      refine lv_iload_n X.1 X.2.1 dX9_landingResult_39 rfl (lv_at hl 0 rfl) ?_
      obtain ⟨hi40, hf⟩ := k_ckE hf
      refine k_ildw (j0 := r17.toNatClampNeg) X hU (sW_12 hk) (k_vin (n := 8) hi40 (by decide)) rfl dX9_landingResult_40 ?_
      refine lv_icmp_gt (tgt := 48) X.1 X.2.1 dX9_landingResult_41 (by decide) (fun c41 => ?_) (fun c41 => ?_)
      · replace hf := k_ifP hf c41
        refine lv_iconst (v := 2) X.1 X.2.1 dX9_landingResult_48 (by decide) ?_
        rw [← hw, k_uc_id] at hU
        have hz := Option.some.inj hf
        subst hz
        exact k_iret (v := 2) X hU hS hr hlk rfl rfl dX9_landingResult_49
      · replace hf := k_ifN hf c41
        refine lv_iconst (v := 1) X.1 X.2.1 dX9_landingResult_44 (by decide) ?_
        refine lv_goto (tgt := 49) X.1 X.2.1 dX9_landingResult_45 (by decide) ?_
        rw [← hw, k_uc_id] at hU
        have hz := Option.some.inj hf
        subst hz
        exact k_iret (v := 1) X hU hS hr hlk rfl rfl dX9_landingResult_49
    · replace hf := k_ifP hf c23
      refine lv_iconst (v := 3) X.1 X.2.1 dX9_landingResult_26 (by decide) ?_
      rw [← hw, k_uc_id] at hU
      have hz := Option.some.inj hf
      subst hz
      exact k_iret (v := 3) X hU hS hr hlk rfl rfl dX9_landingResult_27
  · replace hf := k_ifP hf c4
    refine lv_iconst (v := 0) X.1 X.2.1 dX9_landingResult_7 (by decide) ?_
    rw [← hw, k_uc_id] at hU
    have hz := Option.some.inj hf
    subst hz
    exact k_iret (v := 0) X hU hS hr hlk rfl rfl dX9_landingResult_8
def rm_X9_passSecond : Room := { frames := 3, cells := 0, slots := 0, locals := 85 }
set_option maxRecDepth 100000 in
set_option maxHeartbeats 4000000 in
theorem c_X9_passSecond {l : Launch} {D : va_G} {G : Nat → ClassId} {ad : Nat → Nat → Nat} {u : k_U} (hI : k_ok ad) {k : Nat} (hk : k_isW k) {w : k_M} (hw : u k = w) {sz : Nat} {r : k_M} (hf : f_X9_passSecond w = some r) : Met l yX9_passSecond (.code yX9_passSecond cX9_passSecond 9 none :: lw_g) rm_X9_passSecond (k_Pre D G ad u sz [.ref (ad k 0)]) (k_Qv D G ad (k_uc u k r) sz) 0 0 (k_A ad sz) := by
  refine k_ofW (by decide +kernel) hI (Nat.le_of_ble_eq_true rfl) ?_
  intro p e s m args below meth c X hr hlk hU hS ls hl
  have hl : lv_has ls 9 [(0, .ref (ad k 0))] := hl
  have hU : k_Uv D G ad (k_uc u k w) s.heap := by rw [← hw, k_uc_id]; exact hU
  have J226 : ∀ (H : Heap) (locs : List Loc) (ls : Array Slot) (w : k_M), k_Uv D G ad (k_uc u k w) H → va_S (k_A ad sz) s.heap H locs → lv_has ls 9 [(0, .ref (ad k 0))] → f_X9_passSecond_226 w = some r → W p l e rm_X9_passSecond s m args below meth c H locs 0 0 (MQ below (k_Qv D G ad (k_uc u k r) sz) args s 0 0 (k_A ad sz)) (F0 m 226 ls []) := by
    intro H locs ls w hU hS hl hf
    unfold f_X9_passSecond_226 at hf
    refine lv_aload_n X.1 X.2.1 dX9_passSecond_226 rfl (lv_at hl 0 rfl) ?_
    refine lv_dup X.1 X.2.1 dX9_passSecond_227 rfl ?_
    refine k_getw (v := .int (w 0 6)) X hU (sW_0 hk) fl_X9_65 rfl dX9_passSecond_228 ?_
    refine lv_iconst (v := 1) X.1 X.2.1 dX9_passSecond_231 (by decide) ?_
    refine lv_iadd X.1 X.2.1 dX9_passSecond_232 ?_
    obtain ⟨w233, e233, hf⟩ := k_ltE hf
    refine k_putw X hU hS (sW_0 hk) fp_X9_65 rfl e233 rfl rfl dX9_passSecond_233 (fun H locs hU hS => ?_)
    have hz := Option.some.inj hf
    subst hz
    exact k_vret X hU hS hr hlk dX9_passSecond_236
  have J166 : ∀ (H : Heap) (locs : List Loc) (ls : Array Slot) (w : k_M), k_Uv D G ad (k_uc u k w) H → va_S (k_A ad sz) s.heap H locs → lv_has ls 9 [(0, .ref (ad k 0))] → f_X9_passSecond_166 w = some r → W p l e rm_X9_passSecond s m args below meth c H locs 0 0 (MQ below (k_Qv D G ad (k_uc u k r) sz) args s 0 0 (k_A ad sz)) (F0 m 166 ls []) := by
    intro H locs ls w hU hS hl hf
    unfold f_X9_passSecond_166 at hf
    refine lv_aload_n X.1 X.2.1 dX9_passSecond_166 rfl (lv_at hl 0 rfl) ?_
    refine k_getw (v := .int (w 0 1)) X hU (sW_0 hk) fl_X9_50 rfl dX9_passSecond_167 ?_
    refine lv_aload_n X.1 X.2.1 dX9_passSecond_170 rfl (lv_at hl 0 rfl) ?_
    refine k_getw (v := .int (w 0 0)) X hU (sW_0 hk) fl_X9_46 rfl dX9_passSecond_171 ?_
    refine k_mini_r X (mX9_181) hl.1 (Nat.le_of_ble_eq_true rfl) (Nat.le_of_ble_eq_true rfl) ⟨Nat.zero_le _, Nat.zero_le _⟩ dX9_passSecond_174 ?_
    obtain ⟨x177, e177, hf⟩ := k_ltE hf
    refine k_nmi e177 ?_
    refine lv_istore (lv' := [(8, .int x177), (0, .ref (ad k 0))]) X.1 X.2.1 dX9_passSecond_177 hl (by decide) rfl (fun ls hl => ?_)
    refine lv_aload_n X.1 X.2.1 dX9_passSecond_179 rfl (lv_at hl 1 rfl) ?_
    refine lv_dup X.1 X.2.1 dX9_passSecond_180 rfl ?_
    refine k_getw (v := .int (w 0 0)) X hU (sW_0 hk) fl_X9_46 rfl dX9_passSecond_181 ?_
    refine lv_iload X.1 X.2.1 dX9_passSecond_184 (lv_at hl 0 rfl) ?_
    refine lv_isub X.1 X.2.1 dX9_passSecond_186 ?_
    obtain ⟨w187, e187, hf⟩ := k_ltE hf
    refine k_putw X hU hS (sW_0 hk) fp_X9_46 rfl e187 rfl rfl dX9_passSecond_187 (fun H locs hU hS => ?_)
    refine lv_aload_n X.1 X.2.1 dX9_passSecond_190 rfl (lv_at hl 1 rfl) ?_
    refine lv_dup X.1 X.2.1 dX9_passSecond_191 rfl ?_
    refine k_getw (v := .int (w187 0 8)) X hU (sW_0 hk) fl_X9_71 rfl dX9_passSecond_192 ?_
    refine lv_iload X.1 X.2.1 dX9_passSecond_195 (lv_at hl 0 rfl) ?_
    refine lv_iadd X.1 X.2.1 dX9_passSecond_197 ?_
    obtain ⟨w198, e198, hf⟩ := k_ltE hf
    refine k_putw X hU hS (sW_0 hk) fp_X9_71 rfl e198 rfl rfl dX9_passSecond_198 (fun H locs hU hS => ?_)
    refine lv_aload_n X.1 X.2.1 dX9_passSecond_201 rfl (lv_at hl 1 rfl) ?_
    obtain ⟨r202, hr202, hf⟩ := k_bdE hf
    refine k_backi X hS (k_runV (As := []) (rest := []) X hS hU (sW_0 hk) (by decide) rfl vl_X9_190 (c_X9_hasLanded X.2.2.2.2.2.2.1 hk (k_uc_s _ _ _) hr202) rfl rfl rfl hl.1 ⟨Nat.le_of_ble_eq_true rfl, Nat.le_of_ble_eq_true rfl⟩ (Nat.le_of_ble_eq_true rfl) dX9_passSecond_202 ⟨Nat.zero_le _, Nat.zero_le _⟩) (fun H locs hU hS => ?_)
    refine lv_if_eq (tgt := 226) X.1 X.2.1 dX9_passSecond_205 (by decide) (fun c205 => ?_) (fun c205 => ?_)
    · replace hf := k_ifP hf c205
      exact J226 _ _ _ w198 hU hS (lv_sub hl [1] rfl) hf
    · replace hf := k_ifN hf c205
      refine lv_aload_n X.1 X.2.1 dX9_passSecond_208 rfl (lv_at hl 1 rfl) ?_
      refine k_getw (v := .ref (ad k 13)) X hU (sW_0 hk) fl_X9_42 rfl dX9_passSecond_209 ?_
      refine lv_aload_n X.1 X.2.1 dX9_passSecond_212 rfl (lv_at hl 1 rfl) ?_
      refine k_getw (v := .int (w198 0 6)) X hU (sW_0 hk) fl_X9_65 rfl dX9_passSecond_213 ?_
      refine lv_bipush (v := 6) X.1 X.2.1 dX9_passSecond_216 (by decide) ?_
      refine lv_iconst (v := (-1)) X.1 X.2.1 dX9_passSecond_218 (by decide) ?_
      refine lv_aload_n X.1 X.2.1 dX9_passSecond_219 rfl (lv_at hl 1 rfl) ?_
      obtain ⟨r220, hr220, hf⟩ := k_bdE hf
      refine k_backi X hS (k_runV (As := []) (rest := [.int (-1), .int 6, .int (w198 0 6), .ref (ad k 13)]) X hS hU (sW_0 hk) (by decide) rfl vl_X9_193 (c_X9_landingResult X.2.2.2.2.2.2.1 hk (k_uc_s _ _ _) hr220) rfl rfl rfl hl.1 ⟨Nat.le_of_ble_eq_true rfl, Nat.le_of_ble_eq_true rfl⟩ (Nat.le_of_ble_eq_true rfl) dX9_passSecond_220 ⟨Nat.zero_le _, Nat.zero_le _⟩) (fun H locs hU hS => ?_)
      obtain ⟨r223, hr223, hf⟩ := k_bdE hf
      refine k_backv X hS (k_runV (As := [.int (w198 0 6), .int 6, .int (-1), .int r220]) (rest := []) X hS hU (sW_13 hk) (by decide) rfl vl_X9_157 (c_X1_keep X.2.2.2.2.2.2.1 hk (k_uc_s _ _ _) hr223) rfl rfl rfl hl.1 ⟨Nat.le_of_ble_eq_true rfl, Nat.le_of_ble_eq_true rfl⟩ (Nat.le_of_ble_eq_true rfl) dX9_passSecond_223 ⟨Nat.zero_le _, Nat.zero_le _⟩) (fun H locs hU hS => ?_)
      rw [k_uc_uc] at hU
      exact J226 _ _ _ r223 hU hS (lv_sub hl [1] rfl) hf
  have J40 : ∀ (H : Heap) (locs : List Loc) (ls : Array Slot) (w : k_M) (a1 : Int32) (as0 : Int64), k_Uv D G ad (k_uc u k w) H → va_S (k_A ad sz) s.heap H locs → lv_has ls 9 [(0, .ref (ad k 0)), (1, .int a1)] → f_X9_passSecond_40 w a1 as0 = some r → W p l e rm_X9_passSecond s m args below meth c H locs 0 0 (MQ below (k_Qv D G ad (k_uc u k r) sz) args s 0 0 (k_A ad sz)) (F0 m 40 ls [.long as0]) := by
    intro H locs ls w a1 as0 hU hS hl hf
    unfold f_X9_passSecond_40 at hf
    refine lv_lstore (lv' := [(4, .long as0), (0, .ref (ad k 0)), (1, .int a1)]) X.1 X.2.1 dX9_passSecond_40 hl (by decide) rfl (fun ls hl => ?_)
    refine lv_aload_n X.1 X.2.1 dX9_passSecond_42 rfl (lv_at hl 1 rfl) ?_
    refine k_getw (v := .int (w 0 1)) X hU (sW_0 hk) fl_X9_50 rfl dX9_passSecond_43 ?_
    refine lv_bipush (v := 10) X.1 X.2.1 dX9_passSecond_46 (by decide) ?_
    refine lv_iadd X.1 X.2.1 dX9_passSecond_48 ?_
    refine lv_i2l (v := ((w 0 1) + 10).toInt64) X.1 X.2.1 dX9_passSecond_49 rfl ?_
    refine lv_lload X.1 X.2.1 dX9_passSecond_50 (lv_at hl 0 rfl) ?_
    refine lv_lsub X.1 X.2.1 dX9_passSecond_52 ?_
    refine lv_l2i (v := ((((w 0 1) + 10).toInt64) - as0).toInt32) X.1 X.2.1 dX9_passSecond_53 rfl ?_
    obtain ⟨x54, e54, hf⟩ := k_ltE hf
    refine k_nmi e54 ?_
    refine lv_istore (lv' := [(6, .int x54), (4, .long as0), (0, .ref (ad k 0)), (1, .int a1)]) X.1 X.2.1 dX9_passSecond_54 hl (by decide) rfl (fun ls hl => ?_)
    refine lv_aload_n X.1 X.2.1 dX9_passSecond_56 rfl (lv_at hl 2 rfl) ?_
    refine lv_iload X.1 X.2.1 dX9_passSecond_57 (lv_at hl 0 rfl) ?_
    refine lv_aload_n X.1 X.2.1 dX9_passSecond_59 rfl (lv_at hl 2 rfl) ?_
    refine k_getw (v := .int (w 0 1)) X hU (sW_0 hk) fl_X9_50 rfl dX9_passSecond_60 ?_
    refine lv_iconst (v := 2) X.1 X.2.1 dX9_passSecond_63 (by decide) ?_
    refine lv_idiv X.1 X.2.1 dX9_passSecond_64 (by decide) ?_
    refine k_maxi_r X (mX9_174) hl.1 (Nat.le_of_ble_eq_true rfl) (Nat.le_of_ble_eq_true rfl) ⟨Nat.zero_le _, Nat.zero_le _⟩ dX9_passSecond_65 ?_
    refine lv_iconst (v := 1) X.1 X.2.1 dX9_passSecond_68 (by decide) ?_
    refine k_maxi_r X (mX9_174) hl.1 (Nat.le_of_ble_eq_true rfl) (Nat.le_of_ble_eq_true rfl) ⟨Nat.zero_le _, Nat.zero_le _⟩ dX9_passSecond_69 ?_
    obtain ⟨w72, e72, hf⟩ := k_ltE hf
    refine k_putw X hU hS (sW_0 hk) fp_X9_50 rfl e72 rfl rfl dX9_passSecond_72 (fun H locs hU hS => ?_)
    refine lv_aload_n X.1 X.2.1 dX9_passSecond_75 rfl (lv_at hl 2 rfl) ?_
    refine k_getw (v := .int (w72 0 1)) X hU (sW_0 hk) fl_X9_50 rfl dX9_passSecond_76 ?_
    refine lv_i2l (v := (w72 0 1).toInt64) X.1 X.2.1 dX9_passSecond_79 rfl ?_
    refine lv_aload_n X.1 X.2.1 dX9_passSecond_80 rfl (lv_at hl 2 rfl) ?_
    refine k_getw (v := .int (w72 0 1)) X hU (sW_0 hk) fl_X9_50 rfl dX9_passSecond_81 ?_
    refine lv_i2l (v := (w72 0 1).toInt64) X.1 X.2.1 dX9_passSecond_84 rfl ?_
    refine lv_lmul X.1 X.2.1 dX9_passSecond_85 ?_
    refine lv_iload_n X.1 X.2.1 dX9_passSecond_86 rfl (lv_at hl 3 rfl) ?_
    refine lv_i2l (v := a1.toInt64) X.1 X.2.1 dX9_passSecond_87 rfl ?_
    refine lv_lmul X.1 X.2.1 dX9_passSecond_88 ?_
    refine lv_ldc2 (v := 100000) X.1 X.2.1 X.2.2.2.1 (X.2.2.2.2.1 _ t_811) dX9_passSecond_89 ?_
    refine lv_ldiv X.1 X.2.1 dX9_passSecond_92 (by decide) ?_
    refine lv_l2i (v := (((((w72 0 1).toInt64) * ((w72 0 1).toInt64)) * a1.toInt64) / (100000 : Int64)).toInt32) X.1 X.2.1 dX9_passSecond_93 rfl ?_
    obtain ⟨x94, e94, hf⟩ := k_ltE hf
    refine k_nmi e94 ?_
    refine lv_istore (lv' := [(7, .int x94), (6, .int x54), (4, .long as0), (0, .ref (ad k 0)), (1, .int a1)]) X.1 X.2.1 dX9_passSecond_94 hl (by decide) rfl (fun ls hl => ?_)
    refine lv_aload_n X.1 X.2.1 dX9_passSecond_96 rfl (lv_at hl 3 rfl) ?_
    refine lv_dup X.1 X.2.1 dX9_passSecond_97 rfl ?_
    refine k_getw (v := .int (w72 0 9)) X hU (sW_0 hk) fl_X9_74 rfl dX9_passSecond_98 ?_
    refine lv_iload X.1 X.2.1 dX9_passSecond_101 (lv_at hl 0 rfl) ?_
    refine lv_iadd X.1 X.2.1 dX9_passSecond_103 ?_
    obtain ⟨w104, e104, hf⟩ := k_ltE hf
    refine k_putw X hU hS (sW_0 hk) fp_X9_74 rfl e104 rfl rfl dX9_passSecond_104 (fun H locs hU hS => ?_)
    refine lv_aload_n X.1 X.2.1 dX9_passSecond_107 rfl (lv_at hl 3 rfl) ?_
    refine lv_aload_n X.1 X.2.1 dX9_passSecond_108 rfl (lv_at hl 3 rfl) ?_
    refine k_getw (v := .int (w104 0 4)) X hU (sW_0 hk) fl_X9_59 rfl dX9_passSecond_109 ?_
    refine lv_iload X.1 X.2.1 dX9_passSecond_112 (lv_at hl 0 rfl) ?_
    refine lv_iadd X.1 X.2.1 dX9_passSecond_114 ?_
    refine lv_aload_n X.1 X.2.1 dX9_passSecond_115 rfl (lv_at hl 3 rfl) ?_
    refine k_getw (v := .int (w104 0 7)) X hU (sW_0 hk) fl_X9_68 rfl dX9_passSecond_116 ?_
    refine lv_isub X.1 X.2.1 dX9_passSecond_119 ?_
    refine lv_iconst (v := 0) X.1 X.2.1 dX9_passSecond_120 (by decide) ?_
    refine k_maxi_r X (mX9_174) hl.1 (Nat.le_of_ble_eq_true rfl) (Nat.le_of_ble_eq_true rfl) ⟨Nat.zero_le _, Nat.zero_le _⟩ dX9_passSecond_121 ?_
    refine lv_sipush (v := 999) X.1 X.2.1 dX9_passSecond_124 (by decide) ?_
    refine k_mini_r X (mX9_181) hl.1 (Nat.le_of_ble_eq_true rfl) (Nat.le_of_ble_eq_true rfl) ⟨Nat.zero_le _, Nat.zero_le _⟩ dX9_passSecond_127 ?_
    obtain ⟨w130, e130, hf⟩ := k_ltE hf
    refine k_putw X hU hS (sW_0 hk) fp_X9_59 rfl e130 rfl rfl dX9_passSecond_130 (fun H locs hU hS => ?_)
    refine lv_aload_n X.1 X.2.1 dX9_passSecond_133 rfl (lv_at hl 3 rfl) ?_
    obtain ⟨r134, hr134, hf⟩ := k_bdE hf
    refine k_backi X hS (k_runV (As := []) (rest := []) X hS hU (sW_0 hk) (by decide) rfl vl_X9_184 (c_X9_openChutes X.2.2.2.2.2.2.1 hk (k_uc_s _ _ _) hr134) rfl rfl rfl hl.1 ⟨Nat.le_of_ble_eq_true rfl, Nat.le_of_ble_eq_true rfl⟩ (Nat.le_of_ble_eq_true rfl) dX9_passSecond_134 ⟨Nat.zero_le _, Nat.zero_le _⟩) (fun H locs hU hS => ?_)
    refine lv_if_le (tgt := 166) X.1 X.2.1 dX9_passSecond_137 (by decide) (fun c137 => ?_) (fun c137 => ?_)
    · replace hf := k_ifP hf c137
      exact J166 _ _ _ w130 hU hS (lv_sub hl [3] rfl) hf
    · replace hf := k_ifN hf c137
      refine lv_aload_n X.1 X.2.1 dX9_passSecond_140 rfl (lv_at hl 3 rfl) ?_
      refine lv_dup X.1 X.2.1 dX9_passSecond_141 rfl ?_
      refine k_getw (v := .int (w130 0 2)) X hU (sW_0 hk) fl_X9_56 rfl dX9_passSecond_142 ?_
      refine lv_aload_n X.1 X.2.1 dX9_passSecond_145 rfl (lv_at hl 3 rfl) ?_
      refine k_getw (v := .ref (ad k 6)) X hU (sW_0 hk) fl_X9_29 rfl dX9_passSecond_146 ?_
      refine lv_aload_n X.1 X.2.1 dX9_passSecond_149 rfl (lv_at hl 3 rfl) ?_
      refine k_getw (v := .int (w130 0 0)) X hU (sW_0 hk) fl_X9_46 rfl dX9_passSecond_150 ?_
      refine lv_iconst (v := 0) X.1 X.2.1 dX9_passSecond_153 (by decide) ?_
      obtain ⟨r154, hr154, hf⟩ := k_bdE hf
      refine k_backi X hS (k_runV (As := [.int (w130 0 0), .int 0]) (rest := [.int (w130 0 2), .ref (ad k 0)]) X hS hU (k_sT hk k_isT_6) (by decide) rfl vl_X9_187 (c_X2_valueAtOrBelow X.2.2.2.2.2.2.1 hk (k_uc_s _ _ _) k_isT_6 hr154) rfl rfl rfl hl.1 ⟨Nat.le_of_ble_eq_true rfl, Nat.le_of_ble_eq_true rfl⟩ (Nat.le_of_ble_eq_true rfl) dX9_passSecond_154 ⟨Nat.zero_le _, Nat.zero_le _⟩) (fun H locs hU hS => ?_)
      refine lv_aload_n X.1 X.2.1 dX9_passSecond_157 rfl (lv_at hl 3 rfl) ?_
      refine k_getw (v := .int (w130 0 5)) X hU (sW_0 hk) fl_X9_62 rfl dX9_passSecond_158 ?_
      refine lv_iadd X.1 X.2.1 dX9_passSecond_161 ?_
      refine lv_iadd X.1 X.2.1 dX9_passSecond_162 ?_
      obtain ⟨w163, e163, hf⟩ := k_ltE hf
      refine k_putw X hU hS (sW_0 hk) fp_X9_56 rfl e163 rfl rfl dX9_passSecond_163 (fun H locs hU hS => ?_)
      exact J166 _ _ _ w163 hU hS (lv_sub hl [3] rfl) hf
  have J16 : ∀ (H : Heap) (locs : List Loc) (ls : Array Slot) (w : k_M) (a1 : Int32), k_Uv D G ad (k_uc u k w) H → va_S (k_A ad sz) s.heap H locs → lv_has ls 9 [(0, .ref (ad k 0)), (1, .int a1)] → f_X9_passSecond_16 w a1 = some r → W p l e rm_X9_passSecond s m args below meth c H locs 0 0 (MQ below (k_Qv D G ad (k_uc u k r) sz) args s 0 0 (k_A ad sz)) (F0 m 16 ls []) := by
    intro H locs ls w a1 hU hS hl hf
    unfold f_X9_passSecond_16 at hf
    refine lv_aload_n X.1 X.2.1 dX9_passSecond_16 rfl (lv_at hl 0 rfl) ?_
    refine lv_iload_n X.1 X.2.1 dX9_passSecond_17 rfl (lv_at hl 1 rfl) ?_
    obtain ⟨r18, hr18, hf⟩ := k_bdE hf
    refine k_backl X hS (k_runV (As := [.int a1]) (rest := []) X hS hU (sW_0 hk) (by decide) rfl vl_X9_170 (c_X9_tearAndBrake X.2.2.2.2.2.2.1 hk (k_uc_s _ _ _) hr18) rfl rfl rfl hl.1 ⟨Nat.le_of_ble_eq_true rfl, Nat.le_of_ble_eq_true rfl⟩ (Nat.le_of_ble_eq_true rfl) dX9_passSecond_18 ⟨Nat.zero_le _, Nat.zero_le _⟩) (fun H locs hU hS => ?_)
    rw [k_uc_uc] at hU
    refine lv_lstore_n (lv' := [(2, .long r18.2), (0, .ref (ad k 0)), (1, .int a1)]) X.1 X.2.1 dX9_passSecond_21 rfl hl (by decide) rfl (fun ls hl => ?_)
    refine lv_aload_n X.1 X.2.1 dX9_passSecond_22 rfl (lv_at hl 1 rfl) ?_
    refine k_getw (v := .int (r18.1 0 3)) X hU (sW_0 hk) fl_X9_53 rfl dX9_passSecond_23 ?_
    refine lv_if_le (tgt := 39) X.1 X.2.1 dX9_passSecond_26 (by decide) (fun c26 => ?_) (fun c26 => ?_)
    · replace hf := k_ifP hf c26
      refine lv_lconst (v := 0) X.1 X.2.1 dX9_passSecond_39 (by decide) ?_
      exact J40 _ _ _ r18.1 a1 (0 : Int64) hU hS (lv_sub hl [1, 2] rfl) hf
    · replace hf := k_ifN hf c26
      refine lv_lload_n X.1 X.2.1 dX9_passSecond_29 rfl (lv_at hl 0 rfl) ?_
      refine lv_aload_n X.1 X.2.1 dX9_passSecond_30 rfl (lv_at hl 1 rfl) ?_
      refine k_getw (v := .int (r18.1 0 3)) X hU (sW_0 hk) fl_X9_53 rfl dX9_passSecond_31 ?_
      refine lv_i2l (v := (r18.1 0 3).toInt64) X.1 X.2.1 dX9_passSecond_34 rfl ?_
      obtain ⟨hi35, hf⟩ := k_ckE hf
      refine lv_ldiv X.1 X.2.1 dX9_passSecond_35 hi35 ?_
      refine lv_goto (tgt := 40) X.1 X.2.1 dX9_passSecond_36 (by decide) ?_
      exact J40 _ _ _ r18.1 a1 (r18.2 / ((r18.1 0 3).toInt64)) hU hS (lv_sub hl [1, 2] rfl) hf
  unfold f_X9_passSecond at hf
  refine lv_aload_n X.1 X.2.1 dX9_passSecond_0 rfl (lv_at hl 0 rfl) ?_
  obtain ⟨r1, hr1, hf⟩ := k_bdE hf
  refine k_backi X hS (k_runV (As := []) (rest := []) X hS hU (sW_0 hk) (by decide) rfl vl_X9_164 (c_X9_air X.2.2.2.2.2.2.1 hk (k_uc_s _ _ _) hr1) rfl rfl rfl hl.1 ⟨Nat.le_of_ble_eq_true rfl, Nat.le_of_ble_eq_true rfl⟩ (Nat.le_of_ble_eq_true rfl) dX9_passSecond_1 ⟨Nat.zero_le _, Nat.zero_le _⟩) (fun H locs hU hS => ?_)
  refine lv_istore_n (lv' := [(1, .int r1), (0, .ref (ad k 0))]) X.1 X.2.1 dX9_passSecond_4 rfl hl (by decide) rfl (fun ls hl => ?_)
  refine lv_aload_n X.1 X.2.1 dX9_passSecond_5 rfl (lv_at hl 1 rfl) ?_
  obtain ⟨r6, hr6, hf⟩ := k_bdE hf
  refine k_backi X hS (k_runV (As := []) (rest := []) X hS hU (sW_0 hk) (by decide) rfl vl_X9_148 (c_X9_asksForBrakes X.2.2.2.2.2.2.1 hk (k_uc_s _ _ _) hr6) rfl rfl rfl hl.1 ⟨Nat.le_of_ble_eq_true rfl, Nat.le_of_ble_eq_true rfl⟩ (Nat.le_of_ble_eq_true rfl) dX9_passSecond_6 ⟨Nat.zero_le _, Nat.zero_le _⟩) (fun H locs hU hS => ?_)
  refine lv_if_eq (tgt := 16) X.1 X.2.1 dX9_passSecond_9 (by decide) (fun c9 => ?_) (fun c9 => ?_)
  · replace hf := k_ifP hf c9
    exact J16 _ _ _ w r1 hU hS (lv_sub hl [1, 0] rfl) hf
  · replace hf := k_ifN hf c9
    refine lv_aload_n X.1 X.2.1 dX9_passSecond_12 rfl (lv_at hl 1 rfl) ?_
    obtain ⟨r13, hr13, hf⟩ := k_bdE hf
    refine k_backv X hS (k_runV (As := []) (rest := []) X hS hU (sW_0 hk) (by decide) rfl vl_X9_167 (c_X9_openWhatMay X.2.2.2.2.2.2.1 hk (k_uc_s _ _ _) hr13) rfl rfl rfl hl.1 ⟨Nat.le_of_ble_eq_true rfl, Nat.le_of_ble_eq_true rfl⟩ (Nat.le_of_ble_eq_true rfl) dX9_passSecond_13 ⟨Nat.zero_le _, Nat.zero_le _⟩) (fun H locs hU hS => ?_)
    rw [k_uc_uc] at hU
    exact J16 _ _ _ r13 r1 hU hS (lv_sub hl [1, 0] rfl) hf
def rm_X9_passUntil : Room := { frames := 4, cells := 0, slots := 0, locals := 113 }
set_option maxRecDepth 100000 in
set_option maxHeartbeats 4000000 in
theorem c_X9_passUntil {l : Launch} {D : va_G} {G : Nat → ClassId} {ad : Nat → Nat → Nat} {u : k_U} (hI : k_ok ad) {k : Nat} (hk : k_isW k) {w : k_M} (hw : u k = w) {a1 : Int32} {a2 : Int32} {sz : Nat} {r : (k_M × Int32)} (hf : f_X9_passUntil w a1 a2 = some r) : Met l yX9_passUntil (.code yX9_passUntil cX9_passUntil 4 (some .int) :: lw_g) rm_X9_passUntil (k_Pre D G ad u sz [.ref (ad k 0), .int a1, .int a2]) (k_Qi D G ad (k_uc u k r.1) r.2 sz) 0 0 (k_A ad sz) := by
  refine k_ofW (by decide +kernel) hI (Nat.le_of_ble_eq_true rfl) ?_
  intro p e s m args below meth c X hr hlk hU hS ls hl
  have hl : lv_has ls 4 [(0, .ref (ad k 0)), (1, .int a1), (2, .int a2)] := hl
  have hU : k_Uv D G ad (k_uc u k w) s.heap := by rw [← hw, k_uc_id]; exact hU
  have L2 : ∀ (n2 : Nat) (H : Heap) (locs : List Loc) (ls : Array Slot) (w : k_M) (a1 : Int32) (a2 : Int32) (a3 : Int32), k_Uv D G ad (k_uc u k w) H → va_S (k_A ad sz) s.heap H locs → lv_has ls 4 [(0, .ref (ad k 0)), (1, .int a1), (2, .int a2), (3, .int a3)] → f_X9_passUntil_2 n2 w a1 a2 a3 = some r → W p l e rm_X9_passUntil s m args below meth c H locs 0 0 (MQ below (k_Qi D G ad (k_uc u k r.1) r.2 sz) args s 0 0 (k_A ad sz)) (F0 m 2 ls []) := by
    intro n2
    induction n2 with
    | zero =>
      intro H locs ls w a1 a2 a3 hU hS hl hf
      cases (show none = some r from hf)
    | succ n2 ih2 =>
      intro H locs ls w a1 a2 a3 hU hS hl hf
      replace hf : f_X9_passUntil_2_b (f_X9_passUntil_2 n2) w a1 a2 a3 = some r := hf
      unfold f_X9_passUntil_2_b at hf
      refine lv_aload_n X.1 X.2.1 dX9_passUntil_2 rfl (lv_at hl 0 rfl) ?_
      refine k_getw (v := .int (w 0 0)) X hU (sW_0 hk) fl_X9_46 rfl dX9_passUntil_3 ?_
      refine lv_iload_n X.1 X.2.1 dX9_passUntil_6 rfl (lv_at hl 1 rfl) ?_
      refine lv_icmp_le (tgt := 25) X.1 X.2.1 dX9_passUntil_7 (by decide) (fun c7 => ?_) (fun c7 => ?_)
      · replace hf := k_ifP hf c7
        refine lv_iload_n X.1 X.2.1 dX9_passUntil_25 rfl (lv_at hl 3 rfl) ?_
        have hz := Option.some.inj hf
        subst hz
        exact k_iret (v := a3) X hU hS hr hlk rfl rfl dX9_passUntil_26
      · replace hf := k_ifN hf c7
        refine lv_iload_n X.1 X.2.1 dX9_passUntil_10 rfl (lv_at hl 3 rfl) ?_
        refine lv_iload_n X.1 X.2.1 dX9_passUntil_11 rfl (lv_at hl 2 rfl) ?_
        refine lv_icmp_ge (tgt := 25) X.1 X.2.1 dX9_passUntil_12 (by decide) (fun c12 => ?_) (fun c12 => ?_)
        · replace hf := k_ifP hf c12
          refine lv_iload_n X.1 X.2.1 dX9_passUntil_25 rfl (lv_at hl 3 rfl) ?_
          have hz := Option.some.inj hf
          subst hz
          exact k_iret (v := a3) X hU hS hr hlk rfl rfl dX9_passUntil_26
        · replace hf := k_ifN hf c12
          refine lv_aload_n X.1 X.2.1 dX9_passUntil_15 rfl (lv_at hl 0 rfl) ?_
          obtain ⟨r16, hr16, hf⟩ := k_bdE hf
          refine k_backv X hS (k_runV (As := []) (rest := []) X hS hU (sW_0 hk) (by decide) rfl vl_X9_161 (c_X9_passSecond X.2.2.2.2.2.2.1 hk (k_uc_s _ _ _) hr16) rfl rfl rfl hl.1 ⟨Nat.le_of_ble_eq_true rfl, Nat.le_of_ble_eq_true rfl⟩ (Nat.le_of_ble_eq_true rfl) dX9_passUntil_16 ⟨Nat.zero_le _, Nat.zero_le _⟩) (fun H locs hU hS => ?_)
          rw [k_uc_uc] at hU
          obtain ⟨x19, e19, hf⟩ := k_ltE hf
          refine lv_iinc (v := x19) (lv' := [(3, .int x19), (0, .ref (ad k 0)), (1, .int a1), (2, .int a2)]) X.1 X.2.1 dX9_passUntil_19 hl (k := 3) rfl (by rw [e19]; rfl) (by decide) rfl (fun ls hl => ?_)
          refine lv_goto (tgt := 2) X.1 X.2.1 dX9_passUntil_22 (by decide) ?_
          exact ih2 _ _ _ r16 a1 a2 x19 hU hS (lv_sub hl [1, 2, 3, 0] rfl) hf
  unfold f_X9_passUntil at hf
  refine lv_iconst (v := 0) X.1 X.2.1 dX9_passUntil_0 (by decide) ?_
  refine lv_istore_n (lv' := [(3, .int 0), (0, .ref (ad k 0)), (1, .int a1), (2, .int a2)]) X.1 X.2.1 dX9_passUntil_1 rfl hl (by decide) rfl (fun ls hl => ?_)
  exact L2 k_N _ _ _ w a1 a2 0 hU hS (lv_sub hl [1, 2, 3, 0] rfl) hf
def rm_X10_refuse : Room := { frames := 0, cells := 0, slots := 0, locals := 0 }
set_option maxRecDepth 100000 in
set_option maxHeartbeats 4000000 in
theorem c_X10_refuse {l : Launch} {D : va_G} {G : Nat → ClassId} {ad : Nat → Nat → Nat} {u : k_U} (hI : k_ok ad) {a1 : Int32} {sz : Nat} {r : (k_U × Int32)} (hf : f_X10_refuse u a1 = some r) : Met l yX10_refuse (.code yX10_refuse cX10_refuse 2 (some .int) :: lw_g) rm_X10_refuse (k_Pre D G ad u sz [.ref (ad 0 0), .int a1]) (k_Qi D G ad r.1 r.2 sz) 0 0 (k_A ad sz) := by
  refine k_ofW (by decide +kernel) hI (Nat.le_of_ble_eq_true rfl) ?_
  intro p e s m args below meth c X hr hlk hU hS ls hl
  have hl : lv_has ls 2 [(0, .ref (ad 0 0)), (1, .int a1)] := hl
  unfold f_X10_refuse at hf
  refine lv_aload_n X.1 X.2.1 dX10_refuse_0 rfl (lv_at hl 0 rfl) ?_
  refine k_get (v := .ref (ad 0 3)) X hU sh_0_0 fl_X10_55 rfl dX10_refuse_1 ?_
  refine lv_iload_n X.1 X.2.1 dX10_refuse_4 rfl (lv_at hl 1 rfl) ?_
  refine lv_dup2_11 X.1 X.2.1 dX10_refuse_5 rfl rfl ?_
  obtain ⟨hi6, hf⟩ := k_ckE hf
  refine k_ild (j0 := a1.toNatClampNeg) X hU sh_0_3 (k_vin (n := 10) hi6 (by decide)) rfl dX10_refuse_6 ?_
  refine lv_iconst (v := 1) X.1 X.2.1 dX10_refuse_7 (by decide) ?_
  refine lv_iadd X.1 X.2.1 dX10_refuse_8 ?_
  obtain ⟨hi9, hf⟩ := k_ckE hf
  obtain ⟨u9, e9, hf⟩ := k_ltE hf
  refine k_ist (j0 := a1.toNatClampNeg) X hU hS sh_0_3 rfl (k_vin (n := 10) hi9 (by decide)) rfl dX10_refuse_9 (fun H locs hU hS => ?_)
  rw [← e9] at hU
  refine lv_iload_n X.1 X.2.1 dX10_refuse_10 rfl (lv_at hl 1 rfl) ?_
  refine lv_ineg X.1 X.2.1 dX10_refuse_11 ?_
  have hz := Option.some.inj hf
  subst hz
  exact k_iret (v := (-a1)) X hU hS hr hlk rfl rfl dX10_refuse_12
def rm_X10_tick : Room := { frames := 5, cells := 0, slots := 0, locals := 136 }
set_option maxRecDepth 100000 in
set_option maxHeartbeats 4000000 in
theorem c_X10_tick {l : Launch} {D : va_G} {G : Nat → ClassId} {ad : Nat → Nat → Nat} {u : k_U} (hI : k_ok ad) {a1 : Int32} {sz : Nat} {r1 : k_U} {r2 : Int32} (hf : f_X10_tick u a1 = some (r1, Sum.inl r2)) : Met l yX10_tick (.code yX10_tick cX10_tick 2 (some .int) :: lw_g) rm_X10_tick (k_Pre D G ad u sz [.ref (ad 0 0), .int a1]) (k_Qi D G ad r1 r2 sz) 0 0 (k_A ad sz) := by
  refine k_ofW (by decide +kernel) hI (Nat.le_of_ble_eq_true rfl) ?_
  intro p e s m args below meth c X hr hlk hU hS ls hl
  have hl : lv_has ls 2 [(0, .ref (ad 0 0)), (1, .int a1)] := hl
  have J12 : ∀ (H : Heap) (locs : List Loc) (ls : Array Slot) (u : k_U), k_Uv D G ad u H → va_S (k_A ad sz) s.heap H locs → lv_has ls 2 [] → f_X10_tick_12 u a1 = some (r1, Sum.inl r2) → W p l e rm_X10_tick s m args below meth c H locs 0 0 (MQ below (k_Qi D G ad r1 r2 sz) args s 0 0 (k_A ad sz)) (F0 m 12 ls []) := by
    intro H locs ls u hU hS hl hf
    unfold f_X10_tick_12 at hf
    exact absurd hf k_ninl
  unfold f_X10_tick at hf
  refine lv_iload_n X.1 X.2.1 dX10_tick_0 rfl (lv_at hl 1 rfl) ?_
  refine lv_iconst (v := 1) X.1 X.2.1 dX10_tick_1 (by decide) ?_
  refine lv_icmp_lt (tgt := 12) X.1 X.2.1 dX10_tick_2 (by decide) (fun c2 => ?_) (fun c2 => ?_)
  · replace hf := k_ifP hf c2
    exact J12 _ _ _ u hU hS (lv_sub hl [] rfl) hf
  · replace hf := k_ifN hf c2
    refine lv_iload_n X.1 X.2.1 dX10_tick_5 rfl (lv_at hl 1 rfl) ?_
    refine lv_sipush (v := 200) X.1 X.2.1 dX10_tick_6 (by decide) ?_
    refine lv_icmp_le (tgt := 23) X.1 X.2.1 dX10_tick_9 (by decide) (fun c9 => ?_) (fun c9 => ?_)
    · replace hf := k_ifP hf c9
      refine lv_aload_n X.1 X.2.1 dX10_tick_23 rfl (lv_at hl 0 rfl) ?_
      refine k_get (v := .ref (ad 10 0)) X hU sh_0_0 fl_X10_33 rfl dX10_tick_24 ?_
      obtain ⟨r27, hr27, hf⟩ := k_bdE hf
      refine k_backi X hS (k_runV (As := []) (rest := []) X hS hU (sW_0 k_isW_10) (by decide) rfl vl_X10_350 (c_X9_hasLanded X.2.2.2.2.2.2.1 k_isW_10 rfl hr27) rfl rfl rfl hl.1 ⟨Nat.le_of_ble_eq_true rfl, Nat.le_of_ble_eq_true rfl⟩ (Nat.le_of_ble_eq_true rfl) dX10_tick_27 ⟨Nat.zero_le _, Nat.zero_le _⟩) (fun H locs hU hS => ?_)
      refine lv_if_eq (tgt := 39) X.1 X.2.1 dX10_tick_30 (by decide) (fun c30 => ?_) (fun c30 => ?_)
      · replace hf := k_ifP hf c30
        refine lv_aload_n X.1 X.2.1 dX10_tick_39 rfl (lv_at hl 0 rfl) ?_
        obtain ⟨r40, hr40, hf⟩ := k_bdE hf
        refine k_backv X hS (k_runV (As := []) (rest := []) X hS hU sh_0_0 (by decide) rfl vl_X10_384 (c_X10_beginAct X.2.2.2.2.2.2.1 hr40) rfl rfl rfl hl.1 ⟨Nat.le_of_ble_eq_true rfl, Nat.le_of_ble_eq_true rfl⟩ (Nat.le_of_ble_eq_true rfl) dX10_tick_40 ⟨Nat.zero_le _, Nat.zero_le _⟩) (fun H locs hU hS => ?_)
        refine lv_aload_n X.1 X.2.1 dX10_tick_43 rfl (lv_at hl 0 rfl) ?_
        refine k_get (v := .ref (ad 10 0)) X hU sh_0_0 fl_X10_33 rfl dX10_tick_44 ?_
        refine lv_iconst (v := 0) X.1 X.2.1 dX10_tick_47 (by decide) ?_
        refine lv_iload_n X.1 X.2.1 dX10_tick_48 rfl (lv_at hl 1 rfl) ?_
        obtain ⟨r49, hr49, hf⟩ := k_bdE hf
        refine k_backi X hS (k_runV (As := [.int 0, .int a1]) (rest := []) X hS hU (sW_0 k_isW_10) (by decide) rfl vl_X10_387 (c_X9_passUntil X.2.2.2.2.2.2.1 k_isW_10 rfl hr49) rfl rfl rfl hl.1 ⟨Nat.le_of_ble_eq_true rfl, Nat.le_of_ble_eq_true rfl⟩ (Nat.le_of_ble_eq_true rfl) dX10_tick_49 ⟨Nat.zero_le _, Nat.zero_le _⟩) (fun H locs hU hS => ?_)
        obtain ⟨u49, e49, hf⟩ := k_ltE hf
        rw [← e49] at hU
        obtain ⟨hz1, hz2⟩ := k_injl hf
        subst hz1
        subst hz2
        exact k_iret (v := r49.2) X hU hS hr hlk rfl rfl dX10_tick_52
      · replace hf := k_ifN hf c30
        refine lv_aload_n X.1 X.2.1 dX10_tick_33 rfl (lv_at hl 0 rfl) ?_
        refine lv_iconst (v := 1) X.1 X.2.1 dX10_tick_34 (by decide) ?_
        obtain ⟨r35, hr35, hf⟩ := k_bdE hf
        refine k_backi X hS (k_runV (As := [.int 1]) (rest := []) X hS hU sh_0_0 (by decide) rfl vl_X10_381 (c_X10_refuse X.2.2.2.2.2.2.1 hr35) rfl rfl rfl hl.1 ⟨Nat.le_of_ble_eq_true rfl, Nat.le_of_ble_eq_true rfl⟩ (Nat.le_of_ble_eq_true rfl) dX10_tick_35 ⟨Nat.zero_le _, Nat.zero_le _⟩) (fun H locs hU hS => ?_)
        obtain ⟨hz1, hz2⟩ := k_injl hf
        subst hz1
        subst hz2
        exact k_iret (v := r35.2) X hU hS hr hlk rfl rfl dX10_tick_38
    · replace hf := k_ifN hf c9
      exact J12 _ _ _ u hU hS (lv_sub hl [] rfl) hf
def rx_X10_tick : Room := { frames := 6, cells := 1, slots := 6, locals := 136 }
set_option maxRecDepth 100000 in
set_option maxHeartbeats 4000000 in
theorem x_X10_tick {l : Launch} {D : va_G} {G : Nat → ClassId} {ad : Nat → Nat → Nat} {u : k_U} (hI : k_ok ad) (hlT : l.stackTraces = false) {a1 : Int32} {sz : Nat} {r1 : k_U} {j : Nat} (hf : f_X10_tick u a1 = some (r1, Sum.inr j)) : vx_Met l yX10_tick (.code yX10_tick cX10_tick 2 (some .int) :: lw_g) rx_X10_tick (k_Pre D G ad u sz [.ref (ad 0 0), .int a1]) (k_Qn ad sz) (k_XC D G ad r1 j sz) 1 6 (k_A ad sz) := by
  refine k_xofW (by decide +kernel) hI (Nat.le_of_ble_eq_true rfl) ?_
  intro p e s m args below meth c X hr hlk hex hU hS ls hl
  have hl : lv_has ls 2 [(0, .ref (ad 0 0)), (1, .int a1)] := hl
  have J12 : ∀ (H : Heap) (locs : List Loc) (ls : Array Slot) (u : k_U), k_Uv D G ad u H → va_S (k_A ad sz) s.heap H locs → lv_has ls 2 [] → f_X10_tick_12 u a1 = some (r1, Sum.inr j) → W p l e rx_X10_tick s m args below meth c H locs 0 0 (vx_MQ below (k_Qn ad sz) (k_XC D G ad r1 j sz) args s 1 6 (k_A ad sz)) (F0 m 12 ls []) := by
    intro H locs ls u hU hS hl hf
    unfold f_X10_tick_12 at hf
    obtain ⟨hz1, hz2⟩ := k_injr hf
    subst hz1
    subst hz2
    exact k_thrSW X hlT hU hS (i := 47) rfl xw_180 (by decide +kernel) rfl hl.1 dX10_tick_12 dX10_tick_15 dX10_tick_16 dX10_tick_19 dX10_tick_22 hex (Nat.le_of_ble_eq_true rfl) (Nat.le_of_ble_eq_true rfl) ⟨Nat.le_of_ble_eq_true rfl, Nat.le_of_ble_eq_true rfl⟩ hlk ⟨Nat.le_of_ble_eq_true rfl, Nat.le_of_ble_eq_true rfl⟩
  unfold f_X10_tick at hf
  refine lv_iload_n X.1 X.2.1 dX10_tick_0 rfl (lv_at hl 1 rfl) ?_
  refine lv_iconst (v := 1) X.1 X.2.1 dX10_tick_1 (by decide) ?_
  refine lv_icmp_lt (tgt := 12) X.1 X.2.1 dX10_tick_2 (by decide) (fun c2 => ?_) (fun c2 => ?_)
  · replace hf := k_ifP hf c2
    exact J12 _ _ _ u hU hS (lv_sub hl [] rfl) hf
  · replace hf := k_ifN hf c2
    refine lv_iload_n X.1 X.2.1 dX10_tick_5 rfl (lv_at hl 1 rfl) ?_
    refine lv_sipush (v := 200) X.1 X.2.1 dX10_tick_6 (by decide) ?_
    refine lv_icmp_le (tgt := 23) X.1 X.2.1 dX10_tick_9 (by decide) (fun c9 => ?_) (fun c9 => ?_)
    · replace hf := k_ifP hf c9
      refine lv_aload_n X.1 X.2.1 dX10_tick_23 rfl (lv_at hl 0 rfl) ?_
      refine k_get (v := .ref (ad 10 0)) X hU sh_0_0 fl_X10_33 rfl dX10_tick_24 ?_
      obtain ⟨r27, hr27, hf⟩ := k_bdE hf
      refine k_backi X hS (k_runV (As := []) (rest := []) X hS hU (sW_0 k_isW_10) (by decide) rfl vl_X10_350 (c_X9_hasLanded X.2.2.2.2.2.2.1 k_isW_10 rfl hr27) rfl rfl rfl hl.1 ⟨Nat.le_of_ble_eq_true rfl, Nat.le_of_ble_eq_true rfl⟩ (Nat.le_of_ble_eq_true rfl) dX10_tick_27 ⟨Nat.zero_le _, Nat.zero_le _⟩) (fun H locs hU hS => ?_)
      refine lv_if_eq (tgt := 39) X.1 X.2.1 dX10_tick_30 (by decide) (fun c30 => ?_) (fun c30 => ?_)
      · replace hf := k_ifP hf c30
        refine lv_aload_n X.1 X.2.1 dX10_tick_39 rfl (lv_at hl 0 rfl) ?_
        obtain ⟨r40, hr40, hf⟩ := k_bdE hf
        refine k_backv X hS (k_runV (As := []) (rest := []) X hS hU sh_0_0 (by decide) rfl vl_X10_384 (c_X10_beginAct X.2.2.2.2.2.2.1 hr40) rfl rfl rfl hl.1 ⟨Nat.le_of_ble_eq_true rfl, Nat.le_of_ble_eq_true rfl⟩ (Nat.le_of_ble_eq_true rfl) dX10_tick_40 ⟨Nat.zero_le _, Nat.zero_le _⟩) (fun H locs hU hS => ?_)
        refine lv_aload_n X.1 X.2.1 dX10_tick_43 rfl (lv_at hl 0 rfl) ?_
        refine k_get (v := .ref (ad 10 0)) X hU sh_0_0 fl_X10_33 rfl dX10_tick_44 ?_
        refine lv_iconst (v := 0) X.1 X.2.1 dX10_tick_47 (by decide) ?_
        refine lv_iload_n X.1 X.2.1 dX10_tick_48 rfl (lv_at hl 1 rfl) ?_
        obtain ⟨r49, hr49, hf⟩ := k_bdE hf
        refine k_backi X hS (k_runV (As := [.int 0, .int a1]) (rest := []) X hS hU (sW_0 k_isW_10) (by decide) rfl vl_X10_387 (c_X9_passUntil X.2.2.2.2.2.2.1 k_isW_10 rfl hr49) rfl rfl rfl hl.1 ⟨Nat.le_of_ble_eq_true rfl, Nat.le_of_ble_eq_true rfl⟩ (Nat.le_of_ble_eq_true rfl) dX10_tick_49 ⟨Nat.zero_le _, Nat.zero_le _⟩) (fun H locs hU hS => ?_)
        obtain ⟨u49, e49, hf⟩ := k_ltE hf
        rw [← e49] at hU
        exact absurd hf k_ninr
      · replace hf := k_ifN hf c30
        refine lv_aload_n X.1 X.2.1 dX10_tick_33 rfl (lv_at hl 0 rfl) ?_
        refine lv_iconst (v := 1) X.1 X.2.1 dX10_tick_34 (by decide) ?_
        obtain ⟨r35, hr35, hf⟩ := k_bdE hf
        refine k_backi X hS (k_runV (As := [.int 1]) (rest := []) X hS hU sh_0_0 (by decide) rfl vl_X10_381 (c_X10_refuse X.2.2.2.2.2.2.1 hr35) rfl rfl rfl hl.1 ⟨Nat.le_of_ble_eq_true rfl, Nat.le_of_ble_eq_true rfl⟩ (Nat.le_of_ble_eq_true rfl) dX10_tick_35 ⟨Nat.zero_le _, Nat.zero_le _⟩) (fun H locs hU hS => ?_)
        exact absurd hf k_ninr
    · replace hf := k_ifN hf c9
      exact J12 _ _ _ u hU hS (lv_sub hl [] rfl) hf
def rm_X10_fallTo : Room := { frames := 5, cells := 0, slots := 0, locals := 136 }
set_option maxRecDepth 100000 in
set_option maxHeartbeats 4000000 in
theorem c_X10_fallTo {l : Launch} {D : va_G} {G : Nat → ClassId} {ad : Nat → Nat → Nat} {u : k_U} (hI : k_ok ad) {a1 : Int32} {sz : Nat} {r1 : k_U} {r2 : Int32} (hf : f_X10_fallTo u a1 = some (r1, Sum.inl r2)) : Met l yX10_fallTo (.code yX10_fallTo cX10_fallTo 2 (some .int) :: lw_g) rm_X10_fallTo (k_Pre D G ad u sz [.ref (ad 0 0), .int a1]) (k_Qi D G ad r1 r2 sz) 0 0 (k_A ad sz) := by
  refine k_ofW (by decide +kernel) hI (Nat.le_of_ble_eq_true rfl) ?_
  intro p e s m args below meth c X hr hlk hU hS ls hl
  have hl : lv_has ls 2 [(0, .ref (ad 0 0)), (1, .int a1)] := hl
  have J11 : ∀ (H : Heap) (locs : List Loc) (ls : Array Slot) (u : k_U), k_Uv D G ad u H → va_S (k_A ad sz) s.heap H locs → lv_has ls 2 [] → f_X10_fallTo_11 u a1 = some (r1, Sum.inl r2) → W p l e rm_X10_fallTo s m args below meth c H locs 0 0 (MQ below (k_Qi D G ad r1 r2 sz) args s 0 0 (k_A ad sz)) (F0 m 11 ls []) := by
    intro H locs ls u hU hS hl hf
    unfold f_X10_fallTo_11 at hf
    exact absurd hf k_ninl
  unfold f_X10_fallTo at hf
  refine lv_iload_n X.1 X.2.1 dX10_fallTo_0 rfl (lv_at hl 1 rfl) ?_
  refine lv_if_lt (tgt := 11) X.1 X.2.1 dX10_fallTo_1 (by decide) (fun c1 => ?_) (fun c1 => ?_)
  · replace hf := k_ifP hf c1
    exact J11 _ _ _ u hU hS (lv_sub hl [] rfl) hf
  · replace hf := k_ifN hf c1
    refine lv_iload_n X.1 X.2.1 dX10_fallTo_4 rfl (lv_at hl 1 rfl) ?_
    refine lv_sipush (v := 30000) X.1 X.2.1 dX10_fallTo_5 (by decide) ?_
    refine lv_icmp_le (tgt := 22) X.1 X.2.1 dX10_fallTo_8 (by decide) (fun c8 => ?_) (fun c8 => ?_)
    · replace hf := k_ifP hf c8
      refine lv_aload_n X.1 X.2.1 dX10_fallTo_22 rfl (lv_at hl 0 rfl) ?_
      refine k_get (v := .ref (ad 10 0)) X hU sh_0_0 fl_X10_33 rfl dX10_fallTo_23 ?_
      obtain ⟨r26, hr26, hf⟩ := k_bdE hf
      refine k_backi X hS (k_runV (As := []) (rest := []) X hS hU (sW_0 k_isW_10) (by decide) rfl vl_X10_350 (c_X9_hasLanded X.2.2.2.2.2.2.1 k_isW_10 rfl hr26) rfl rfl rfl hl.1 ⟨Nat.le_of_ble_eq_true rfl, Nat.le_of_ble_eq_true rfl⟩ (Nat.le_of_ble_eq_true rfl) dX10_fallTo_26 ⟨Nat.zero_le _, Nat.zero_le _⟩) (fun H locs hU hS => ?_)
      refine lv_if_eq (tgt := 38) X.1 X.2.1 dX10_fallTo_29 (by decide) (fun c29 => ?_) (fun c29 => ?_)
      · replace hf := k_ifP hf c29
        refine lv_aload_n X.1 X.2.1 dX10_fallTo_38 rfl (lv_at hl 0 rfl) ?_
        refine k_get (v := .ref (ad 10 0)) X hU sh_0_0 fl_X10_33 rfl dX10_fallTo_39 ?_
        refine k_get (v := .int (u 10 0 0)) X hU (sW_0 k_isW_10) fl_X10_153 rfl dX10_fallTo_42 ?_
        refine lv_iload_n X.1 X.2.1 dX10_fallTo_45 rfl (lv_at hl 1 rfl) ?_
        refine lv_icmp_gt (tgt := 55) X.1 X.2.1 dX10_fallTo_46 (by decide) (fun c46 => ?_) (fun c46 => ?_)
        · replace hf := k_ifP hf c46
          refine lv_aload_n X.1 X.2.1 dX10_fallTo_55 rfl (lv_at hl 0 rfl) ?_
          obtain ⟨r56, hr56, hf⟩ := k_bdE hf
          refine k_backv X hS (k_runV (As := []) (rest := []) X hS hU sh_0_0 (by decide) rfl vl_X10_384 (c_X10_beginAct X.2.2.2.2.2.2.1 hr56) rfl rfl rfl hl.1 ⟨Nat.le_of_ble_eq_true rfl, Nat.le_of_ble_eq_true rfl⟩ (Nat.le_of_ble_eq_true rfl) dX10_fallTo_56 ⟨Nat.zero_le _, Nat.zero_le _⟩) (fun H locs hU hS => ?_)
          refine lv_aload_n X.1 X.2.1 dX10_fallTo_59 rfl (lv_at hl 0 rfl) ?_
          refine k_get (v := .ref (ad 10 0)) X hU sh_0_0 fl_X10_33 rfl dX10_fallTo_60 ?_
          refine lv_iload_n X.1 X.2.1 dX10_fallTo_63 rfl (lv_at hl 1 rfl) ?_
          refine lv_sipush (v := 3000) X.1 X.2.1 dX10_fallTo_64 (by decide) ?_
          obtain ⟨r67, hr67, hf⟩ := k_bdE hf
          refine k_backi X hS (k_runV (As := [.int a1, .int 3000]) (rest := []) X hS hU (sW_0 k_isW_10) (by decide) rfl vl_X10_387 (c_X9_passUntil X.2.2.2.2.2.2.1 k_isW_10 rfl hr67) rfl rfl rfl hl.1 ⟨Nat.le_of_ble_eq_true rfl, Nat.le_of_ble_eq_true rfl⟩ (Nat.le_of_ble_eq_true rfl) dX10_fallTo_67 ⟨Nat.zero_le _, Nat.zero_le _⟩) (fun H locs hU hS => ?_)
          obtain ⟨u67, e67, hf⟩ := k_ltE hf
          rw [← e67] at hU
          obtain ⟨hz1, hz2⟩ := k_injl hf
          subst hz1
          subst hz2
          exact k_iret (v := r67.2) X hU hS hr hlk rfl rfl dX10_fallTo_70
        · replace hf := k_ifN hf c46
          refine lv_aload_n X.1 X.2.1 dX10_fallTo_49 rfl (lv_at hl 0 rfl) ?_
          refine lv_iconst (v := 2) X.1 X.2.1 dX10_fallTo_50 (by decide) ?_
          obtain ⟨r51, hr51, hf⟩ := k_bdE hf
          refine k_backi X hS (k_runV (As := [.int 2]) (rest := []) X hS hU sh_0_0 (by decide) rfl vl_X10_381 (c_X10_refuse X.2.2.2.2.2.2.1 hr51) rfl rfl rfl hl.1 ⟨Nat.le_of_ble_eq_true rfl, Nat.le_of_ble_eq_true rfl⟩ (Nat.le_of_ble_eq_true rfl) dX10_fallTo_51 ⟨Nat.zero_le _, Nat.zero_le _⟩) (fun H locs hU hS => ?_)
          obtain ⟨hz1, hz2⟩ := k_injl hf
          subst hz1
          subst hz2
          exact k_iret (v := r51.2) X hU hS hr hlk rfl rfl dX10_fallTo_54
      · replace hf := k_ifN hf c29
        refine lv_aload_n X.1 X.2.1 dX10_fallTo_32 rfl (lv_at hl 0 rfl) ?_
        refine lv_iconst (v := 1) X.1 X.2.1 dX10_fallTo_33 (by decide) ?_
        obtain ⟨r34, hr34, hf⟩ := k_bdE hf
        refine k_backi X hS (k_runV (As := [.int 1]) (rest := []) X hS hU sh_0_0 (by decide) rfl vl_X10_381 (c_X10_refuse X.2.2.2.2.2.2.1 hr34) rfl rfl rfl hl.1 ⟨Nat.le_of_ble_eq_true rfl, Nat.le_of_ble_eq_true rfl⟩ (Nat.le_of_ble_eq_true rfl) dX10_fallTo_34 ⟨Nat.zero_le _, Nat.zero_le _⟩) (fun H locs hU hS => ?_)
        obtain ⟨hz1, hz2⟩ := k_injl hf
        subst hz1
        subst hz2
        exact k_iret (v := r34.2) X hU hS hr hlk rfl rfl dX10_fallTo_37
    · replace hf := k_ifN hf c8
      exact J11 _ _ _ u hU hS (lv_sub hl [] rfl) hf
def rx_X10_fallTo : Room := { frames := 6, cells := 1, slots := 6, locals := 136 }
set_option maxRecDepth 100000 in
set_option maxHeartbeats 4000000 in
theorem x_X10_fallTo {l : Launch} {D : va_G} {G : Nat → ClassId} {ad : Nat → Nat → Nat} {u : k_U} (hI : k_ok ad) (hlT : l.stackTraces = false) {a1 : Int32} {sz : Nat} {r1 : k_U} {j : Nat} (hf : f_X10_fallTo u a1 = some (r1, Sum.inr j)) : vx_Met l yX10_fallTo (.code yX10_fallTo cX10_fallTo 2 (some .int) :: lw_g) rx_X10_fallTo (k_Pre D G ad u sz [.ref (ad 0 0), .int a1]) (k_Qn ad sz) (k_XC D G ad r1 j sz) 1 6 (k_A ad sz) := by
  refine k_xofW (by decide +kernel) hI (Nat.le_of_ble_eq_true rfl) ?_
  intro p e s m args below meth c X hr hlk hex hU hS ls hl
  have hl : lv_has ls 2 [(0, .ref (ad 0 0)), (1, .int a1)] := hl
  have J11 : ∀ (H : Heap) (locs : List Loc) (ls : Array Slot) (u : k_U), k_Uv D G ad u H → va_S (k_A ad sz) s.heap H locs → lv_has ls 2 [] → f_X10_fallTo_11 u a1 = some (r1, Sum.inr j) → W p l e rx_X10_fallTo s m args below meth c H locs 0 0 (vx_MQ below (k_Qn ad sz) (k_XC D G ad r1 j sz) args s 1 6 (k_A ad sz)) (F0 m 11 ls []) := by
    intro H locs ls u hU hS hl hf
    unfold f_X10_fallTo_11 at hf
    obtain ⟨hz1, hz2⟩ := k_injr hf
    subst hz1
    subst hz2
    exact k_thrSW X hlT hU hS (i := 39) rfl xw_180 (by decide +kernel) rfl hl.1 dX10_fallTo_11 dX10_fallTo_14 dX10_fallTo_15 dX10_fallTo_18 dX10_fallTo_21 hex (Nat.le_of_ble_eq_true rfl) (Nat.le_of_ble_eq_true rfl) ⟨Nat.le_of_ble_eq_true rfl, Nat.le_of_ble_eq_true rfl⟩ hlk ⟨Nat.le_of_ble_eq_true rfl, Nat.le_of_ble_eq_true rfl⟩
  unfold f_X10_fallTo at hf
  refine lv_iload_n X.1 X.2.1 dX10_fallTo_0 rfl (lv_at hl 1 rfl) ?_
  refine lv_if_lt (tgt := 11) X.1 X.2.1 dX10_fallTo_1 (by decide) (fun c1 => ?_) (fun c1 => ?_)
  · replace hf := k_ifP hf c1
    exact J11 _ _ _ u hU hS (lv_sub hl [] rfl) hf
  · replace hf := k_ifN hf c1
    refine lv_iload_n X.1 X.2.1 dX10_fallTo_4 rfl (lv_at hl 1 rfl) ?_
    refine lv_sipush (v := 30000) X.1 X.2.1 dX10_fallTo_5 (by decide) ?_
    refine lv_icmp_le (tgt := 22) X.1 X.2.1 dX10_fallTo_8 (by decide) (fun c8 => ?_) (fun c8 => ?_)
    · replace hf := k_ifP hf c8
      refine lv_aload_n X.1 X.2.1 dX10_fallTo_22 rfl (lv_at hl 0 rfl) ?_
      refine k_get (v := .ref (ad 10 0)) X hU sh_0_0 fl_X10_33 rfl dX10_fallTo_23 ?_
      obtain ⟨r26, hr26, hf⟩ := k_bdE hf
      refine k_backi X hS (k_runV (As := []) (rest := []) X hS hU (sW_0 k_isW_10) (by decide) rfl vl_X10_350 (c_X9_hasLanded X.2.2.2.2.2.2.1 k_isW_10 rfl hr26) rfl rfl rfl hl.1 ⟨Nat.le_of_ble_eq_true rfl, Nat.le_of_ble_eq_true rfl⟩ (Nat.le_of_ble_eq_true rfl) dX10_fallTo_26 ⟨Nat.zero_le _, Nat.zero_le _⟩) (fun H locs hU hS => ?_)
      refine lv_if_eq (tgt := 38) X.1 X.2.1 dX10_fallTo_29 (by decide) (fun c29 => ?_) (fun c29 => ?_)
      · replace hf := k_ifP hf c29
        refine lv_aload_n X.1 X.2.1 dX10_fallTo_38 rfl (lv_at hl 0 rfl) ?_
        refine k_get (v := .ref (ad 10 0)) X hU sh_0_0 fl_X10_33 rfl dX10_fallTo_39 ?_
        refine k_get (v := .int (u 10 0 0)) X hU (sW_0 k_isW_10) fl_X10_153 rfl dX10_fallTo_42 ?_
        refine lv_iload_n X.1 X.2.1 dX10_fallTo_45 rfl (lv_at hl 1 rfl) ?_
        refine lv_icmp_gt (tgt := 55) X.1 X.2.1 dX10_fallTo_46 (by decide) (fun c46 => ?_) (fun c46 => ?_)
        · replace hf := k_ifP hf c46
          refine lv_aload_n X.1 X.2.1 dX10_fallTo_55 rfl (lv_at hl 0 rfl) ?_
          obtain ⟨r56, hr56, hf⟩ := k_bdE hf
          refine k_backv X hS (k_runV (As := []) (rest := []) X hS hU sh_0_0 (by decide) rfl vl_X10_384 (c_X10_beginAct X.2.2.2.2.2.2.1 hr56) rfl rfl rfl hl.1 ⟨Nat.le_of_ble_eq_true rfl, Nat.le_of_ble_eq_true rfl⟩ (Nat.le_of_ble_eq_true rfl) dX10_fallTo_56 ⟨Nat.zero_le _, Nat.zero_le _⟩) (fun H locs hU hS => ?_)
          refine lv_aload_n X.1 X.2.1 dX10_fallTo_59 rfl (lv_at hl 0 rfl) ?_
          refine k_get (v := .ref (ad 10 0)) X hU sh_0_0 fl_X10_33 rfl dX10_fallTo_60 ?_
          refine lv_iload_n X.1 X.2.1 dX10_fallTo_63 rfl (lv_at hl 1 rfl) ?_
          refine lv_sipush (v := 3000) X.1 X.2.1 dX10_fallTo_64 (by decide) ?_
          obtain ⟨r67, hr67, hf⟩ := k_bdE hf
          refine k_backi X hS (k_runV (As := [.int a1, .int 3000]) (rest := []) X hS hU (sW_0 k_isW_10) (by decide) rfl vl_X10_387 (c_X9_passUntil X.2.2.2.2.2.2.1 k_isW_10 rfl hr67) rfl rfl rfl hl.1 ⟨Nat.le_of_ble_eq_true rfl, Nat.le_of_ble_eq_true rfl⟩ (Nat.le_of_ble_eq_true rfl) dX10_fallTo_67 ⟨Nat.zero_le _, Nat.zero_le _⟩) (fun H locs hU hS => ?_)
          obtain ⟨u67, e67, hf⟩ := k_ltE hf
          rw [← e67] at hU
          exact absurd hf k_ninr
        · replace hf := k_ifN hf c46
          refine lv_aload_n X.1 X.2.1 dX10_fallTo_49 rfl (lv_at hl 0 rfl) ?_
          refine lv_iconst (v := 2) X.1 X.2.1 dX10_fallTo_50 (by decide) ?_
          obtain ⟨r51, hr51, hf⟩ := k_bdE hf
          refine k_backi X hS (k_runV (As := [.int 2]) (rest := []) X hS hU sh_0_0 (by decide) rfl vl_X10_381 (c_X10_refuse X.2.2.2.2.2.2.1 hr51) rfl rfl rfl hl.1 ⟨Nat.le_of_ble_eq_true rfl, Nat.le_of_ble_eq_true rfl⟩ (Nat.le_of_ble_eq_true rfl) dX10_fallTo_51 ⟨Nat.zero_le _, Nat.zero_le _⟩) (fun H locs hU hS => ?_)
          exact absurd hf k_ninr
      · replace hf := k_ifN hf c29
        refine lv_aload_n X.1 X.2.1 dX10_fallTo_32 rfl (lv_at hl 0 rfl) ?_
        refine lv_iconst (v := 1) X.1 X.2.1 dX10_fallTo_33 (by decide) ?_
        obtain ⟨r34, hr34, hf⟩ := k_bdE hf
        refine k_backi X hS (k_runV (As := [.int 1]) (rest := []) X hS hU sh_0_0 (by decide) rfl vl_X10_381 (c_X10_refuse X.2.2.2.2.2.2.1 hr34) rfl rfl rfl hl.1 ⟨Nat.le_of_ble_eq_true rfl, Nat.le_of_ble_eq_true rfl⟩ (Nat.le_of_ble_eq_true rfl) dX10_fallTo_34 ⟨Nat.zero_le _, Nat.zero_le _⟩) (fun H locs hU hS => ?_)
        exact absurd hf k_ninr
    · replace hf := k_ifN hf c8
      exact J11 _ _ _ u hU hS (lv_sub hl [] rfl) hf
def rm_X10_open : Room := { frames := 5, cells := 0, slots := 0, locals := 108 }
set_option maxRecDepth 100000 in
set_option maxHeartbeats 4000000 in
theorem c_X10_open {l : Launch} {D : va_G} {G : Nat → ClassId} {ad : Nat → Nat → Nat} {u : k_U} (hI : k_ok ad) {a1 : Int32} {sz : Nat} {r1 : k_U} {r2 : Int32} (hf : f_X10_open u a1 = some (r1, Sum.inl r2)) : Met l yX10_open (.code yX10_open cX10_open 3 (some .int) :: lw_g) rm_X10_open (k_Pre D G ad u sz [.ref (ad 0 0), .int a1]) (k_Qi D G ad r1 r2 sz) 0 0 (k_A ad sz) := by
  refine k_ofW (by decide +kernel) hI (Nat.le_of_ble_eq_true rfl) ?_
  intro p e s m args below meth c X hr hlk hU hS ls hl
  have hl : lv_has ls 3 [(0, .ref (ad 0 0)), (1, .int a1)] := hl
  unfold f_X10_open at hf
  refine lv_aload_n X.1 X.2.1 dX10_open_0 rfl (lv_at hl 0 rfl) ?_
  refine k_get (v := .ref (ad 10 0)) X hU sh_0_0 fl_X10_33 rfl dX10_open_1 ?_
  refine lv_iload_n X.1 X.2.1 dX10_open_4 rfl (lv_at hl 1 rfl) ?_
  obtain ⟨r5, hr5, hf⟩ := k_bdE hf
  refine k_backi X hS (k_runV (As := [.int a1]) (rest := []) X hS hU (sW_0 k_isW_10) (by decide) rfl vl_X10_324 (c_X9_hasLayer X.2.2.2.2.2.2.1 k_isW_10 rfl hr5) rfl rfl rfl hl.1 ⟨Nat.le_of_ble_eq_true rfl, Nat.le_of_ble_eq_true rfl⟩ (Nat.le_of_ble_eq_true rfl) dX10_open_5 ⟨Nat.zero_le _, Nat.zero_le _⟩) (fun H locs hU hS => ?_)
  refine lv_if_ne (tgt := 22) X.1 X.2.1 dX10_open_8 (by decide) (fun c8 => ?_) (fun c8 => ?_)
  · replace hf := k_ifN hf c8
    refine lv_aload_n X.1 X.2.1 dX10_open_22 rfl (lv_at hl 0 rfl) ?_
    refine k_get (v := .ref (ad 10 0)) X hU sh_0_0 fl_X10_33 rfl dX10_open_23 ?_
    obtain ⟨r26, hr26, hf⟩ := k_bdE hf
    refine k_backi X hS (k_runV (As := []) (rest := []) X hS hU (sW_0 k_isW_10) (by decide) rfl vl_X10_350 (c_X9_hasLanded X.2.2.2.2.2.2.1 k_isW_10 rfl hr26) rfl rfl rfl hl.1 ⟨Nat.le_of_ble_eq_true rfl, Nat.le_of_ble_eq_true rfl⟩ (Nat.le_of_ble_eq_true rfl) dX10_open_26 ⟨Nat.zero_le _, Nat.zero_le _⟩) (fun H locs hU hS => ?_)
    refine lv_if_eq (tgt := 38) X.1 X.2.1 dX10_open_29 (by decide) (fun c29 => ?_) (fun c29 => ?_)
    · replace hf := k_ifP hf c29
      refine lv_aload_n X.1 X.2.1 dX10_open_38 rfl (lv_at hl 0 rfl) ?_
      refine k_get (v := .ref (ad 10 0)) X hU sh_0_0 fl_X10_33 rfl dX10_open_39 ?_
      refine lv_iload_n X.1 X.2.1 dX10_open_42 rfl (lv_at hl 1 rfl) ?_
      obtain ⟨r43, hr43, hf⟩ := k_bdE hf
      refine k_backr X hS (k_runV (As := [.int a1]) (rest := []) X hS hU (sW_0 k_isW_10) (by decide) rfl vl_X10_243 (c_X9_chuteAt X.2.2.2.2.2.2.1 k_isW_10 rfl hr43) rfl rfl rfl hl.1 ⟨Nat.le_of_ble_eq_true rfl, Nat.le_of_ble_eq_true rfl⟩ (Nat.le_of_ble_eq_true rfl) dX10_open_43 ⟨Nat.zero_le _, Nat.zero_le _⟩) (fun H locs hU hS => ?_)
      obtain ⟨hi43, hf⟩ := k_ckE hf
      refine lv_astore_n (lv' := [(2, .ref (ad 10 r43)), (0, .ref (ad 0 0)), (1, .int a1)]) X.1 X.2.1 dX10_open_46 rfl hl (by decide) rfl (fun ls hl => ?_)
      refine lv_aload_n X.1 X.2.1 dX10_open_47 rfl (lv_at hl 0 rfl) ?_
      refine k_get (v := .int (u 10 r43 5)) X hU (k_sC k_isW_10 hi43) fl_X10_264 rfl dX10_open_48 ?_
      refine lv_if_eq (tgt := 60) X.1 X.2.1 dX10_open_51 (by decide) (fun c51 => ?_) (fun c51 => ?_)
      · replace hf := k_ifP hf c51
        refine lv_aload_n X.1 X.2.1 dX10_open_60 rfl (lv_at hl 1 rfl) ?_
        refine k_get (v := .ref (ad 10 0)) X hU sh_0_0 fl_X10_33 rfl dX10_open_61 ?_
        refine k_get (v := .int (u 10 0 0)) X hU (sW_0 k_isW_10) fl_X10_153 rfl dX10_open_64 ?_
        refine lv_aload_n X.1 X.2.1 dX10_open_67 rfl (lv_at hl 0 rfl) ?_
        refine k_get (v := .int (u 10 r43 3)) X hU (k_sC k_isW_10 hi43) fl_X10_258 rfl dX10_open_68 ?_
        refine lv_icmp_le (tgt := 80) X.1 X.2.1 dX10_open_71 (by decide) (fun c71 => ?_) (fun c71 => ?_)
        · replace hf := k_ifP hf c71
          refine lv_aload_n X.1 X.2.1 dX10_open_80 rfl (lv_at hl 1 rfl) ?_
          refine k_get (v := .ref (ad 10 0)) X hU sh_0_0 fl_X10_33 rfl dX10_open_81 ?_
          refine k_get (v := .int (u 10 0 1)) X hU (sW_0 k_isW_10) fl_X10_156 rfl dX10_open_84 ?_
          refine lv_aload_n X.1 X.2.1 dX10_open_87 rfl (lv_at hl 0 rfl) ?_
          refine k_get (v := .int (u 10 r43 4)) X hU (k_sC k_isW_10 hi43) fl_X10_261 rfl dX10_open_88 ?_
          refine lv_icmp_le (tgt := 100) X.1 X.2.1 dX10_open_91 (by decide) (fun c91 => ?_) (fun c91 => ?_)
          · replace hf := k_ifP hf c91
            refine lv_aload_n X.1 X.2.1 dX10_open_100 rfl (lv_at hl 1 rfl) ?_
            obtain ⟨r101, hr101, hf⟩ := k_bdE hf
            refine k_backv X hS (k_runV (As := []) (rest := []) X hS hU sh_0_0 (by decide) rfl vl_X10_384 (c_X10_beginAct X.2.2.2.2.2.2.1 hr101) rfl rfl rfl hl.1 ⟨Nat.le_of_ble_eq_true rfl, Nat.le_of_ble_eq_true rfl⟩ (Nat.le_of_ble_eq_true rfl) dX10_open_101 ⟨Nat.zero_le _, Nat.zero_le _⟩) (fun H locs hU hS => ?_)
            refine lv_aload_n X.1 X.2.1 dX10_open_104 rfl (lv_at hl 1 rfl) ?_
            refine k_get (v := .ref (ad 10 0)) X hU sh_0_0 fl_X10_33 rfl dX10_open_105 ?_
            refine lv_iload_n X.1 X.2.1 dX10_open_108 rfl (lv_at hl 2 rfl) ?_
            obtain ⟨r109, hr109, hf⟩ := k_bdE hf
            refine k_backv X hS (k_runV (As := [.int a1]) (rest := []) X hS hU (sW_0 k_isW_10) (by decide) rfl vl_X10_390 (c_X9_openLayer X.2.2.2.2.2.2.1 k_isW_10 rfl hr109) rfl rfl rfl hl.1 ⟨Nat.le_of_ble_eq_true rfl, Nat.le_of_ble_eq_true rfl⟩ (Nat.le_of_ble_eq_true rfl) dX10_open_109 ⟨Nat.zero_le _, Nat.zero_le _⟩) (fun H locs hU hS => ?_)
            obtain ⟨u109, e109, hf⟩ := k_ltE hf
            rw [← e109] at hU
            refine lv_aload_n X.1 X.2.1 dX10_open_112 rfl (lv_at hl 0 rfl) ?_
            refine k_get (v := .int (u109 10 r43 5)) X hU (k_sC k_isW_10 hi43) fl_X10_264 rfl dX10_open_113 ?_
            obtain ⟨hz1, hz2⟩ := k_injl hf
            subst hz1
            subst hz2
            exact k_iret (v := u109 10 r43 5) X hU hS hr hlk rfl rfl dX10_open_116
          · replace hf := k_ifN hf c91
            refine lv_aload_n X.1 X.2.1 dX10_open_94 rfl (lv_at hl 1 rfl) ?_
            refine lv_iconst (v := 5) X.1 X.2.1 dX10_open_95 (by decide) ?_
            obtain ⟨r96, hr96, hf⟩ := k_bdE hf
            refine k_backi X hS (k_runV (As := [.int 5]) (rest := []) X hS hU sh_0_0 (by decide) rfl vl_X10_381 (c_X10_refuse X.2.2.2.2.2.2.1 hr96) rfl rfl rfl hl.1 ⟨Nat.le_of_ble_eq_true rfl, Nat.le_of_ble_eq_true rfl⟩ (Nat.le_of_ble_eq_true rfl) dX10_open_96 ⟨Nat.zero_le _, Nat.zero_le _⟩) (fun H locs hU hS => ?_)
            obtain ⟨hz1, hz2⟩ := k_injl hf
            subst hz1
            subst hz2
            exact k_iret (v := r96.2) X hU hS hr hlk rfl rfl dX10_open_99
        · replace hf := k_ifN hf c71
          refine lv_aload_n X.1 X.2.1 dX10_open_74 rfl (lv_at hl 1 rfl) ?_
          refine lv_iconst (v := 4) X.1 X.2.1 dX10_open_75 (by decide) ?_
          obtain ⟨r76, hr76, hf⟩ := k_bdE hf
          refine k_backi X hS (k_runV (As := [.int 4]) (rest := []) X hS hU sh_0_0 (by decide) rfl vl_X10_381 (c_X10_refuse X.2.2.2.2.2.2.1 hr76) rfl rfl rfl hl.1 ⟨Nat.le_of_ble_eq_true rfl, Nat.le_of_ble_eq_true rfl⟩ (Nat.le_of_ble_eq_true rfl) dX10_open_76 ⟨Nat.zero_le _, Nat.zero_le _⟩) (fun H locs hU hS => ?_)
          obtain ⟨hz1, hz2⟩ := k_injl hf
          subst hz1
          subst hz2
          exact k_iret (v := r76.2) X hU hS hr hlk rfl rfl dX10_open_79
      · replace hf := k_ifN hf c51
        refine lv_aload_n X.1 X.2.1 dX10_open_54 rfl (lv_at hl 1 rfl) ?_
        refine lv_iconst (v := 3) X.1 X.2.1 dX10_open_55 (by decide) ?_
        obtain ⟨r56, hr56, hf⟩ := k_bdE hf
        refine k_backi X hS (k_runV (As := [.int 3]) (rest := []) X hS hU sh_0_0 (by decide) rfl vl_X10_381 (c_X10_refuse X.2.2.2.2.2.2.1 hr56) rfl rfl rfl hl.1 ⟨Nat.le_of_ble_eq_true rfl, Nat.le_of_ble_eq_true rfl⟩ (Nat.le_of_ble_eq_true rfl) dX10_open_56 ⟨Nat.zero_le _, Nat.zero_le _⟩) (fun H locs hU hS => ?_)
        obtain ⟨hz1, hz2⟩ := k_injl hf
        subst hz1
        subst hz2
        exact k_iret (v := r56.2) X hU hS hr hlk rfl rfl dX10_open_59
    · replace hf := k_ifN hf c29
      refine lv_aload_n X.1 X.2.1 dX10_open_32 rfl (lv_at hl 0 rfl) ?_
      refine lv_iconst (v := 1) X.1 X.2.1 dX10_open_33 (by decide) ?_
      obtain ⟨r34, hr34, hf⟩ := k_bdE hf
      refine k_backi X hS (k_runV (As := [.int 1]) (rest := []) X hS hU sh_0_0 (by decide) rfl vl_X10_381 (c_X10_refuse X.2.2.2.2.2.2.1 hr34) rfl rfl rfl hl.1 ⟨Nat.le_of_ble_eq_true rfl, Nat.le_of_ble_eq_true rfl⟩ (Nat.le_of_ble_eq_true rfl) dX10_open_34 ⟨Nat.zero_le _, Nat.zero_le _⟩) (fun H locs hU hS => ?_)
      obtain ⟨hz1, hz2⟩ := k_injl hf
      subst hz1
      subst hz2
      exact k_iret (v := r34.2) X hU hS hr hlk rfl rfl dX10_open_37
  · replace hf := k_ifP hf c8
    exact absurd hf k_ninl
def rx_X10_open : Room := { frames := 6, cells := 1, slots := 6, locals := 108 }
set_option maxRecDepth 100000 in
set_option maxHeartbeats 4000000 in
theorem x_X10_open {l : Launch} {D : va_G} {G : Nat → ClassId} {ad : Nat → Nat → Nat} {u : k_U} (hI : k_ok ad) (hlT : l.stackTraces = false) {a1 : Int32} {sz : Nat} {r1 : k_U} {j : Nat} (hf : f_X10_open u a1 = some (r1, Sum.inr j)) : vx_Met l yX10_open (.code yX10_open cX10_open 3 (some .int) :: lw_g) rx_X10_open (k_Pre D G ad u sz [.ref (ad 0 0), .int a1]) (k_Qn ad sz) (k_XC D G ad r1 j sz) 1 6 (k_A ad sz) := by
  refine k_xofW (by decide +kernel) hI (Nat.le_of_ble_eq_true rfl) ?_
  intro p e s m args below meth c X hr hlk hex hU hS ls hl
  have hl : lv_has ls 3 [(0, .ref (ad 0 0)), (1, .int a1)] := hl
  unfold f_X10_open at hf
  refine lv_aload_n X.1 X.2.1 dX10_open_0 rfl (lv_at hl 0 rfl) ?_
  refine k_get (v := .ref (ad 10 0)) X hU sh_0_0 fl_X10_33 rfl dX10_open_1 ?_
  refine lv_iload_n X.1 X.2.1 dX10_open_4 rfl (lv_at hl 1 rfl) ?_
  obtain ⟨r5, hr5, hf⟩ := k_bdE hf
  refine k_backi X hS (k_runV (As := [.int a1]) (rest := []) X hS hU (sW_0 k_isW_10) (by decide) rfl vl_X10_324 (c_X9_hasLayer X.2.2.2.2.2.2.1 k_isW_10 rfl hr5) rfl rfl rfl hl.1 ⟨Nat.le_of_ble_eq_true rfl, Nat.le_of_ble_eq_true rfl⟩ (Nat.le_of_ble_eq_true rfl) dX10_open_5 ⟨Nat.zero_le _, Nat.zero_le _⟩) (fun H locs hU hS => ?_)
  refine lv_if_ne (tgt := 22) X.1 X.2.1 dX10_open_8 (by decide) (fun c8 => ?_) (fun c8 => ?_)
  · replace hf := k_ifN hf c8
    refine lv_aload_n X.1 X.2.1 dX10_open_22 rfl (lv_at hl 0 rfl) ?_
    refine k_get (v := .ref (ad 10 0)) X hU sh_0_0 fl_X10_33 rfl dX10_open_23 ?_
    obtain ⟨r26, hr26, hf⟩ := k_bdE hf
    refine k_backi X hS (k_runV (As := []) (rest := []) X hS hU (sW_0 k_isW_10) (by decide) rfl vl_X10_350 (c_X9_hasLanded X.2.2.2.2.2.2.1 k_isW_10 rfl hr26) rfl rfl rfl hl.1 ⟨Nat.le_of_ble_eq_true rfl, Nat.le_of_ble_eq_true rfl⟩ (Nat.le_of_ble_eq_true rfl) dX10_open_26 ⟨Nat.zero_le _, Nat.zero_le _⟩) (fun H locs hU hS => ?_)
    refine lv_if_eq (tgt := 38) X.1 X.2.1 dX10_open_29 (by decide) (fun c29 => ?_) (fun c29 => ?_)
    · replace hf := k_ifP hf c29
      refine lv_aload_n X.1 X.2.1 dX10_open_38 rfl (lv_at hl 0 rfl) ?_
      refine k_get (v := .ref (ad 10 0)) X hU sh_0_0 fl_X10_33 rfl dX10_open_39 ?_
      refine lv_iload_n X.1 X.2.1 dX10_open_42 rfl (lv_at hl 1 rfl) ?_
      obtain ⟨r43, hr43, hf⟩ := k_bdE hf
      refine k_backr X hS (k_runV (As := [.int a1]) (rest := []) X hS hU (sW_0 k_isW_10) (by decide) rfl vl_X10_243 (c_X9_chuteAt X.2.2.2.2.2.2.1 k_isW_10 rfl hr43) rfl rfl rfl hl.1 ⟨Nat.le_of_ble_eq_true rfl, Nat.le_of_ble_eq_true rfl⟩ (Nat.le_of_ble_eq_true rfl) dX10_open_43 ⟨Nat.zero_le _, Nat.zero_le _⟩) (fun H locs hU hS => ?_)
      obtain ⟨hi43, hf⟩ := k_ckE hf
      refine lv_astore_n (lv' := [(2, .ref (ad 10 r43)), (0, .ref (ad 0 0)), (1, .int a1)]) X.1 X.2.1 dX10_open_46 rfl hl (by decide) rfl (fun ls hl => ?_)
      refine lv_aload_n X.1 X.2.1 dX10_open_47 rfl (lv_at hl 0 rfl) ?_
      refine k_get (v := .int (u 10 r43 5)) X hU (k_sC k_isW_10 hi43) fl_X10_264 rfl dX10_open_48 ?_
      refine lv_if_eq (tgt := 60) X.1 X.2.1 dX10_open_51 (by decide) (fun c51 => ?_) (fun c51 => ?_)
      · replace hf := k_ifP hf c51
        refine lv_aload_n X.1 X.2.1 dX10_open_60 rfl (lv_at hl 1 rfl) ?_
        refine k_get (v := .ref (ad 10 0)) X hU sh_0_0 fl_X10_33 rfl dX10_open_61 ?_
        refine k_get (v := .int (u 10 0 0)) X hU (sW_0 k_isW_10) fl_X10_153 rfl dX10_open_64 ?_
        refine lv_aload_n X.1 X.2.1 dX10_open_67 rfl (lv_at hl 0 rfl) ?_
        refine k_get (v := .int (u 10 r43 3)) X hU (k_sC k_isW_10 hi43) fl_X10_258 rfl dX10_open_68 ?_
        refine lv_icmp_le (tgt := 80) X.1 X.2.1 dX10_open_71 (by decide) (fun c71 => ?_) (fun c71 => ?_)
        · replace hf := k_ifP hf c71
          refine lv_aload_n X.1 X.2.1 dX10_open_80 rfl (lv_at hl 1 rfl) ?_
          refine k_get (v := .ref (ad 10 0)) X hU sh_0_0 fl_X10_33 rfl dX10_open_81 ?_
          refine k_get (v := .int (u 10 0 1)) X hU (sW_0 k_isW_10) fl_X10_156 rfl dX10_open_84 ?_
          refine lv_aload_n X.1 X.2.1 dX10_open_87 rfl (lv_at hl 0 rfl) ?_
          refine k_get (v := .int (u 10 r43 4)) X hU (k_sC k_isW_10 hi43) fl_X10_261 rfl dX10_open_88 ?_
          refine lv_icmp_le (tgt := 100) X.1 X.2.1 dX10_open_91 (by decide) (fun c91 => ?_) (fun c91 => ?_)
          · replace hf := k_ifP hf c91
            refine lv_aload_n X.1 X.2.1 dX10_open_100 rfl (lv_at hl 1 rfl) ?_
            obtain ⟨r101, hr101, hf⟩ := k_bdE hf
            refine k_backv X hS (k_runV (As := []) (rest := []) X hS hU sh_0_0 (by decide) rfl vl_X10_384 (c_X10_beginAct X.2.2.2.2.2.2.1 hr101) rfl rfl rfl hl.1 ⟨Nat.le_of_ble_eq_true rfl, Nat.le_of_ble_eq_true rfl⟩ (Nat.le_of_ble_eq_true rfl) dX10_open_101 ⟨Nat.zero_le _, Nat.zero_le _⟩) (fun H locs hU hS => ?_)
            refine lv_aload_n X.1 X.2.1 dX10_open_104 rfl (lv_at hl 1 rfl) ?_
            refine k_get (v := .ref (ad 10 0)) X hU sh_0_0 fl_X10_33 rfl dX10_open_105 ?_
            refine lv_iload_n X.1 X.2.1 dX10_open_108 rfl (lv_at hl 2 rfl) ?_
            obtain ⟨r109, hr109, hf⟩ := k_bdE hf
            refine k_backv X hS (k_runV (As := [.int a1]) (rest := []) X hS hU (sW_0 k_isW_10) (by decide) rfl vl_X10_390 (c_X9_openLayer X.2.2.2.2.2.2.1 k_isW_10 rfl hr109) rfl rfl rfl hl.1 ⟨Nat.le_of_ble_eq_true rfl, Nat.le_of_ble_eq_true rfl⟩ (Nat.le_of_ble_eq_true rfl) dX10_open_109 ⟨Nat.zero_le _, Nat.zero_le _⟩) (fun H locs hU hS => ?_)
            obtain ⟨u109, e109, hf⟩ := k_ltE hf
            rw [← e109] at hU
            refine lv_aload_n X.1 X.2.1 dX10_open_112 rfl (lv_at hl 0 rfl) ?_
            refine k_get (v := .int (u109 10 r43 5)) X hU (k_sC k_isW_10 hi43) fl_X10_264 rfl dX10_open_113 ?_
            exact absurd hf k_ninr
          · replace hf := k_ifN hf c91
            refine lv_aload_n X.1 X.2.1 dX10_open_94 rfl (lv_at hl 1 rfl) ?_
            refine lv_iconst (v := 5) X.1 X.2.1 dX10_open_95 (by decide) ?_
            obtain ⟨r96, hr96, hf⟩ := k_bdE hf
            refine k_backi X hS (k_runV (As := [.int 5]) (rest := []) X hS hU sh_0_0 (by decide) rfl vl_X10_381 (c_X10_refuse X.2.2.2.2.2.2.1 hr96) rfl rfl rfl hl.1 ⟨Nat.le_of_ble_eq_true rfl, Nat.le_of_ble_eq_true rfl⟩ (Nat.le_of_ble_eq_true rfl) dX10_open_96 ⟨Nat.zero_le _, Nat.zero_le _⟩) (fun H locs hU hS => ?_)
            exact absurd hf k_ninr
        · replace hf := k_ifN hf c71
          refine lv_aload_n X.1 X.2.1 dX10_open_74 rfl (lv_at hl 1 rfl) ?_
          refine lv_iconst (v := 4) X.1 X.2.1 dX10_open_75 (by decide) ?_
          obtain ⟨r76, hr76, hf⟩ := k_bdE hf
          refine k_backi X hS (k_runV (As := [.int 4]) (rest := []) X hS hU sh_0_0 (by decide) rfl vl_X10_381 (c_X10_refuse X.2.2.2.2.2.2.1 hr76) rfl rfl rfl hl.1 ⟨Nat.le_of_ble_eq_true rfl, Nat.le_of_ble_eq_true rfl⟩ (Nat.le_of_ble_eq_true rfl) dX10_open_76 ⟨Nat.zero_le _, Nat.zero_le _⟩) (fun H locs hU hS => ?_)
          exact absurd hf k_ninr
      · replace hf := k_ifN hf c51
        refine lv_aload_n X.1 X.2.1 dX10_open_54 rfl (lv_at hl 1 rfl) ?_
        refine lv_iconst (v := 3) X.1 X.2.1 dX10_open_55 (by decide) ?_
        obtain ⟨r56, hr56, hf⟩ := k_bdE hf
        refine k_backi X hS (k_runV (As := [.int 3]) (rest := []) X hS hU sh_0_0 (by decide) rfl vl_X10_381 (c_X10_refuse X.2.2.2.2.2.2.1 hr56) rfl rfl rfl hl.1 ⟨Nat.le_of_ble_eq_true rfl, Nat.le_of_ble_eq_true rfl⟩ (Nat.le_of_ble_eq_true rfl) dX10_open_56 ⟨Nat.zero_le _, Nat.zero_le _⟩) (fun H locs hU hS => ?_)
        exact absurd hf k_ninr
    · replace hf := k_ifN hf c29
      refine lv_aload_n X.1 X.2.1 dX10_open_32 rfl (lv_at hl 0 rfl) ?_
      refine lv_iconst (v := 1) X.1 X.2.1 dX10_open_33 (by decide) ?_
      obtain ⟨r34, hr34, hf⟩ := k_bdE hf
      refine k_backi X hS (k_runV (As := [.int 1]) (rest := []) X hS hU sh_0_0 (by decide) rfl vl_X10_381 (c_X10_refuse X.2.2.2.2.2.2.1 hr34) rfl rfl rfl hl.1 ⟨Nat.le_of_ble_eq_true rfl, Nat.le_of_ble_eq_true rfl⟩ (Nat.le_of_ble_eq_true rfl) dX10_open_34 ⟨Nat.zero_le _, Nat.zero_le _⟩) (fun H locs hU hS => ?_)
      exact absurd hf k_ninr
  · replace hf := k_ifP hf c8
    obtain ⟨hz1, hz2⟩ := k_injr hf
    subst hz1
    subst hz2
    exact k_thrSW X hlT hU hS (i := 45) rfl xw_238 (by decide +kernel) rfl hl.1 dX10_open_11 dX10_open_14 dX10_open_15 dX10_open_18 dX10_open_21 hex (Nat.le_of_ble_eq_true rfl) (Nat.le_of_ble_eq_true rfl) ⟨Nat.le_of_ble_eq_true rfl, Nat.le_of_ble_eq_true rfl⟩ hlk ⟨Nat.le_of_ble_eq_true rfl, Nat.le_of_ble_eq_true rfl⟩
def rm_X10_openReserve : Room := { frames := 5, cells := 0, slots := 0, locals := 108 }
set_option maxRecDepth 100000 in
set_option maxHeartbeats 4000000 in
theorem c_X10_openReserve {l : Launch} {D : va_G} {G : Nat → ClassId} {ad : Nat → Nat → Nat} {u : k_U} (hI : k_ok ad) {sz : Nat} {r : (k_U × Int32)} (hf : f_X10_openReserve u = some r) : Met l yX10_openReserve (.code yX10_openReserve cX10_openReserve 2 (some .int) :: lw_g) rm_X10_openReserve (k_Pre D G ad u sz [.ref (ad 0 0)]) (k_Qi D G ad r.1 r.2 sz) 0 0 (k_A ad sz) := by
  refine k_ofW (by decide +kernel) hI (Nat.le_of_ble_eq_true rfl) ?_
  intro p e s m args below meth c X hr hlk hU hS ls hl
  have hl : lv_has ls 2 [(0, .ref (ad 0 0))] := hl
  have J39 : ∀ (H : Heap) (locs : List Loc) (ls : Array Slot) (u : k_U), k_Uv D G ad u H → va_S (k_A ad sz) s.heap H locs → lv_has ls 2 [(0, .ref (ad 0 0))] → f_X10_openReserve_39 u = some r → W p l e rm_X10_openReserve s m args below meth c H locs 0 0 (MQ below (k_Qi D G ad r.1 r.2 sz) args s 0 0 (k_A ad sz)) (F0 m 39 ls []) := by
    intro H locs ls u hU hS hl hf
    unfold f_X10_openReserve_39 at hf
    refine lv_aload_n X.1 X.2.1 dX10_openReserve_39 rfl (lv_at hl 0 rfl) ?_
    refine lv_iconst (v := 3) X.1 X.2.1 dX10_openReserve_40 (by decide) ?_
    obtain ⟨r41, hr41, hf⟩ := k_bdE hf
    refine k_backi X hS (k_runV (As := [.int 3]) (rest := []) X hS hU sh_0_0 (by decide) rfl vl_X10_381 (c_X10_refuse X.2.2.2.2.2.2.1 hr41) rfl rfl rfl hl.1 ⟨Nat.le_of_ble_eq_true rfl, Nat.le_of_ble_eq_true rfl⟩ (Nat.le_of_ble_eq_true rfl) dX10_openReserve_41 ⟨Nat.zero_le _, Nat.zero_le _⟩) (fun H locs hU hS => ?_)
    have hz := Option.some.inj hf
    subst hz
    exact k_iret (v := r41.2) X hU hS hr hlk rfl rfl dX10_openReserve_44
  unfold f_X10_openReserve at hf
  refine lv_aload_n X.1 X.2.1 dX10_openReserve_0 rfl (lv_at hl 0 rfl) ?_
  refine k_get (v := .ref (ad 10 0)) X hU sh_0_0 fl_X10_33 rfl dX10_openReserve_1 ?_
  obtain ⟨r4, hr4, hf⟩ := k_bdE hf
  refine k_backi X hS (k_runV (As := []) (rest := []) X hS hU (sW_0 k_isW_10) (by decide) rfl vl_X10_350 (c_X9_hasLanded X.2.2.2.2.2.2.1 k_isW_10 rfl hr4) rfl rfl rfl hl.1 ⟨Nat.le_of_ble_eq_true rfl, Nat.le_of_ble_eq_true rfl⟩ (Nat.le_of_ble_eq_true rfl) dX10_openReserve_4 ⟨Nat.zero_le _, Nat.zero_le _⟩) (fun H locs hU hS => ?_)
  refine lv_if_eq (tgt := 16) X.1 X.2.1 dX10_openReserve_7 (by decide) (fun c7 => ?_) (fun c7 => ?_)
  · replace hf := k_ifP hf c7
    refine lv_aload_n X.1 X.2.1 dX10_openReserve_16 rfl (lv_at hl 0 rfl) ?_
    refine k_get (v := .ref (ad 10 0)) X hU sh_0_0 fl_X10_33 rfl dX10_openReserve_17 ?_
    refine k_get (v := .int (u 10 0 11)) X hU (sW_0 k_isW_10) fl_X10_187 rfl dX10_openReserve_20 ?_
    refine lv_if_eq (tgt := 39) X.1 X.2.1 dX10_openReserve_23 (by decide) (fun c23 => ?_) (fun c23 => ?_)
    · replace hf := k_ifP hf c23
      exact J39 _ _ _ u hU hS (lv_sub hl [0] rfl) hf
    · replace hf := k_ifN hf c23
      refine lv_aload_n X.1 X.2.1 dX10_openReserve_26 rfl (lv_at hl 0 rfl) ?_
      refine k_get (v := .ref (ad 10 0)) X hU sh_0_0 fl_X10_33 rfl dX10_openReserve_27 ?_
      refine k_get (v := .ref (ad 10 2)) X hU (sW_0 k_isW_10) fl_X10_361 rfl dX10_openReserve_30 ?_
      refine k_get (v := .int (u 10 2 5)) X hU (k_sC k_isW_10 k_isC_2) fl_X10_264 rfl dX10_openReserve_33 ?_
      refine lv_if_eq (tgt := 45) X.1 X.2.1 dX10_openReserve_36 (by decide) (fun c36 => ?_) (fun c36 => ?_)
      · replace hf := k_ifP hf c36
        refine lv_aload_n X.1 X.2.1 dX10_openReserve_45 rfl (lv_at hl 0 rfl) ?_
        refine k_get (v := .ref (ad 10 0)) X hU sh_0_0 fl_X10_33 rfl dX10_openReserve_46 ?_
        refine k_get (v := .int (u 10 0 0)) X hU (sW_0 k_isW_10) fl_X10_153 rfl dX10_openReserve_49 ?_
        refine lv_aload_n X.1 X.2.1 dX10_openReserve_52 rfl (lv_at hl 0 rfl) ?_
        refine k_get (v := .ref (ad 10 0)) X hU sh_0_0 fl_X10_33 rfl dX10_openReserve_53 ?_
        refine k_get (v := .ref (ad 10 2)) X hU (sW_0 k_isW_10) fl_X10_361 rfl dX10_openReserve_56 ?_
        refine k_get (v := .int (u 10 2 3)) X hU (k_sC k_isW_10 k_isC_2) fl_X10_258 rfl dX10_openReserve_59 ?_
        refine lv_icmp_le (tgt := 71) X.1 X.2.1 dX10_openReserve_62 (by decide) (fun c62 => ?_) (fun c62 => ?_)
        · replace hf := k_ifP hf c62
          refine lv_aload_n X.1 X.2.1 dX10_openReserve_71 rfl (lv_at hl 0 rfl) ?_
          refine k_get (v := .ref (ad 10 0)) X hU sh_0_0 fl_X10_33 rfl dX10_openReserve_72 ?_
          obtain ⟨r75, hr75, hf⟩ := k_bdE hf
          refine k_backi X hS (k_runV (As := []) (rest := []) X hS hU (sW_0 k_isW_10) (by decide) rfl vl_X10_214 (c_X9_failedLayers X.2.2.2.2.2.2.1 k_isW_10 rfl hr75) rfl rfl rfl hl.1 ⟨Nat.le_of_ble_eq_true rfl, Nat.le_of_ble_eq_true rfl⟩ (Nat.le_of_ble_eq_true rfl) dX10_openReserve_75 ⟨Nat.zero_le _, Nat.zero_le _⟩) (fun H locs hU hS => ?_)
          refine lv_istore_n (lv' := [(1, .int r75), (0, .ref (ad 0 0))]) X.1 X.2.1 dX10_openReserve_78 rfl hl (by decide) rfl (fun ls hl => ?_)
          refine lv_iload_n X.1 X.2.1 dX10_openReserve_79 rfl (lv_at hl 0 rfl) ?_
          refine lv_aload_n X.1 X.2.1 dX10_openReserve_80 rfl (lv_at hl 1 rfl) ?_
          refine k_get (v := .ref (ad 10 0)) X hU sh_0_0 fl_X10_33 rfl dX10_openReserve_81 ?_
          refine k_get (v := .ref (ad 10 2)) X hU (sW_0 k_isW_10) fl_X10_361 rfl dX10_openReserve_84 ?_
          refine k_get (v := .int (u 10 2 4)) X hU (k_sC k_isW_10 k_isC_2) fl_X10_261 rfl dX10_openReserve_87 ?_
          refine lv_icmp_ge (tgt := 100) X.1 X.2.1 dX10_openReserve_90 (by decide) (fun c90 => ?_) (fun c90 => ?_)
          · replace hf := k_ifP hf c90
            refine lv_aload_n X.1 X.2.1 dX10_openReserve_100 rfl (lv_at hl 1 rfl) ?_
            refine k_get (v := .ref (ad 10 0)) X hU sh_0_0 fl_X10_33 rfl dX10_openReserve_101 ?_
            obtain ⟨r104, hr104, hf⟩ := k_bdE hf
            refine k_backi X hS (k_runV (As := []) (rest := []) X hS hU (sW_0 k_isW_10) (by decide) rfl vl_X10_393 (c_X9_firstLayerThatMayOpen X.2.2.2.2.2.2.1 k_isW_10 rfl hr104) rfl rfl rfl hl.1 ⟨Nat.le_of_ble_eq_true rfl, Nat.le_of_ble_eq_true rfl⟩ (Nat.le_of_ble_eq_true rfl) dX10_openReserve_104 ⟨Nat.zero_le _, Nat.zero_le _⟩) (fun H locs hU hS => ?_)
            refine lv_iconst (v := (-1)) X.1 X.2.1 dX10_openReserve_107 (by decide) ?_
            refine lv_icmp_eq (tgt := 118) X.1 X.2.1 dX10_openReserve_108 (by decide) (fun c108 => ?_) (fun c108 => ?_)
            · replace hf := k_ifP hf c108
              refine lv_aload_n X.1 X.2.1 dX10_openReserve_118 rfl (lv_at hl 1 rfl) ?_
              obtain ⟨r119, hr119, hf⟩ := k_bdE hf
              refine k_backv X hS (k_runV (As := []) (rest := []) X hS hU sh_0_0 (by decide) rfl vl_X10_384 (c_X10_beginAct X.2.2.2.2.2.2.1 hr119) rfl rfl rfl hl.1 ⟨Nat.le_of_ble_eq_true rfl, Nat.le_of_ble_eq_true rfl⟩ (Nat.le_of_ble_eq_true rfl) dX10_openReserve_119 ⟨Nat.zero_le _, Nat.zero_le _⟩) (fun H locs hU hS => ?_)
              refine lv_aload_n X.1 X.2.1 dX10_openReserve_122 rfl (lv_at hl 1 rfl) ?_
              refine k_get (v := .ref (ad 10 0)) X hU sh_0_0 fl_X10_33 rfl dX10_openReserve_123 ?_
              refine lv_iload_n X.1 X.2.1 dX10_openReserve_126 rfl (lv_at hl 0 rfl) ?_
              obtain ⟨r127, hr127, hf⟩ := k_bdE hf
              refine k_backv X hS (k_runV (As := [.int r75]) (rest := []) X hS hU (sW_0 k_isW_10) (by decide) rfl vl_X10_396 (c_X9_openTheReserve X.2.2.2.2.2.2.1 k_isW_10 rfl hr127) rfl rfl rfl hl.1 ⟨Nat.le_of_ble_eq_true rfl, Nat.le_of_ble_eq_true rfl⟩ (Nat.le_of_ble_eq_true rfl) dX10_openReserve_127 ⟨Nat.zero_le _, Nat.zero_le _⟩) (fun H locs hU hS => ?_)
              obtain ⟨u127, e127, hf⟩ := k_ltE hf
              rw [← e127] at hU
              refine lv_iload_n X.1 X.2.1 dX10_openReserve_130 rfl (lv_at hl 0 rfl) ?_
              have hz := Option.some.inj hf
              subst hz
              exact k_iret (v := r75) X hU hS hr hlk rfl rfl dX10_openReserve_131
            · replace hf := k_ifN hf c108
              refine lv_aload_n X.1 X.2.1 dX10_openReserve_111 rfl (lv_at hl 1 rfl) ?_
              refine lv_bipush (v := 7) X.1 X.2.1 dX10_openReserve_112 (by decide) ?_
              obtain ⟨r114, hr114, hf⟩ := k_bdE hf
              refine k_backi X hS (k_runV (As := [.int 7]) (rest := []) X hS hU sh_0_0 (by decide) rfl vl_X10_381 (c_X10_refuse X.2.2.2.2.2.2.1 hr114) rfl rfl rfl hl.1 ⟨Nat.le_of_ble_eq_true rfl, Nat.le_of_ble_eq_true rfl⟩ (Nat.le_of_ble_eq_true rfl) dX10_openReserve_114 ⟨Nat.zero_le _, Nat.zero_le _⟩) (fun H locs hU hS => ?_)
              have hz := Option.some.inj hf
              subst hz
              exact k_iret (v := r114.2) X hU hS hr hlk rfl rfl dX10_openReserve_117
          · replace hf := k_ifN hf c90
            refine lv_aload_n X.1 X.2.1 dX10_openReserve_93 rfl (lv_at hl 1 rfl) ?_
            refine lv_bipush (v := 6) X.1 X.2.1 dX10_openReserve_94 (by decide) ?_
            obtain ⟨r96, hr96, hf⟩ := k_bdE hf
            refine k_backi X hS (k_runV (As := [.int 6]) (rest := []) X hS hU sh_0_0 (by decide) rfl vl_X10_381 (c_X10_refuse X.2.2.2.2.2.2.1 hr96) rfl rfl rfl hl.1 ⟨Nat.le_of_ble_eq_true rfl, Nat.le_of_ble_eq_true rfl⟩ (Nat.le_of_ble_eq_true rfl) dX10_openReserve_96 ⟨Nat.zero_le _, Nat.zero_le _⟩) (fun H locs hU hS => ?_)
            have hz := Option.some.inj hf
            subst hz
            exact k_iret (v := r96.2) X hU hS hr hlk rfl rfl dX10_openReserve_99
        · replace hf := k_ifN hf c62
          refine lv_aload_n X.1 X.2.1 dX10_openReserve_65 rfl (lv_at hl 0 rfl) ?_
          refine lv_iconst (v := 4) X.1 X.2.1 dX10_openReserve_66 (by decide) ?_
          obtain ⟨r67, hr67, hf⟩ := k_bdE hf
          refine k_backi X hS (k_runV (As := [.int 4]) (rest := []) X hS hU sh_0_0 (by decide) rfl vl_X10_381 (c_X10_refuse X.2.2.2.2.2.2.1 hr67) rfl rfl rfl hl.1 ⟨Nat.le_of_ble_eq_true rfl, Nat.le_of_ble_eq_true rfl⟩ (Nat.le_of_ble_eq_true rfl) dX10_openReserve_67 ⟨Nat.zero_le _, Nat.zero_le _⟩) (fun H locs hU hS => ?_)
          have hz := Option.some.inj hf
          subst hz
          exact k_iret (v := r67.2) X hU hS hr hlk rfl rfl dX10_openReserve_70
      · replace hf := k_ifN hf c36
        exact J39 _ _ _ u hU hS (lv_sub hl [0] rfl) hf
  · replace hf := k_ifN hf c7
    refine lv_aload_n X.1 X.2.1 dX10_openReserve_10 rfl (lv_at hl 0 rfl) ?_
    refine lv_iconst (v := 1) X.1 X.2.1 dX10_openReserve_11 (by decide) ?_
    obtain ⟨r12, hr12, hf⟩ := k_bdE hf
    refine k_backi X hS (k_runV (As := [.int 1]) (rest := []) X hS hU sh_0_0 (by decide) rfl vl_X10_381 (c_X10_refuse X.2.2.2.2.2.2.1 hr12) rfl rfl rfl hl.1 ⟨Nat.le_of_ble_eq_true rfl, Nat.le_of_ble_eq_true rfl⟩ (Nat.le_of_ble_eq_true rfl) dX10_openReserve_12 ⟨Nat.zero_le _, Nat.zero_le _⟩) (fun H locs hU hS => ?_)
    have hz := Option.some.inj hf
    subst hz
    exact k_iret (v := r12.2) X hU hS hr hlk rfl rfl dX10_openReserve_15
def rm_X9_hasChute : Room := { frames := 1, cells := 0, slots := 0, locals := 20 }
set_option maxRecDepth 100000 in
set_option maxHeartbeats 4000000 in
theorem c_X9_hasChute {l : Launch} {D : va_G} {G : Nat → ClassId} {ad : Nat → Nat → Nat} {u : k_U} (hI : k_ok ad) {k : Nat} (hk : k_isW k) {w : k_M} (hw : u k = w) {a1 : Int32} {sz : Nat} {r : Int32} (hf : f_X9_hasChute w a1 = some r) : Met l yX9_hasChute (.code yX9_hasChute cX9_hasChute 2 (some .boolean) :: lw_g) rm_X9_hasChute (k_Pre D G ad u sz [.ref (ad k 0), .int a1]) (k_Qi D G ad u r sz) 0 0 (k_A ad sz) := by
  refine k_ofW (by decide +kernel) hI (Nat.le_of_ble_eq_true rfl) ?_
  intro p e s m args below meth c X hr hlk hU hS ls hl
  have hl : lv_has ls 2 [(0, .ref (ad k 0)), (1, .int a1)] := hl
  have hU : k_Uv D G ad (k_uc u k w) s.heap := by rw [← hw, k_uc_id]; exact hU
  unfold f_X9_hasChute at hf
  refine lv_iload_n X.1 X.2.1 dX9_hasChute_0 rfl (lv_at hl 1 rfl) ?_
  refine lv_if_lt (tgt := 16) X.1 X.2.1 dX9_hasChute_1 (by decide) (fun c1 => ?_) (fun c1 => ?_)
  · replace hf := k_ifP hf c1
    refine lv_iconst (v := 0) X.1 X.2.1 dX9_hasChute_16 (by decide) ?_
    rw [← hw, k_uc_id] at hU
    have hz := Option.some.inj hf
    subst hz
    exact k_iret (v := 0) X hU hS hr hlk rfl rfl dX9_hasChute_17
  · replace hf := k_ifN hf c1
    refine lv_iload_n X.1 X.2.1 dX9_hasChute_4 rfl (lv_at hl 1 rfl) ?_
    refine lv_aload_n X.1 X.2.1 dX9_hasChute_5 rfl (lv_at hl 0 rfl) ?_
    obtain ⟨r6, hr6, hf⟩ := k_bdE hf
    refine k_backi X hS (k_runV (As := []) (rest := [.int a1]) X hS hU (sW_0 hk) (by decide) rfl vl_X9_104 (c_X9_chuteCount X.2.2.2.2.2.2.1 hk (k_uc_s _ _ _) hr6) rfl rfl rfl hl.1 ⟨Nat.le_of_ble_eq_true rfl, Nat.le_of_ble_eq_true rfl⟩ (Nat.le_of_ble_eq_true rfl) dX9_hasChute_6 ⟨Nat.zero_le _, Nat.zero_le _⟩) (fun H locs hU hS => ?_)
    refine lv_icmp_ge (tgt := 16) X.1 X.2.1 dX9_hasChute_9 (by decide) (fun c9 => ?_) (fun c9 => ?_)
    · replace hf := k_ifP hf c9
      refine lv_iconst (v := 0) X.1 X.2.1 dX9_hasChute_16 (by decide) ?_
      rw [← hw, k_uc_id] at hU
      have hz := Option.some.inj hf
      subst hz
      exact k_iret (v := 0) X hU hS hr hlk rfl rfl dX9_hasChute_17
    · replace hf := k_ifN hf c9
      refine lv_iconst (v := 1) X.1 X.2.1 dX9_hasChute_12 (by decide) ?_
      refine lv_goto (tgt := 17) X.1 X.2.1 dX9_hasChute_13 (by decide) ?_
      rw [← hw, k_uc_id] at hU
      have hz := Option.some.inj hf
      subst hz
      exact k_iret (v := 1) X hU hS hr hlk rfl rfl dX9_hasChute_17
def rm_X9_cutAway : Room := { frames := 2, cells := 0, slots := 0, locals := 42 }
set_option maxRecDepth 100000 in
set_option maxHeartbeats 4000000 in
theorem c_X9_cutAway {l : Launch} {D : va_G} {G : Nat → ClassId} {ad : Nat → Nat → Nat} {u : k_U} (hI : k_ok ad) {k : Nat} (hk : k_isW k) {w : k_M} (hw : u k = w) {a1 : Int32} {sz : Nat} {r : k_M} (hf : f_X9_cutAway w a1 = some r) : Met l yX9_cutAway (.code yX9_cutAway cX9_cutAway 3 none :: lw_g) rm_X9_cutAway (k_Pre D G ad u sz [.ref (ad k 0), .int a1]) (k_Qv D G ad (k_uc u k r) sz) 0 0 (k_A ad sz) := by
  refine k_ofW (by decide +kernel) hI (Nat.le_of_ble_eq_true rfl) ?_
  intro p e s m args below meth c X hr hlk hU hS ls hl
  have hl : lv_has ls 3 [(0, .ref (ad k 0)), (1, .int a1)] := hl
  have hU : k_Uv D G ad (k_uc u k w) s.heap := by rw [← hw, k_uc_id]; exact hU
  unfold f_X9_cutAway at hf
  refine lv_aload_n X.1 X.2.1 dX9_cutAway_0 rfl (lv_at hl 0 rfl) ?_
  refine lv_iload_n X.1 X.2.1 dX9_cutAway_1 rfl (lv_at hl 1 rfl) ?_
  obtain ⟨r2, hr2, hf⟩ := k_bdE hf
  refine k_backr X hS (k_runV (As := [.int a1]) (rest := []) X hS hU (sW_0 hk) (by decide) rfl vl_X9_116 (c_X9_chuteAt X.2.2.2.2.2.2.1 hk (k_uc_s _ _ _) hr2) rfl rfl rfl hl.1 ⟨Nat.le_of_ble_eq_true rfl, Nat.le_of_ble_eq_true rfl⟩ (Nat.le_of_ble_eq_true rfl) dX9_cutAway_2 ⟨Nat.zero_le _, Nat.zero_le _⟩) (fun H locs hU hS => ?_)
  obtain ⟨hi2, hf⟩ := k_ckE hf
  refine lv_astore_n (lv' := [(2, .ref (ad k r2)), (0, .ref (ad k 0)), (1, .int a1)]) X.1 X.2.1 dX9_cutAway_5 rfl hl (by decide) rfl (fun ls hl => ?_)
  refine lv_aload_n X.1 X.2.1 dX9_cutAway_6 rfl (lv_at hl 0 rfl) ?_
  refine lv_iconst (v := 4) X.1 X.2.1 dX9_cutAway_7 (by decide) ?_
  obtain ⟨w8, e8, hf⟩ := k_ltE hf
  refine k_putw X hU hS (k_sC hk hi2) fp_X9_120 rfl e8 rfl rfl dX9_cutAway_8 (fun H locs hU hS => ?_)
  refine lv_aload_n X.1 X.2.1 dX9_cutAway_11 rfl (lv_at hl 1 rfl) ?_
  refine k_getw (v := .ref (ad k 13)) X hU (sW_0 hk) fl_X9_42 rfl dX9_cutAway_12 ?_
  refine lv_aload_n X.1 X.2.1 dX9_cutAway_15 rfl (lv_at hl 1 rfl) ?_
  refine k_getw (v := .int (w8 0 6)) X hU (sW_0 hk) fl_X9_65 rfl dX9_cutAway_16 ?_
  refine lv_iconst (v := 5) X.1 X.2.1 dX9_cutAway_19 (by decide) ?_
  refine lv_iload_n X.1 X.2.1 dX9_cutAway_20 rfl (lv_at hl 2 rfl) ?_
  refine lv_aload_n X.1 X.2.1 dX9_cutAway_21 rfl (lv_at hl 0 rfl) ?_
  obtain ⟨r22, hr22, hf⟩ := k_bdE hf
  refine k_backi X hS (k_runV (As := []) (rest := [.int a1, .int 5, .int (w8 0 6), .ref (ad k 13)]) X hS hU (k_sC hk hi2) (by decide) rfl vl_X9_136 (c_X0_linesThere X.2.2.2.2.2.2.1 hk (k_uc_s _ _ _) hi2 hr22) rfl rfl rfl hl.1 ⟨Nat.le_of_ble_eq_true rfl, Nat.le_of_ble_eq_true rfl⟩ (Nat.le_of_ble_eq_true rfl) dX9_cutAway_22 ⟨Nat.zero_le _, Nat.zero_le _⟩) (fun H locs hU hS => ?_)
  obtain ⟨r25, hr25, hf⟩ := k_bdE hf
  refine k_backv X hS (k_runV (As := [.int (w8 0 6), .int 5, .int a1, .int r22]) (rest := []) X hS hU (sW_13 hk) (by decide) rfl vl_X9_157 (c_X1_keep X.2.2.2.2.2.2.1 hk (k_uc_s _ _ _) hr25) rfl rfl rfl hl.1 ⟨Nat.le_of_ble_eq_true rfl, Nat.le_of_ble_eq_true rfl⟩ (Nat.le_of_ble_eq_true rfl) dX9_cutAway_25 ⟨Nat.zero_le _, Nat.zero_le _⟩) (fun H locs hU hS => ?_)
  rw [k_uc_uc] at hU
  have hz := Option.some.inj hf
  subst hz
  exact k_vret X hU hS hr hlk dX9_cutAway_28
def rm_X10_cut : Room := { frames := 5, cells := 0, slots := 0, locals := 108 }
set_option maxRecDepth 100000 in
set_option maxHeartbeats 4000000 in
theorem c_X10_cut {l : Launch} {D : va_G} {G : Nat → ClassId} {ad : Nat → Nat → Nat} {u : k_U} (hI : k_ok ad) {a1 : Int32} {sz : Nat} {r1 : k_U} {r2 : Int32} (hf : f_X10_cut u a1 = some (r1, Sum.inl r2)) : Met l yX10_cut (.code yX10_cut cX10_cut 2 (some .int) :: lw_g) rm_X10_cut (k_Pre D G ad u sz [.ref (ad 0 0), .int a1]) (k_Qi D G ad r1 r2 sz) 0 0 (k_A ad sz) := by
  refine k_ofW (by decide +kernel) hI (Nat.le_of_ble_eq_true rfl) ?_
  intro p e s m args below meth c X hr hlk hU hS ls hl
  have hl : lv_has ls 2 [(0, .ref (ad 0 0)), (1, .int a1)] := hl
  unfold f_X10_cut at hf
  refine lv_aload_n X.1 X.2.1 dX10_cut_0 rfl (lv_at hl 0 rfl) ?_
  refine k_get (v := .ref (ad 10 0)) X hU sh_0_0 fl_X10_33 rfl dX10_cut_1 ?_
  refine lv_iload_n X.1 X.2.1 dX10_cut_4 rfl (lv_at hl 1 rfl) ?_
  obtain ⟨r5, hr5, hf⟩ := k_bdE hf
  refine k_backi X hS (k_runV (As := [.int a1]) (rest := []) X hS hU (sW_0 k_isW_10) (by decide) rfl vl_X10_234 (c_X9_hasChute X.2.2.2.2.2.2.1 k_isW_10 rfl hr5) rfl rfl rfl hl.1 ⟨Nat.le_of_ble_eq_true rfl, Nat.le_of_ble_eq_true rfl⟩ (Nat.le_of_ble_eq_true rfl) dX10_cut_5 ⟨Nat.zero_le _, Nat.zero_le _⟩) (fun H locs hU hS => ?_)
  refine lv_if_ne (tgt := 21) X.1 X.2.1 dX10_cut_8 (by decide) (fun c8 => ?_) (fun c8 => ?_)
  · replace hf := k_ifN hf c8
    refine lv_aload_n X.1 X.2.1 dX10_cut_21 rfl (lv_at hl 0 rfl) ?_
    refine k_get (v := .ref (ad 10 0)) X hU sh_0_0 fl_X10_33 rfl dX10_cut_22 ?_
    obtain ⟨r25, hr25, hf⟩ := k_bdE hf
    refine k_backi X hS (k_runV (As := []) (rest := []) X hS hU (sW_0 k_isW_10) (by decide) rfl vl_X10_350 (c_X9_hasLanded X.2.2.2.2.2.2.1 k_isW_10 rfl hr25) rfl rfl rfl hl.1 ⟨Nat.le_of_ble_eq_true rfl, Nat.le_of_ble_eq_true rfl⟩ (Nat.le_of_ble_eq_true rfl) dX10_cut_25 ⟨Nat.zero_le _, Nat.zero_le _⟩) (fun H locs hU hS => ?_)
    refine lv_if_eq (tgt := 37) X.1 X.2.1 dX10_cut_28 (by decide) (fun c28 => ?_) (fun c28 => ?_)
    · replace hf := k_ifP hf c28
      refine lv_aload_n X.1 X.2.1 dX10_cut_37 rfl (lv_at hl 0 rfl) ?_
      refine k_get (v := .ref (ad 10 0)) X hU sh_0_0 fl_X10_33 rfl dX10_cut_38 ?_
      refine lv_iload_n X.1 X.2.1 dX10_cut_41 rfl (lv_at hl 1 rfl) ?_
      obtain ⟨r42, hr42, hf⟩ := k_bdE hf
      refine k_backr X hS (k_runV (As := [.int a1]) (rest := []) X hS hU (sW_0 k_isW_10) (by decide) rfl vl_X10_243 (c_X9_chuteAt X.2.2.2.2.2.2.1 k_isW_10 rfl hr42) rfl rfl rfl hl.1 ⟨Nat.le_of_ble_eq_true rfl, Nat.le_of_ble_eq_true rfl⟩ (Nat.le_of_ble_eq_true rfl) dX10_cut_42 ⟨Nat.zero_le _, Nat.zero_le _⟩) (fun H locs hU hS => ?_)
      obtain ⟨hi42, hf⟩ := k_ckE hf
      refine k_get (v := .int (u 10 r42 5)) X hU (k_sC k_isW_10 hi42) fl_X10_264 rfl dX10_cut_45 ?_
      refine lv_iconst (v := 1) X.1 X.2.1 dX10_cut_48 (by decide) ?_
      refine lv_icmp_eq (tgt := 59) X.1 X.2.1 dX10_cut_49 (by decide) (fun c49 => ?_) (fun c49 => ?_)
      · replace hf := k_ifP hf c49
        refine lv_aload_n X.1 X.2.1 dX10_cut_59 rfl (lv_at hl 0 rfl) ?_
        obtain ⟨r60, hr60, hf⟩ := k_bdE hf
        refine k_backv X hS (k_runV (As := []) (rest := []) X hS hU sh_0_0 (by decide) rfl vl_X10_384 (c_X10_beginAct X.2.2.2.2.2.2.1 hr60) rfl rfl rfl hl.1 ⟨Nat.le_of_ble_eq_true rfl, Nat.le_of_ble_eq_true rfl⟩ (Nat.le_of_ble_eq_true rfl) dX10_cut_60 ⟨Nat.zero_le _, Nat.zero_le _⟩) (fun H locs hU hS => ?_)
        refine lv_aload_n X.1 X.2.1 dX10_cut_63 rfl (lv_at hl 0 rfl) ?_
        refine k_get (v := .ref (ad 10 0)) X hU sh_0_0 fl_X10_33 rfl dX10_cut_64 ?_
        refine lv_iload_n X.1 X.2.1 dX10_cut_67 rfl (lv_at hl 1 rfl) ?_
        obtain ⟨r68, hr68, hf⟩ := k_bdE hf
        refine k_backv X hS (k_runV (As := [.int a1]) (rest := []) X hS hU (sW_0 k_isW_10) (by decide) rfl vl_X10_399 (c_X9_cutAway X.2.2.2.2.2.2.1 k_isW_10 rfl hr68) rfl rfl rfl hl.1 ⟨Nat.le_of_ble_eq_true rfl, Nat.le_of_ble_eq_true rfl⟩ (Nat.le_of_ble_eq_true rfl) dX10_cut_68 ⟨Nat.zero_le _, Nat.zero_le _⟩) (fun H locs hU hS => ?_)
        obtain ⟨u68, e68, hf⟩ := k_ltE hf
        rw [← e68] at hU
        refine lv_aload_n X.1 X.2.1 dX10_cut_71 rfl (lv_at hl 0 rfl) ?_
        refine k_get (v := .ref (ad 10 0)) X hU sh_0_0 fl_X10_33 rfl dX10_cut_72 ?_
        obtain ⟨r75, hr75, hf⟩ := k_bdE hf
        refine k_backi X hS (k_runV (As := []) (rest := []) X hS hU (sW_0 k_isW_10) (by decide) rfl vl_X10_211 (c_X9_openChutes X.2.2.2.2.2.2.1 k_isW_10 rfl hr75) rfl rfl rfl hl.1 ⟨Nat.le_of_ble_eq_true rfl, Nat.le_of_ble_eq_true rfl⟩ (Nat.le_of_ble_eq_true rfl) dX10_cut_75 ⟨Nat.zero_le _, Nat.zero_le _⟩) (fun H locs hU hS => ?_)
        obtain ⟨hz1, hz2⟩ := k_injl hf
        subst hz1
        subst hz2
        exact k_iret (v := r75) X hU hS hr hlk rfl rfl dX10_cut_78
      · replace hf := k_ifN hf c49
        refine lv_aload_n X.1 X.2.1 dX10_cut_52 rfl (lv_at hl 0 rfl) ?_
        refine lv_bipush (v := 8) X.1 X.2.1 dX10_cut_53 (by decide) ?_
        obtain ⟨r55, hr55, hf⟩ := k_bdE hf
        refine k_backi X hS (k_runV (As := [.int 8]) (rest := []) X hS hU sh_0_0 (by decide) rfl vl_X10_381 (c_X10_refuse X.2.2.2.2.2.2.1 hr55) rfl rfl rfl hl.1 ⟨Nat.le_of_ble_eq_true rfl, Nat.le_of_ble_eq_true rfl⟩ (Nat.le_of_ble_eq_true rfl) dX10_cut_55 ⟨Nat.zero_le _, Nat.zero_le _⟩) (fun H locs hU hS => ?_)
        obtain ⟨hz1, hz2⟩ := k_injl hf
        subst hz1
        subst hz2
        exact k_iret (v := r55.2) X hU hS hr hlk rfl rfl dX10_cut_58
    · replace hf := k_ifN hf c28
      refine lv_aload_n X.1 X.2.1 dX10_cut_31 rfl (lv_at hl 0 rfl) ?_
      refine lv_iconst (v := 1) X.1 X.2.1 dX10_cut_32 (by decide) ?_
      obtain ⟨r33, hr33, hf⟩ := k_bdE hf
      refine k_backi X hS (k_runV (As := [.int 1]) (rest := []) X hS hU sh_0_0 (by decide) rfl vl_X10_381 (c_X10_refuse X.2.2.2.2.2.2.1 hr33) rfl rfl rfl hl.1 ⟨Nat.le_of_ble_eq_true rfl, Nat.le_of_ble_eq_true rfl⟩ (Nat.le_of_ble_eq_true rfl) dX10_cut_33 ⟨Nat.zero_le _, Nat.zero_le _⟩) (fun H locs hU hS => ?_)
      obtain ⟨hz1, hz2⟩ := k_injl hf
      subst hz1
      subst hz2
      exact k_iret (v := r33.2) X hU hS hr hlk rfl rfl dX10_cut_36
  · replace hf := k_ifP hf c8
    exact absurd hf k_ninl
def rx_X10_cut : Room := { frames := 6, cells := 1, slots := 6, locals := 108 }
set_option maxRecDepth 100000 in
set_option maxHeartbeats 4000000 in
theorem x_X10_cut {l : Launch} {D : va_G} {G : Nat → ClassId} {ad : Nat → Nat → Nat} {u : k_U} (hI : k_ok ad) (hlT : l.stackTraces = false) {a1 : Int32} {sz : Nat} {r1 : k_U} {j : Nat} (hf : f_X10_cut u a1 = some (r1, Sum.inr j)) : vx_Met l yX10_cut (.code yX10_cut cX10_cut 2 (some .int) :: lw_g) rx_X10_cut (k_Pre D G ad u sz [.ref (ad 0 0), .int a1]) (k_Qn ad sz) (k_XC D G ad r1 j sz) 1 6 (k_A ad sz) := by
  refine k_xofW (by decide +kernel) hI (Nat.le_of_ble_eq_true rfl) ?_
  intro p e s m args below meth c X hr hlk hex hU hS ls hl
  have hl : lv_has ls 2 [(0, .ref (ad 0 0)), (1, .int a1)] := hl
  unfold f_X10_cut at hf
  refine lv_aload_n X.1 X.2.1 dX10_cut_0 rfl (lv_at hl 0 rfl) ?_
  refine k_get (v := .ref (ad 10 0)) X hU sh_0_0 fl_X10_33 rfl dX10_cut_1 ?_
  refine lv_iload_n X.1 X.2.1 dX10_cut_4 rfl (lv_at hl 1 rfl) ?_
  obtain ⟨r5, hr5, hf⟩ := k_bdE hf
  refine k_backi X hS (k_runV (As := [.int a1]) (rest := []) X hS hU (sW_0 k_isW_10) (by decide) rfl vl_X10_234 (c_X9_hasChute X.2.2.2.2.2.2.1 k_isW_10 rfl hr5) rfl rfl rfl hl.1 ⟨Nat.le_of_ble_eq_true rfl, Nat.le_of_ble_eq_true rfl⟩ (Nat.le_of_ble_eq_true rfl) dX10_cut_5 ⟨Nat.zero_le _, Nat.zero_le _⟩) (fun H locs hU hS => ?_)
  refine lv_if_ne (tgt := 21) X.1 X.2.1 dX10_cut_8 (by decide) (fun c8 => ?_) (fun c8 => ?_)
  · replace hf := k_ifN hf c8
    refine lv_aload_n X.1 X.2.1 dX10_cut_21 rfl (lv_at hl 0 rfl) ?_
    refine k_get (v := .ref (ad 10 0)) X hU sh_0_0 fl_X10_33 rfl dX10_cut_22 ?_
    obtain ⟨r25, hr25, hf⟩ := k_bdE hf
    refine k_backi X hS (k_runV (As := []) (rest := []) X hS hU (sW_0 k_isW_10) (by decide) rfl vl_X10_350 (c_X9_hasLanded X.2.2.2.2.2.2.1 k_isW_10 rfl hr25) rfl rfl rfl hl.1 ⟨Nat.le_of_ble_eq_true rfl, Nat.le_of_ble_eq_true rfl⟩ (Nat.le_of_ble_eq_true rfl) dX10_cut_25 ⟨Nat.zero_le _, Nat.zero_le _⟩) (fun H locs hU hS => ?_)
    refine lv_if_eq (tgt := 37) X.1 X.2.1 dX10_cut_28 (by decide) (fun c28 => ?_) (fun c28 => ?_)
    · replace hf := k_ifP hf c28
      refine lv_aload_n X.1 X.2.1 dX10_cut_37 rfl (lv_at hl 0 rfl) ?_
      refine k_get (v := .ref (ad 10 0)) X hU sh_0_0 fl_X10_33 rfl dX10_cut_38 ?_
      refine lv_iload_n X.1 X.2.1 dX10_cut_41 rfl (lv_at hl 1 rfl) ?_
      obtain ⟨r42, hr42, hf⟩ := k_bdE hf
      refine k_backr X hS (k_runV (As := [.int a1]) (rest := []) X hS hU (sW_0 k_isW_10) (by decide) rfl vl_X10_243 (c_X9_chuteAt X.2.2.2.2.2.2.1 k_isW_10 rfl hr42) rfl rfl rfl hl.1 ⟨Nat.le_of_ble_eq_true rfl, Nat.le_of_ble_eq_true rfl⟩ (Nat.le_of_ble_eq_true rfl) dX10_cut_42 ⟨Nat.zero_le _, Nat.zero_le _⟩) (fun H locs hU hS => ?_)
      obtain ⟨hi42, hf⟩ := k_ckE hf
      refine k_get (v := .int (u 10 r42 5)) X hU (k_sC k_isW_10 hi42) fl_X10_264 rfl dX10_cut_45 ?_
      refine lv_iconst (v := 1) X.1 X.2.1 dX10_cut_48 (by decide) ?_
      refine lv_icmp_eq (tgt := 59) X.1 X.2.1 dX10_cut_49 (by decide) (fun c49 => ?_) (fun c49 => ?_)
      · replace hf := k_ifP hf c49
        refine lv_aload_n X.1 X.2.1 dX10_cut_59 rfl (lv_at hl 0 rfl) ?_
        obtain ⟨r60, hr60, hf⟩ := k_bdE hf
        refine k_backv X hS (k_runV (As := []) (rest := []) X hS hU sh_0_0 (by decide) rfl vl_X10_384 (c_X10_beginAct X.2.2.2.2.2.2.1 hr60) rfl rfl rfl hl.1 ⟨Nat.le_of_ble_eq_true rfl, Nat.le_of_ble_eq_true rfl⟩ (Nat.le_of_ble_eq_true rfl) dX10_cut_60 ⟨Nat.zero_le _, Nat.zero_le _⟩) (fun H locs hU hS => ?_)
        refine lv_aload_n X.1 X.2.1 dX10_cut_63 rfl (lv_at hl 0 rfl) ?_
        refine k_get (v := .ref (ad 10 0)) X hU sh_0_0 fl_X10_33 rfl dX10_cut_64 ?_
        refine lv_iload_n X.1 X.2.1 dX10_cut_67 rfl (lv_at hl 1 rfl) ?_
        obtain ⟨r68, hr68, hf⟩ := k_bdE hf
        refine k_backv X hS (k_runV (As := [.int a1]) (rest := []) X hS hU (sW_0 k_isW_10) (by decide) rfl vl_X10_399 (c_X9_cutAway X.2.2.2.2.2.2.1 k_isW_10 rfl hr68) rfl rfl rfl hl.1 ⟨Nat.le_of_ble_eq_true rfl, Nat.le_of_ble_eq_true rfl⟩ (Nat.le_of_ble_eq_true rfl) dX10_cut_68 ⟨Nat.zero_le _, Nat.zero_le _⟩) (fun H locs hU hS => ?_)
        obtain ⟨u68, e68, hf⟩ := k_ltE hf
        rw [← e68] at hU
        refine lv_aload_n X.1 X.2.1 dX10_cut_71 rfl (lv_at hl 0 rfl) ?_
        refine k_get (v := .ref (ad 10 0)) X hU sh_0_0 fl_X10_33 rfl dX10_cut_72 ?_
        obtain ⟨r75, hr75, hf⟩ := k_bdE hf
        refine k_backi X hS (k_runV (As := []) (rest := []) X hS hU (sW_0 k_isW_10) (by decide) rfl vl_X10_211 (c_X9_openChutes X.2.2.2.2.2.2.1 k_isW_10 rfl hr75) rfl rfl rfl hl.1 ⟨Nat.le_of_ble_eq_true rfl, Nat.le_of_ble_eq_true rfl⟩ (Nat.le_of_ble_eq_true rfl) dX10_cut_75 ⟨Nat.zero_le _, Nat.zero_le _⟩) (fun H locs hU hS => ?_)
        exact absurd hf k_ninr
      · replace hf := k_ifN hf c49
        refine lv_aload_n X.1 X.2.1 dX10_cut_52 rfl (lv_at hl 0 rfl) ?_
        refine lv_bipush (v := 8) X.1 X.2.1 dX10_cut_53 (by decide) ?_
        obtain ⟨r55, hr55, hf⟩ := k_bdE hf
        refine k_backi X hS (k_runV (As := [.int 8]) (rest := []) X hS hU sh_0_0 (by decide) rfl vl_X10_381 (c_X10_refuse X.2.2.2.2.2.2.1 hr55) rfl rfl rfl hl.1 ⟨Nat.le_of_ble_eq_true rfl, Nat.le_of_ble_eq_true rfl⟩ (Nat.le_of_ble_eq_true rfl) dX10_cut_55 ⟨Nat.zero_le _, Nat.zero_le _⟩) (fun H locs hU hS => ?_)
        exact absurd hf k_ninr
    · replace hf := k_ifN hf c28
      refine lv_aload_n X.1 X.2.1 dX10_cut_31 rfl (lv_at hl 0 rfl) ?_
      refine lv_iconst (v := 1) X.1 X.2.1 dX10_cut_32 (by decide) ?_
      obtain ⟨r33, hr33, hf⟩ := k_bdE hf
      refine k_backi X hS (k_runV (As := [.int 1]) (rest := []) X hS hU sh_0_0 (by decide) rfl vl_X10_381 (c_X10_refuse X.2.2.2.2.2.2.1 hr33) rfl rfl rfl hl.1 ⟨Nat.le_of_ble_eq_true rfl, Nat.le_of_ble_eq_true rfl⟩ (Nat.le_of_ble_eq_true rfl) dX10_cut_33 ⟨Nat.zero_le _, Nat.zero_le _⟩) (fun H locs hU hS => ?_)
      exact absurd hf k_ninr
  · replace hf := k_ifP hf c8
    obtain ⟨hz1, hz2⟩ := k_injr hf
    subst hz1
    subst hz2
    exact k_thrS X hlT hU hS (i := 36) rfl xw_238 (by decide +kernel) rfl hl.1 dX10_cut_11 dX10_cut_14 dX10_cut_15 dX10_cut_17 dX10_cut_20 hex (Nat.le_of_ble_eq_true rfl) (Nat.le_of_ble_eq_true rfl) ⟨Nat.le_of_ble_eq_true rfl, Nat.le_of_ble_eq_true rfl⟩ hlk ⟨Nat.le_of_ble_eq_true rfl, Nat.le_of_ble_eq_true rfl⟩
def rm_X10_steer : Room := { frames := 5, cells := 0, slots := 0, locals := 108 }
set_option maxRecDepth 100000 in
set_option maxHeartbeats 4000000 in
theorem c_X10_steer {l : Launch} {D : va_G} {G : Nat → ClassId} {ad : Nat → Nat → Nat} {u : k_U} (hI : k_ok ad) {a1 : Int32} {sz : Nat} {r1 : k_U} {r2 : Int32} (hf : f_X10_steer u a1 = some (r1, Sum.inl r2)) : Met l yX10_steer (.code yX10_steer cX10_steer 3 (some .int) :: lw_g) rm_X10_steer (k_Pre D G ad u sz [.ref (ad 0 0), .int a1]) (k_Qi D G ad r1 r2 sz) 0 0 (k_A ad sz) := by
  refine k_ofW (by decide +kernel) hI (Nat.le_of_ble_eq_true rfl) ?_
  intro p e s m args below meth c X hr hlk hU hS ls hl
  have hl : lv_has ls 3 [(0, .ref (ad 0 0)), (1, .int a1)] := hl
  have J12 : ∀ (H : Heap) (locs : List Loc) (ls : Array Slot) (u : k_U), k_Uv D G ad u H → va_S (k_A ad sz) s.heap H locs → lv_has ls 3 [] → f_X10_steer_12 u a1 = some (r1, Sum.inl r2) → W p l e rm_X10_steer s m args below meth c H locs 0 0 (MQ below (k_Qi D G ad r1 r2 sz) args s 0 0 (k_A ad sz)) (F0 m 12 ls []) := by
    intro H locs ls u hU hS hl hf
    unfold f_X10_steer_12 at hf
    exact absurd hf k_ninl
  unfold f_X10_steer at hf
  refine lv_iload_n X.1 X.2.1 dX10_steer_0 rfl (lv_at hl 1 rfl) ?_
  refine lv_bipush (v := (-9)) X.1 X.2.1 dX10_steer_1 (by decide) ?_
  refine lv_icmp_lt (tgt := 12) X.1 X.2.1 dX10_steer_3 (by decide) (fun c3 => ?_) (fun c3 => ?_)
  · replace hf := k_ifP hf c3
    exact J12 _ _ _ u hU hS (lv_sub hl [] rfl) hf
  · replace hf := k_ifN hf c3
    refine lv_iload_n X.1 X.2.1 dX10_steer_6 rfl (lv_at hl 1 rfl) ?_
    refine lv_bipush (v := 9) X.1 X.2.1 dX10_steer_7 (by decide) ?_
    refine lv_icmp_le (tgt := 23) X.1 X.2.1 dX10_steer_9 (by decide) (fun c9 => ?_) (fun c9 => ?_)
    · replace hf := k_ifP hf c9
      refine lv_aload_n X.1 X.2.1 dX10_steer_23 rfl (lv_at hl 0 rfl) ?_
      refine k_get (v := .ref (ad 10 0)) X hU sh_0_0 fl_X10_33 rfl dX10_steer_24 ?_
      obtain ⟨r27, hr27, hf⟩ := k_bdE hf
      refine k_backi X hS (k_runV (As := []) (rest := []) X hS hU (sW_0 k_isW_10) (by decide) rfl vl_X10_350 (c_X9_hasLanded X.2.2.2.2.2.2.1 k_isW_10 rfl hr27) rfl rfl rfl hl.1 ⟨Nat.le_of_ble_eq_true rfl, Nat.le_of_ble_eq_true rfl⟩ (Nat.le_of_ble_eq_true rfl) dX10_steer_27 ⟨Nat.zero_le _, Nat.zero_le _⟩) (fun H locs hU hS => ?_)
      refine lv_if_eq (tgt := 39) X.1 X.2.1 dX10_steer_30 (by decide) (fun c30 => ?_) (fun c30 => ?_)
      · replace hf := k_ifP hf c30
        refine lv_aload_n X.1 X.2.1 dX10_steer_39 rfl (lv_at hl 0 rfl) ?_
        refine k_get (v := .ref (ad 10 0)) X hU sh_0_0 fl_X10_33 rfl dX10_steer_40 ?_
        obtain ⟨r43, hr43, hf⟩ := k_bdE hf
        refine k_backi X hS (k_runV (As := []) (rest := []) X hS hU (sW_0 k_isW_10) (by decide) rfl vl_X10_211 (c_X9_openChutes X.2.2.2.2.2.2.1 k_isW_10 rfl hr43) rfl rfl rfl hl.1 ⟨Nat.le_of_ble_eq_true rfl, Nat.le_of_ble_eq_true rfl⟩ (Nat.le_of_ble_eq_true rfl) dX10_steer_43 ⟨Nat.zero_le _, Nat.zero_le _⟩) (fun H locs hU hS => ?_)
        refine lv_if_ne (tgt := 56) X.1 X.2.1 dX10_steer_46 (by decide) (fun c46 => ?_) (fun c46 => ?_)
        · replace hf := k_ifN hf c46
          refine lv_aload_n X.1 X.2.1 dX10_steer_56 rfl (lv_at hl 0 rfl) ?_
          obtain ⟨r57, hr57, hf⟩ := k_bdE hf
          refine k_backv X hS (k_runV (As := []) (rest := []) X hS hU sh_0_0 (by decide) rfl vl_X10_384 (c_X10_beginAct X.2.2.2.2.2.2.1 hr57) rfl rfl rfl hl.1 ⟨Nat.le_of_ble_eq_true rfl, Nat.le_of_ble_eq_true rfl⟩ (Nat.le_of_ble_eq_true rfl) dX10_steer_57 ⟨Nat.zero_le _, Nat.zero_le _⟩) (fun H locs hU hS => ?_)
          refine lv_aload_n X.1 X.2.1 dX10_steer_60 rfl (lv_at hl 0 rfl) ?_
          refine k_get (v := .ref (ad 10 0)) X hU sh_0_0 fl_X10_33 rfl dX10_steer_61 ?_
          refine k_get (v := .int (r57 10 0 5)) X hU (sW_0 k_isW_10) fl_X10_168 rfl dX10_steer_64 ?_
          obtain ⟨x67, e67, hf⟩ := k_ltE hf
          refine k_nmi e67 ?_
          refine lv_istore_n (lv' := [(2, .int x67), (0, .ref (ad 0 0)), (1, .int a1)]) X.1 X.2.1 dX10_steer_67 rfl hl (by decide) rfl (fun ls hl => ?_)
          refine lv_aload_n X.1 X.2.1 dX10_steer_68 rfl (lv_at hl 1 rfl) ?_
          refine k_get (v := .ref (ad 10 0)) X hU sh_0_0 fl_X10_33 rfl dX10_steer_69 ?_
          refine lv_iload_n X.1 X.2.1 dX10_steer_72 rfl (lv_at hl 2 rfl) ?_
          obtain ⟨u73, e73, hf⟩ := k_ltE hf
          refine k_put X hU hS (sW_0 k_isW_10) fp_X10_168 rfl rfl rfl rfl dX10_steer_73 (fun H locs hU hS => ?_)
          rw [← e73] at hU
          refine lv_iload_n X.1 X.2.1 dX10_steer_76 rfl (lv_at hl 0 rfl) ?_
          refine lv_bipush (v := 9) X.1 X.2.1 dX10_steer_77 (by decide) ?_
          refine lv_iadd X.1 X.2.1 dX10_steer_79 ?_
          obtain ⟨hz1, hz2⟩ := k_injl hf
          subst hz1
          subst hz2
          exact k_iret (v := (x67 + 9)) X hU hS hr hlk rfl rfl dX10_steer_80
        · replace hf := k_ifP hf c46
          refine lv_aload_n X.1 X.2.1 dX10_steer_49 rfl (lv_at hl 0 rfl) ?_
          refine lv_bipush (v := 8) X.1 X.2.1 dX10_steer_50 (by decide) ?_
          obtain ⟨r52, hr52, hf⟩ := k_bdE hf
          refine k_backi X hS (k_runV (As := [.int 8]) (rest := []) X hS hU sh_0_0 (by decide) rfl vl_X10_381 (c_X10_refuse X.2.2.2.2.2.2.1 hr52) rfl rfl rfl hl.1 ⟨Nat.le_of_ble_eq_true rfl, Nat.le_of_ble_eq_true rfl⟩ (Nat.le_of_ble_eq_true rfl) dX10_steer_52 ⟨Nat.zero_le _, Nat.zero_le _⟩) (fun H locs hU hS => ?_)
          obtain ⟨hz1, hz2⟩ := k_injl hf
          subst hz1
          subst hz2
          exact k_iret (v := r52.2) X hU hS hr hlk rfl rfl dX10_steer_55
      · replace hf := k_ifN hf c30
        refine lv_aload_n X.1 X.2.1 dX10_steer_33 rfl (lv_at hl 0 rfl) ?_
        refine lv_iconst (v := 1) X.1 X.2.1 dX10_steer_34 (by decide) ?_
        obtain ⟨r35, hr35, hf⟩ := k_bdE hf
        refine k_backi X hS (k_runV (As := [.int 1]) (rest := []) X hS hU sh_0_0 (by decide) rfl vl_X10_381 (c_X10_refuse X.2.2.2.2.2.2.1 hr35) rfl rfl rfl hl.1 ⟨Nat.le_of_ble_eq_true rfl, Nat.le_of_ble_eq_true rfl⟩ (Nat.le_of_ble_eq_true rfl) dX10_steer_35 ⟨Nat.zero_le _, Nat.zero_le _⟩) (fun H locs hU hS => ?_)
        obtain ⟨hz1, hz2⟩ := k_injl hf
        subst hz1
        subst hz2
        exact k_iret (v := r35.2) X hU hS hr hlk rfl rfl dX10_steer_38
    · replace hf := k_ifN hf c9
      exact J12 _ _ _ u hU hS (lv_sub hl [] rfl) hf
def rx_X10_steer : Room := { frames := 6, cells := 1, slots := 6, locals := 108 }
set_option maxRecDepth 100000 in
set_option maxHeartbeats 4000000 in
theorem x_X10_steer {l : Launch} {D : va_G} {G : Nat → ClassId} {ad : Nat → Nat → Nat} {u : k_U} (hI : k_ok ad) (hlT : l.stackTraces = false) {a1 : Int32} {sz : Nat} {r1 : k_U} {j : Nat} (hf : f_X10_steer u a1 = some (r1, Sum.inr j)) : vx_Met l yX10_steer (.code yX10_steer cX10_steer 3 (some .int) :: lw_g) rx_X10_steer (k_Pre D G ad u sz [.ref (ad 0 0), .int a1]) (k_Qn ad sz) (k_XC D G ad r1 j sz) 1 6 (k_A ad sz) := by
  refine k_xofW (by decide +kernel) hI (Nat.le_of_ble_eq_true rfl) ?_
  intro p e s m args below meth c X hr hlk hex hU hS ls hl
  have hl : lv_has ls 3 [(0, .ref (ad 0 0)), (1, .int a1)] := hl
  have J12 : ∀ (H : Heap) (locs : List Loc) (ls : Array Slot) (u : k_U), k_Uv D G ad u H → va_S (k_A ad sz) s.heap H locs → lv_has ls 3 [] → f_X10_steer_12 u a1 = some (r1, Sum.inr j) → W p l e rx_X10_steer s m args below meth c H locs 0 0 (vx_MQ below (k_Qn ad sz) (k_XC D G ad r1 j sz) args s 1 6 (k_A ad sz)) (F0 m 12 ls []) := by
    intro H locs ls u hU hS hl hf
    unfold f_X10_steer_12 at hf
    obtain ⟨hz1, hz2⟩ := k_injr hf
    subst hz1
    subst hz2
    exact k_thrSW X hlT hU hS (i := 48) rfl xw_180 (by decide +kernel) rfl hl.1 dX10_steer_12 dX10_steer_15 dX10_steer_16 dX10_steer_19 dX10_steer_22 hex (Nat.le_of_ble_eq_true rfl) (Nat.le_of_ble_eq_true rfl) ⟨Nat.le_of_ble_eq_true rfl, Nat.le_of_ble_eq_true rfl⟩ hlk ⟨Nat.le_of_ble_eq_true rfl, Nat.le_of_ble_eq_true rfl⟩
  unfold f_X10_steer at hf
  refine lv_iload_n X.1 X.2.1 dX10_steer_0 rfl (lv_at hl 1 rfl) ?_
  refine lv_bipush (v := (-9)) X.1 X.2.1 dX10_steer_1 (by decide) ?_
  refine lv_icmp_lt (tgt := 12) X.1 X.2.1 dX10_steer_3 (by decide) (fun c3 => ?_) (fun c3 => ?_)
  · replace hf := k_ifP hf c3
    exact J12 _ _ _ u hU hS (lv_sub hl [] rfl) hf
  · replace hf := k_ifN hf c3
    refine lv_iload_n X.1 X.2.1 dX10_steer_6 rfl (lv_at hl 1 rfl) ?_
    refine lv_bipush (v := 9) X.1 X.2.1 dX10_steer_7 (by decide) ?_
    refine lv_icmp_le (tgt := 23) X.1 X.2.1 dX10_steer_9 (by decide) (fun c9 => ?_) (fun c9 => ?_)
    · replace hf := k_ifP hf c9
      refine lv_aload_n X.1 X.2.1 dX10_steer_23 rfl (lv_at hl 0 rfl) ?_
      refine k_get (v := .ref (ad 10 0)) X hU sh_0_0 fl_X10_33 rfl dX10_steer_24 ?_
      obtain ⟨r27, hr27, hf⟩ := k_bdE hf
      refine k_backi X hS (k_runV (As := []) (rest := []) X hS hU (sW_0 k_isW_10) (by decide) rfl vl_X10_350 (c_X9_hasLanded X.2.2.2.2.2.2.1 k_isW_10 rfl hr27) rfl rfl rfl hl.1 ⟨Nat.le_of_ble_eq_true rfl, Nat.le_of_ble_eq_true rfl⟩ (Nat.le_of_ble_eq_true rfl) dX10_steer_27 ⟨Nat.zero_le _, Nat.zero_le _⟩) (fun H locs hU hS => ?_)
      refine lv_if_eq (tgt := 39) X.1 X.2.1 dX10_steer_30 (by decide) (fun c30 => ?_) (fun c30 => ?_)
      · replace hf := k_ifP hf c30
        refine lv_aload_n X.1 X.2.1 dX10_steer_39 rfl (lv_at hl 0 rfl) ?_
        refine k_get (v := .ref (ad 10 0)) X hU sh_0_0 fl_X10_33 rfl dX10_steer_40 ?_
        obtain ⟨r43, hr43, hf⟩ := k_bdE hf
        refine k_backi X hS (k_runV (As := []) (rest := []) X hS hU (sW_0 k_isW_10) (by decide) rfl vl_X10_211 (c_X9_openChutes X.2.2.2.2.2.2.1 k_isW_10 rfl hr43) rfl rfl rfl hl.1 ⟨Nat.le_of_ble_eq_true rfl, Nat.le_of_ble_eq_true rfl⟩ (Nat.le_of_ble_eq_true rfl) dX10_steer_43 ⟨Nat.zero_le _, Nat.zero_le _⟩) (fun H locs hU hS => ?_)
        refine lv_if_ne (tgt := 56) X.1 X.2.1 dX10_steer_46 (by decide) (fun c46 => ?_) (fun c46 => ?_)
        · replace hf := k_ifN hf c46
          refine lv_aload_n X.1 X.2.1 dX10_steer_56 rfl (lv_at hl 0 rfl) ?_
          obtain ⟨r57, hr57, hf⟩ := k_bdE hf
          refine k_backv X hS (k_runV (As := []) (rest := []) X hS hU sh_0_0 (by decide) rfl vl_X10_384 (c_X10_beginAct X.2.2.2.2.2.2.1 hr57) rfl rfl rfl hl.1 ⟨Nat.le_of_ble_eq_true rfl, Nat.le_of_ble_eq_true rfl⟩ (Nat.le_of_ble_eq_true rfl) dX10_steer_57 ⟨Nat.zero_le _, Nat.zero_le _⟩) (fun H locs hU hS => ?_)
          refine lv_aload_n X.1 X.2.1 dX10_steer_60 rfl (lv_at hl 0 rfl) ?_
          refine k_get (v := .ref (ad 10 0)) X hU sh_0_0 fl_X10_33 rfl dX10_steer_61 ?_
          refine k_get (v := .int (r57 10 0 5)) X hU (sW_0 k_isW_10) fl_X10_168 rfl dX10_steer_64 ?_
          obtain ⟨x67, e67, hf⟩ := k_ltE hf
          refine k_nmi e67 ?_
          refine lv_istore_n (lv' := [(2, .int x67), (0, .ref (ad 0 0)), (1, .int a1)]) X.1 X.2.1 dX10_steer_67 rfl hl (by decide) rfl (fun ls hl => ?_)
          refine lv_aload_n X.1 X.2.1 dX10_steer_68 rfl (lv_at hl 1 rfl) ?_
          refine k_get (v := .ref (ad 10 0)) X hU sh_0_0 fl_X10_33 rfl dX10_steer_69 ?_
          refine lv_iload_n X.1 X.2.1 dX10_steer_72 rfl (lv_at hl 2 rfl) ?_
          obtain ⟨u73, e73, hf⟩ := k_ltE hf
          refine k_put X hU hS (sW_0 k_isW_10) fp_X10_168 rfl rfl rfl rfl dX10_steer_73 (fun H locs hU hS => ?_)
          rw [← e73] at hU
          refine lv_iload_n X.1 X.2.1 dX10_steer_76 rfl (lv_at hl 0 rfl) ?_
          refine lv_bipush (v := 9) X.1 X.2.1 dX10_steer_77 (by decide) ?_
          refine lv_iadd X.1 X.2.1 dX10_steer_79 ?_
          exact absurd hf k_ninr
        · replace hf := k_ifP hf c46
          refine lv_aload_n X.1 X.2.1 dX10_steer_49 rfl (lv_at hl 0 rfl) ?_
          refine lv_bipush (v := 8) X.1 X.2.1 dX10_steer_50 (by decide) ?_
          obtain ⟨r52, hr52, hf⟩ := k_bdE hf
          refine k_backi X hS (k_runV (As := [.int 8]) (rest := []) X hS hU sh_0_0 (by decide) rfl vl_X10_381 (c_X10_refuse X.2.2.2.2.2.2.1 hr52) rfl rfl rfl hl.1 ⟨Nat.le_of_ble_eq_true rfl, Nat.le_of_ble_eq_true rfl⟩ (Nat.le_of_ble_eq_true rfl) dX10_steer_52 ⟨Nat.zero_le _, Nat.zero_le _⟩) (fun H locs hU hS => ?_)
          exact absurd hf k_ninr
      · replace hf := k_ifN hf c30
        refine lv_aload_n X.1 X.2.1 dX10_steer_33 rfl (lv_at hl 0 rfl) ?_
        refine lv_iconst (v := 1) X.1 X.2.1 dX10_steer_34 (by decide) ?_
        obtain ⟨r35, hr35, hf⟩ := k_bdE hf
        refine k_backi X hS (k_runV (As := [.int 1]) (rest := []) X hS hU sh_0_0 (by decide) rfl vl_X10_381 (c_X10_refuse X.2.2.2.2.2.2.1 hr35) rfl rfl rfl hl.1 ⟨Nat.le_of_ble_eq_true rfl, Nat.le_of_ble_eq_true rfl⟩ (Nat.le_of_ble_eq_true rfl) dX10_steer_35 ⟨Nat.zero_le _, Nat.zero_le _⟩) (fun H locs hU hS => ?_)
        exact absurd hf k_ninr
    · replace hf := k_ifN hf c9
      exact J12 _ _ _ u hU hS (lv_sub hl [] rfl) hf
def rm_X10_play : Room := { frames := 9, cells := 0, slots := 0, locals := 214 }
set_option maxRecDepth 100000 in
set_option maxHeartbeats 4000000 in
theorem c_X10_play {l : Launch} {D : va_G} {G : Nat → ClassId} {ad : Nat → Nat → Nat} {u : k_U} (hI : k_ok ad) {sz : Nat} {r : (k_U × Int32)} (hf : f_X10_play u = some r) : Met l yX10_play (.code yX10_play cX10_play 6 (some .int) :: lw_g) rm_X10_play (k_Pre D G ad u sz [.ref (ad 0 0)]) (k_Qi D G ad r.1 r.2 sz) 0 0 (k_A ad sz) := by
  refine k_ofW (by decide +kernel) hI (Nat.le_of_ble_eq_true rfl) ?_
  intro p e s m args below meth c X hr hlk hU hS ls hl
  have hl : lv_has ls 6 [(0, .ref (ad 0 0))] := hl
  have L43 : ∀ (n43 : Nat) (H : Heap) (locs : List Loc) (ls : Array Slot) (u : k_U) (a2 : Int32) (a3 : Int32), k_Uv D G ad u H → va_S (k_A ad sz) s.heap H locs → lv_has ls 6 [(0, .ref (ad 0 0)), (2, .int a2), (3, .int a3)] → f_X10_play_43 n43 u a2 a3 = some r → W p l e rm_X10_play s m args below meth c H locs 0 0 (MQ below (k_Qi D G ad r.1 r.2 sz) args s 0 0 (k_A ad sz)) (F0 m 43 ls []) := by
    intro n43
    induction n43 with
    | zero =>
      intro H locs ls u a2 a3 hU hS hl hf
      cases (show none = some r from hf)
    | succ n43 ih43 =>
      have J191 : ∀ (H : Heap) (locs : List Loc) (ls : Array Slot) (u : k_U) (a2 : Int32) (a3 : Int32), k_Uv D G ad u H → va_S (k_A ad sz) s.heap H locs → lv_has ls 6 [(0, .ref (ad 0 0)), (2, .int a2), (3, .int a3)] → f_X10_play_191 (f_X10_play_43 n43) u a2 a3 = some r → W p l e rm_X10_play s m args below meth c H locs 0 0 (MQ below (k_Qi D G ad r.1 r.2 sz) args s 0 0 (k_A ad sz)) (F0 m 191 ls []) := by
        intro H locs ls u a2 a3 hU hS hl hf
        unfold f_X10_play_191 at hf
        refine lv_goto (tgt := 43) X.1 X.2.1 dX10_play_191 (by decide) ?_
        exact ih43 _ _ _ u a2 a3 hU hS (lv_sub hl [0, 1, 2] rfl) hf
      have J183 : ∀ (H : Heap) (locs : List Loc) (ls : Array Slot) (u : k_U) (a2 : Int32) (as0 : Int32), k_Uv D G ad u H → va_S (k_A ad sz) s.heap H locs → lv_has ls 6 [(0, .ref (ad 0 0)), (2, .int a2)] → f_X10_play_183 (f_X10_play_43 n43) u a2 as0 = some r → W p l e rm_X10_play s m args below meth c H locs 0 0 (MQ below (k_Qi D G ad r.1 r.2 sz) args s 0 0 (k_A ad sz)) (F0 m 183 ls [.int as0]) := by
        intro H locs ls u a2 as0 hU hS hl hf
        unfold f_X10_play_183 at hf
        refine lv_istore_n (lv' := [(3, .int as0), (0, .ref (ad 0 0)), (2, .int a2)]) X.1 X.2.1 dX10_play_183 rfl hl (by decide) rfl (fun ls hl => ?_)
        refine lv_iload_n X.1 X.2.1 dX10_play_184 rfl (lv_at hl 0 rfl) ?_
        refine lv_if_ne (tgt := 191) X.1 X.2.1 dX10_play_185 (by decide) (fun c185 => ?_) (fun c185 => ?_)
        · replace hf := k_ifN hf c185
          exact J191 _ _ _ u a2 as0 hU hS (lv_sub hl [1, 2, 0] rfl) hf
        · replace hf := k_ifP hf c185
          obtain ⟨x188, e188, hf⟩ := k_ltE hf
          refine lv_iinc (v := x188) (lv' := [(2, .int x188), (3, .int as0), (0, .ref (ad 0 0))]) X.1 X.2.1 dX10_play_188 hl (k := 2) rfl (by rw [e188]; rfl) (by decide) rfl (fun ls hl => ?_)
          exact J191 _ _ _ u x188 as0 hU hS (lv_sub hl [2, 0, 1] rfl) hf
      have J173 : ∀ (H : Heap) (locs : List Loc) (ls : Array Slot) (u : k_U) (a2 : Int32) (a5 : Int32), k_Uv D G ad u H → va_S (k_A ad sz) s.heap H locs → lv_has ls 6 [(0, .ref (ad 0 0)), (2, .int a2), (5, .int a5)] → f_X10_play_173 (f_X10_play_43 n43) u a2 a5 = some r → W p l e rm_X10_play s m args below meth c H locs 0 0 (MQ below (k_Qi D G ad r.1 r.2 sz) args s 0 0 (k_A ad sz)) (F0 m 173 ls []) := by
        intro H locs ls u a2 a5 hU hS hl hf
        unfold f_X10_play_173 at hf
        refine lv_iload X.1 X.2.1 dX10_play_173 (lv_at hl 2 rfl) ?_
        refine lv_if_ge (tgt := 182) X.1 X.2.1 dX10_play_175 (by decide) (fun c175 => ?_) (fun c175 => ?_)
        · replace hf := k_ifP hf c175
          refine lv_iconst (v := 0) X.1 X.2.1 dX10_play_182 (by decide) ?_
          exact J183 _ _ _ u a2 0 hU hS (lv_sub hl [0, 1] rfl) hf
        · replace hf := k_ifN hf c175
          refine lv_iconst (v := 1) X.1 X.2.1 dX10_play_178 (by decide) ?_
          refine lv_goto (tgt := 183) X.1 X.2.1 dX10_play_179 (by decide) ?_
          exact J183 _ _ _ u a2 1 hU hS (lv_sub hl [0, 1] rfl) hf
      intro H locs ls u a2 a3 hU hS hl hf
      replace hf : f_X10_play_43_b (f_X10_play_43 n43) u a2 a3 = some r := hf
      unfold f_X10_play_43_b at hf
      refine lv_iload_n X.1 X.2.1 dX10_play_43 rfl (lv_at hl 1 rfl) ?_
      refine lv_aload_n X.1 X.2.1 dX10_play_44 rfl (lv_at hl 0 rfl) ?_
      refine k_get (v := .ref (ad 2 0)) X hU sh_0_0 fl_X10_26 rfl dX10_play_45 ?_
      refine k_get (v := .int (u 2 0 2)) X hU sh_2_0 fl_X10_120 rfl dX10_play_48 ?_
      refine lv_icmp_ge (tgt := 194) X.1 X.2.1 dX10_play_51 (by decide) (fun c51 => ?_) (fun c51 => ?_)
      · replace hf := k_ifP hf c51
        refine lv_iload_n X.1 X.2.1 dX10_play_194 rfl (lv_at hl 1 rfl) ?_
        have hz := Option.some.inj hf
        subst hz
        exact k_iret (v := a2) X hU hS hr hlk rfl rfl dX10_play_195
      · replace hf := k_ifN hf c51
        refine lv_iload_n X.1 X.2.1 dX10_play_54 rfl (lv_at hl 2 rfl) ?_
        refine lv_if_ne (tgt := 194) X.1 X.2.1 dX10_play_55 (by decide) (fun c55 => ?_) (fun c55 => ?_)
        · replace hf := k_ifN hf c55
          refine lv_iload_n X.1 X.2.1 dX10_play_194 rfl (lv_at hl 1 rfl) ?_
          have hz := Option.some.inj hf
          subst hz
          exact k_iret (v := a2) X hU hS hr hlk rfl rfl dX10_play_195
        · replace hf := k_ifP hf c55
          refine lv_aload_n X.1 X.2.1 dX10_play_58 rfl (lv_at hl 0 rfl) ?_
          refine k_get (v := .ref (ad 2 0)) X hU sh_0_0 fl_X10_26 rfl dX10_play_59 ?_
          refine k_get (v := .ref (ad 2 2)) X hU sh_2_0 fl_X10_123 rfl dX10_play_62 ?_
          refine lv_iload_n X.1 X.2.1 dX10_play_65 rfl (lv_at hl 1 rfl) ?_
          obtain ⟨hi66, hf⟩ := k_ckE hf
          refine k_ild (j0 := a2.toNatClampNeg) X hU sh_2_2 (k_vin (n := 40) hi66 (by decide)) rfl dX10_play_66 ?_
          obtain ⟨x67, e67, hf⟩ := k_ltE hf
          refine k_nmi e67 ?_
          refine lv_istore (lv' := [(4, .int x67), (0, .ref (ad 0 0)), (2, .int a2), (3, .int a3)]) X.1 X.2.1 dX10_play_67 hl (by decide) rfl (fun ls hl => ?_)
          refine lv_aload_n X.1 X.2.1 dX10_play_69 rfl (lv_at hl 1 rfl) ?_
          refine k_get (v := .ref (ad 2 0)) X hU sh_0_0 fl_X10_26 rfl dX10_play_70 ?_
          refine k_get (v := .ref (ad 2 1)) X hU sh_2_0 fl_X10_126 rfl dX10_play_73 ?_
          refine lv_iload_n X.1 X.2.1 dX10_play_76 rfl (lv_at hl 2 rfl) ?_
          obtain ⟨hi77, hf⟩ := k_ckE hf
          refine k_ild (j0 := a2.toNatClampNeg) X hU sh_2_1 (k_vin (n := 40) hi77 (by decide)) rfl dX10_play_77 ?_
          by_cases c78_0 : (u 2 1 a2.toNatClampNeg) = 0
          · replace hf := k_ifP hf c78_0
            refine lv_tableIn (x := u 2 1 a2.toNatClampNeg) (off := 34) (tgt := 112) X.1 X.2.1 dX10_play_78 (by rw [c78_0]; decide) (by rw [c78_0]; decide) (by rw [c78_0]; rfl) (by decide) ?_
            refine lv_aload_n X.1 X.2.1 dX10_play_112 rfl (lv_at hl 1 rfl) ?_
            refine lv_iload X.1 X.2.1 dX10_play_113 (lv_at hl 0 rfl) ?_
            obtain ⟨r115, hr115, hf⟩ := k_bdE hf
            refine k_backi X hS (k_runV (As := [.int x67]) (rest := []) X hS hU sh_0_0 (by decide) rfl vl_X10_129 (c_X10_tick X.2.2.2.2.2.2.1 (k_noE hr115)) rfl rfl rfl hl.1 ⟨Nat.le_of_ble_eq_true rfl, Nat.le_of_ble_eq_true rfl⟩ (Nat.le_of_ble_eq_true rfl) dX10_play_115 ⟨Nat.zero_le _, Nat.zero_le _⟩) (fun H locs hU hS => ?_)
            refine lv_istore (lv' := [(5, .int r115.2), (4, .int x67), (0, .ref (ad 0 0)), (2, .int a2), (3, .int a3)]) X.1 X.2.1 dX10_play_118 hl (by decide) rfl (fun ls hl => ?_)
            refine lv_goto (tgt := 173) X.1 X.2.1 dX10_play_120 (by decide) ?_
            exact J173 _ _ _ r115.1 a2 r115.2 hU hS (lv_sub hl [2, 3, 0] rfl) hf
          replace hf := k_ifN hf c78_0
          by_cases c78_1 : (u 2 1 a2.toNatClampNeg) = 1
          · replace hf := k_ifP hf c78_1
            refine lv_tableIn (x := u 2 1 a2.toNatClampNeg) (off := 45) (tgt := 123) X.1 X.2.1 dX10_play_78 (by rw [c78_1]; decide) (by rw [c78_1]; decide) (by rw [c78_1]; rfl) (by decide) ?_
            refine lv_aload_n X.1 X.2.1 dX10_play_123 rfl (lv_at hl 1 rfl) ?_
            refine lv_iload X.1 X.2.1 dX10_play_124 (lv_at hl 0 rfl) ?_
            obtain ⟨r126, hr126, hf⟩ := k_bdE hf
            refine k_backi X hS (k_runV (As := [.int x67]) (rest := []) X hS hU sh_0_0 (by decide) rfl vl_X10_132 (c_X10_fallTo X.2.2.2.2.2.2.1 (k_noE hr126)) rfl rfl rfl hl.1 ⟨Nat.le_of_ble_eq_true rfl, Nat.le_of_ble_eq_true rfl⟩ (Nat.le_of_ble_eq_true rfl) dX10_play_126 ⟨Nat.zero_le _, Nat.zero_le _⟩) (fun H locs hU hS => ?_)
            refine lv_istore (lv' := [(5, .int r126.2), (4, .int x67), (0, .ref (ad 0 0)), (2, .int a2), (3, .int a3)]) X.1 X.2.1 dX10_play_129 hl (by decide) rfl (fun ls hl => ?_)
            refine lv_goto (tgt := 173) X.1 X.2.1 dX10_play_131 (by decide) ?_
            exact J173 _ _ _ r126.1 a2 r126.2 hU hS (lv_sub hl [2, 3, 0] rfl) hf
          replace hf := k_ifN hf c78_1
          by_cases c78_2 : (u 2 1 a2.toNatClampNeg) = 2
          · replace hf := k_ifP hf c78_2
            refine lv_tableIn (x := u 2 1 a2.toNatClampNeg) (off := 56) (tgt := 134) X.1 X.2.1 dX10_play_78 (by rw [c78_2]; decide) (by rw [c78_2]; decide) (by rw [c78_2]; rfl) (by decide) ?_
            refine lv_aload_n X.1 X.2.1 dX10_play_134 rfl (lv_at hl 1 rfl) ?_
            refine lv_iload X.1 X.2.1 dX10_play_135 (lv_at hl 0 rfl) ?_
            obtain ⟨r137, hr137, hf⟩ := k_bdE hf
            refine k_backi X hS (k_runV (As := [.int x67]) (rest := []) X hS hU sh_0_0 (by decide) rfl vl_X10_135 (c_X10_open X.2.2.2.2.2.2.1 (k_noE hr137)) rfl rfl rfl hl.1 ⟨Nat.le_of_ble_eq_true rfl, Nat.le_of_ble_eq_true rfl⟩ (Nat.le_of_ble_eq_true rfl) dX10_play_137 ⟨Nat.zero_le _, Nat.zero_le _⟩) (fun H locs hU hS => ?_)
            refine lv_istore (lv' := [(5, .int r137.2), (4, .int x67), (0, .ref (ad 0 0)), (2, .int a2), (3, .int a3)]) X.1 X.2.1 dX10_play_140 hl (by decide) rfl (fun ls hl => ?_)
            refine lv_goto (tgt := 173) X.1 X.2.1 dX10_play_142 (by decide) ?_
            exact J173 _ _ _ r137.1 a2 r137.2 hU hS (lv_sub hl [2, 3, 0] rfl) hf
          replace hf := k_ifN hf c78_2
          by_cases c78_3 : (u 2 1 a2.toNatClampNeg) = 3
          · replace hf := k_ifP hf c78_3
            refine lv_tableIn (x := u 2 1 a2.toNatClampNeg) (off := 67) (tgt := 145) X.1 X.2.1 dX10_play_78 (by rw [c78_3]; decide) (by rw [c78_3]; decide) (by rw [c78_3]; rfl) (by decide) ?_
            refine lv_aload_n X.1 X.2.1 dX10_play_145 rfl (lv_at hl 1 rfl) ?_
            obtain ⟨r146, hr146, hf⟩ := k_bdE hf
            refine k_backi X hS (k_runV (As := []) (rest := []) X hS hU sh_0_0 (by decide) rfl vl_X10_138 (c_X10_openReserve X.2.2.2.2.2.2.1 hr146) rfl rfl rfl hl.1 ⟨Nat.le_of_ble_eq_true rfl, Nat.le_of_ble_eq_true rfl⟩ (Nat.le_of_ble_eq_true rfl) dX10_play_146 ⟨Nat.zero_le _, Nat.zero_le _⟩) (fun H locs hU hS => ?_)
            refine lv_istore (lv' := [(5, .int r146.2), (4, .int x67), (0, .ref (ad 0 0)), (2, .int a2), (3, .int a3)]) X.1 X.2.1 dX10_play_149 hl (by decide) rfl (fun ls hl => ?_)
            refine lv_goto (tgt := 173) X.1 X.2.1 dX10_play_151 (by decide) ?_
            exact J173 _ _ _ r146.1 a2 r146.2 hU hS (lv_sub hl [2, 3, 0] rfl) hf
          replace hf := k_ifN hf c78_3
          by_cases c78_4 : (u 2 1 a2.toNatClampNeg) = 4
          · replace hf := k_ifP hf c78_4
            refine lv_tableIn (x := u 2 1 a2.toNatClampNeg) (off := 76) (tgt := 154) X.1 X.2.1 dX10_play_78 (by rw [c78_4]; decide) (by rw [c78_4]; decide) (by rw [c78_4]; rfl) (by decide) ?_
            refine lv_aload_n X.1 X.2.1 dX10_play_154 rfl (lv_at hl 1 rfl) ?_
            refine lv_iload X.1 X.2.1 dX10_play_155 (lv_at hl 0 rfl) ?_
            obtain ⟨r157, hr157, hf⟩ := k_bdE hf
            refine k_backi X hS (k_runV (As := [.int x67]) (rest := []) X hS hU sh_0_0 (by decide) rfl vl_X10_141 (c_X10_cut X.2.2.2.2.2.2.1 (k_noE hr157)) rfl rfl rfl hl.1 ⟨Nat.le_of_ble_eq_true rfl, Nat.le_of_ble_eq_true rfl⟩ (Nat.le_of_ble_eq_true rfl) dX10_play_157 ⟨Nat.zero_le _, Nat.zero_le _⟩) (fun H locs hU hS => ?_)
            refine lv_istore (lv' := [(5, .int r157.2), (4, .int x67), (0, .ref (ad 0 0)), (2, .int a2), (3, .int a3)]) X.1 X.2.1 dX10_play_160 hl (by decide) rfl (fun ls hl => ?_)
            refine lv_goto (tgt := 173) X.1 X.2.1 dX10_play_162 (by decide) ?_
            exact J173 _ _ _ r157.1 a2 r157.2 hU hS (lv_sub hl [2, 3, 0] rfl) hf
          replace hf := k_ifN hf c78_4
          have ho78 : (u 2 1 a2.toNatClampNeg).toInt < 0 ∨ 4 < (u 2 1 a2.toNatClampNeg).toInt := by
            have g0 := k_tne (n := 0) (z := 0) c78_0 (by decide)
            have g1 := k_tne (n := 1) (z := 1) c78_1 (by decide)
            have g2 := k_tne (n := 2) (z := 2) c78_2 (by decide)
            have g3 := k_tne (n := 3) (z := 3) c78_3 (by decide)
            have g4 := k_tne (n := 4) (z := 4) c78_4 (by decide)
            omega
          refine lv_tableOut (x := u 2 1 a2.toNatClampNeg) (tgt := 165) X.1 X.2.1 dX10_play_78 ho78 (by decide) ?_
          refine lv_aload_n X.1 X.2.1 dX10_play_165 rfl (lv_at hl 1 rfl) ?_
          refine lv_iload X.1 X.2.1 dX10_play_166 (lv_at hl 0 rfl) ?_
          obtain ⟨r168, hr168, hf⟩ := k_bdE hf
          refine k_backi X hS (k_runV (As := [.int x67]) (rest := []) X hS hU sh_0_0 (by decide) rfl vl_X10_144 (c_X10_steer X.2.2.2.2.2.2.1 (k_noE hr168)) rfl rfl rfl hl.1 ⟨Nat.le_of_ble_eq_true rfl, Nat.le_of_ble_eq_true rfl⟩ (Nat.le_of_ble_eq_true rfl) dX10_play_168 ⟨Nat.zero_le _, Nat.zero_le _⟩) (fun H locs hU hS => ?_)
          refine lv_istore (lv' := [(5, .int r168.2), (4, .int x67), (0, .ref (ad 0 0)), (2, .int a2), (3, .int a3)]) X.1 X.2.1 dX10_play_171 hl (by decide) rfl (fun ls hl => ?_)
          exact J173 _ _ _ r168.1 a2 r168.2 hU hS (lv_sub hl [2, 3, 0] rfl) hf
  unfold f_X10_play at hf
  refine lv_aload_n X.1 X.2.1 dX10_play_0 rfl (lv_at hl 0 rfl) ?_
  refine k_get (v := .ref (ad 2 0)) X hU sh_0_0 fl_X10_26 rfl dX10_play_1 ?_
  refine lv_aload_n X.1 X.2.1 dX10_play_4 rfl (lv_at hl 0 rfl) ?_
  refine k_get (v := .ref (ad 1 0)) X hU sh_0_0 fl_X10_10 rfl dX10_play_5 ?_
  refine lv_aload_n X.1 X.2.1 dX10_play_8 rfl (lv_at hl 0 rfl) ?_
  refine k_get (v := .ref (ad 10 0)) X hU sh_0_0 fl_X10_33 rfl dX10_play_9 ?_
  refine k_get (v := .int (u 10 0 10)) X hU (sW_0 k_isW_10) fl_X10_113 rfl dX10_play_12 ?_
  refine lv_aload_n X.1 X.2.1 dX10_play_15 rfl (lv_at hl 0 rfl) ?_
  refine k_get (v := .ref (ad 10 0)) X hU sh_0_0 fl_X10_33 rfl dX10_play_16 ?_
  obtain ⟨r19, hr19, hf⟩ := k_bdE hf
  refine k_backi X hS (k_runV (As := []) (rest := [.int (u 10 0 10), .ref (ad 1 0), .ref (ad 2 0)]) X hS hU (sW_0 k_isW_10) (by decide) rfl vl_X10_110 (c_X9_chuteCount X.2.2.2.2.2.2.1 k_isW_10 rfl hr19) rfl rfl rfl hl.1 ⟨Nat.le_of_ble_eq_true rfl, Nat.le_of_ble_eq_true rfl⟩ (Nat.le_of_ble_eq_true rfl) dX10_play_19 ⟨Nat.zero_le _, Nat.zero_le _⟩) (fun H locs hU hS => ?_)
  obtain ⟨r22, hr22, hf⟩ := k_bdE hf
  refine k_backi X hS (k_runV (As := [.ref (ad 1 0), .int (u 10 0 10), .int r19]) (rest := []) X hS hU sh_2_0 (by decide) rfl vl_X10_116 (c_X5_readCommands X.2.2.2.2.2.2.1 hr22) rfl rfl rfl hl.1 ⟨Nat.le_of_ble_eq_true rfl, Nat.le_of_ble_eq_true rfl⟩ (Nat.le_of_ble_eq_true rfl) dX10_play_22 ⟨Nat.zero_le _, Nat.zero_le _⟩) (fun H locs hU hS => ?_)
  refine lv_istore_n (lv' := [(1, .int r22.2), (0, .ref (ad 0 0))]) X.1 X.2.1 dX10_play_25 rfl hl (by decide) rfl (fun ls hl => ?_)
  refine lv_aload_n X.1 X.2.1 dX10_play_26 rfl (lv_at hl 1 rfl) ?_
  refine k_get (v := .ref (ad 1 0)) X hU sh_0_0 fl_X10_10 rfl dX10_play_27 ?_
  obtain ⟨r30, hr30, hf⟩ := k_bdE hf
  refine k_backv X hS (k_runV (As := []) (rest := []) X hS hU sh_1_0 (by decide) rfl vl_X10_97 (c_X4_emptyText X.2.2.2.2.2.2.1 rfl hr30) rfl rfl rfl hl.1 ⟨Nat.le_of_ble_eq_true rfl, Nat.le_of_ble_eq_true rfl⟩ (Nat.le_of_ble_eq_true rfl) dX10_play_30 ⟨Nat.zero_le _, Nat.zero_le _⟩) (fun H locs hU hS => ?_)
  obtain ⟨u30, e30, hf⟩ := k_ltE hf
  rw [← e30] at hU
  refine lv_iload_n X.1 X.2.1 dX10_play_33 rfl (lv_at hl 0 rfl) ?_
  refine lv_if_ne (tgt := 39) X.1 X.2.1 dX10_play_34 (by decide) (fun c34 => ?_) (fun c34 => ?_)
  · replace hf := k_ifN hf c34
    refine lv_iconst (v := 0) X.1 X.2.1 dX10_play_39 (by decide) ?_
    refine lv_istore_n (lv' := [(2, .int 0), (1, .int r22.2), (0, .ref (ad 0 0))]) X.1 X.2.1 dX10_play_40 rfl hl (by decide) rfl (fun ls hl => ?_)
    refine lv_iconst (v := 0) X.1 X.2.1 dX10_play_41 (by decide) ?_
    refine lv_istore_n (lv' := [(3, .int 0), (2, .int 0), (1, .int r22.2), (0, .ref (ad 0 0))]) X.1 X.2.1 dX10_play_42 rfl hl (by decide) rfl (fun ls hl => ?_)
    exact L43 k_N _ _ _ u30 0 0 hU hS (lv_sub hl [3, 1, 0] rfl) hf
  · replace hf := k_ifP hf c34
    refine lv_iconst (v := (-1)) X.1 X.2.1 dX10_play_37 (by decide) ?_
    have hz := Option.some.inj hf
    subst hz
    exact k_iret (v := (-1)) X hU hS hr hlk rfl rfl dX10_play_38
def rm_X10_errorCode : Room := { frames := 0, cells := 0, slots := 0, locals := 0 }
set_option maxRecDepth 100000 in
set_option maxHeartbeats 4000000 in
theorem c_X10_errorCode {l : Launch} {D : va_G} {G : Nat → ClassId} {ad : Nat → Nat → Nat} {u : k_U} (hI : k_ok ad) {sz : Nat} {r : Int32} (hf : f_X10_errorCode u = some r) : Met l yX10_errorCode (.code yX10_errorCode cX10_errorCode 1 (some .int) :: lw_g) rm_X10_errorCode (k_Pre D G ad u sz [.ref (ad 0 0)]) (k_Qi D G ad u r sz) 0 0 (k_A ad sz) := by
  refine k_ofW (by decide +kernel) hI (Nat.le_of_ble_eq_true rfl) ?_
  intro p e s m args below meth c X hr hlk hU hS ls hl
  have hl : lv_has ls 1 [(0, .ref (ad 0 0))] := hl
  unfold f_X10_errorCode at hf
  refine lv_aload_n X.1 X.2.1 dX10_errorCode_0 rfl (lv_at hl 0 rfl) ?_
  refine k_get (v := .ref (ad 1 0)) X hU sh_0_0 fl_X10_10 rfl dX10_errorCode_1 ?_
  refine k_get (v := .int (u 1 0 3)) X hU sh_1_0 fl_X10_147 rfl dX10_errorCode_4 ?_
  have hz := Option.some.inj hf
  subst hz
  exact k_iret (v := u 1 0 3) X hU hS hr hlk rfl rfl dX10_errorCode_7
def rm_X10_errorPosition : Room := { frames := 0, cells := 0, slots := 0, locals := 0 }
set_option maxRecDepth 100000 in
set_option maxHeartbeats 4000000 in
theorem c_X10_errorPosition {l : Launch} {D : va_G} {G : Nat → ClassId} {ad : Nat → Nat → Nat} {u : k_U} (hI : k_ok ad) {sz : Nat} {r : Int32} (hf : f_X10_errorPosition u = some r) : Met l yX10_errorPosition (.code yX10_errorPosition cX10_errorPosition 1 (some .int) :: lw_g) rm_X10_errorPosition (k_Pre D G ad u sz [.ref (ad 0 0)]) (k_Qi D G ad u r sz) 0 0 (k_A ad sz) := by
  refine k_ofW (by decide +kernel) hI (Nat.le_of_ble_eq_true rfl) ?_
  intro p e s m args below meth c X hr hlk hU hS ls hl
  have hl : lv_has ls 1 [(0, .ref (ad 0 0))] := hl
  unfold f_X10_errorPosition at hf
  refine lv_aload_n X.1 X.2.1 dX10_errorPosition_0 rfl (lv_at hl 0 rfl) ?_
  refine k_get (v := .ref (ad 1 0)) X hU sh_0_0 fl_X10_10 rfl dX10_errorPosition_1 ?_
  refine k_get (v := .int (u 1 0 4)) X hU sh_1_0 fl_X10_150 rfl dX10_errorPosition_4 ?_
  have hz := Option.some.inj hf
  subst hz
  exact k_iret (v := u 1 0 4) X hU hS hr hlk rfl rfl dX10_errorPosition_7
def rm_X10_capsule : Room := { frames := 3, cells := 0, slots := 0, locals := 65 }
set_option maxRecDepth 100000 in
set_option maxHeartbeats 4000000 in
theorem c_X10_capsule {l : Launch} {D : va_G} {G : Nat → ClassId} {ad : Nat → Nat → Nat} {u : k_U} (hI : k_ok ad) {a1 : Int32} {sz : Nat} {r2 : Int32} (hf : f_X10_capsule u a1 = some (Sum.inl r2)) : Met l yX10_capsule (.code yX10_capsule cX10_capsule 2 (some .int) :: lw_g) rm_X10_capsule (k_Pre D G ad u sz [.ref (ad 0 0), .int a1]) (k_Qi D G ad u r2 sz) 0 0 (k_A ad sz) := by
  refine k_ofW (by decide +kernel) hI (Nat.le_of_ble_eq_true rfl) ?_
  intro p e s m args below meth c X hr hlk hU hS ls hl
  have hl : lv_has ls 2 [(0, .ref (ad 0 0)), (1, .int a1)] := hl
  unfold f_X10_capsule at hf
  refine lv_iload_n X.1 X.2.1 dX10_capsule_0 rfl (lv_at hl 1 rfl) ?_
  by_cases c1_0 : a1 = 0
  · replace hf := k_ifP hf c1_0
    refine lv_tableIn (x := a1) (off := 51) (tgt := 52) X.1 X.2.1 dX10_capsule_1 (by rw [c1_0]; decide) (by rw [c1_0]; decide) (by rw [c1_0]; rfl) (by decide) ?_
    refine lv_aload_n X.1 X.2.1 dX10_capsule_52 rfl (lv_at hl 0 rfl) ?_
    refine k_get (v := .ref (ad 10 0)) X hU sh_0_0 fl_X10_33 rfl dX10_capsule_53 ?_
    refine k_get (v := .int (u 10 0 0)) X hU (sW_0 k_isW_10) fl_X10_153 rfl dX10_capsule_56 ?_
    have hz := k_injl0 hf
    subst hz
    exact k_iret (v := u 10 0 0) X hU hS hr hlk rfl rfl dX10_capsule_59
  replace hf := k_ifN hf c1_0
  by_cases c1_1 : a1 = 1
  · replace hf := k_ifP hf c1_1
    refine lv_tableIn (x := a1) (off := 59) (tgt := 60) X.1 X.2.1 dX10_capsule_1 (by rw [c1_1]; decide) (by rw [c1_1]; decide) (by rw [c1_1]; rfl) (by decide) ?_
    refine lv_aload_n X.1 X.2.1 dX10_capsule_60 rfl (lv_at hl 0 rfl) ?_
    refine k_get (v := .ref (ad 10 0)) X hU sh_0_0 fl_X10_33 rfl dX10_capsule_61 ?_
    refine k_get (v := .int (u 10 0 1)) X hU (sW_0 k_isW_10) fl_X10_156 rfl dX10_capsule_64 ?_
    have hz := k_injl0 hf
    subst hz
    exact k_iret (v := u 10 0 1) X hU hS hr hlk rfl rfl dX10_capsule_67
  replace hf := k_ifN hf c1_1
  by_cases c1_2 : a1 = 2
  · replace hf := k_ifP hf c1_2
    refine lv_tableIn (x := a1) (off := 67) (tgt := 68) X.1 X.2.1 dX10_capsule_1 (by rw [c1_2]; decide) (by rw [c1_2]; decide) (by rw [c1_2]; rfl) (by decide) ?_
    refine lv_aload_n X.1 X.2.1 dX10_capsule_68 rfl (lv_at hl 0 rfl) ?_
    refine k_get (v := .ref (ad 10 0)) X hU sh_0_0 fl_X10_33 rfl dX10_capsule_69 ?_
    refine k_get (v := .int (u 10 0 2)) X hU (sW_0 k_isW_10) fl_X10_159 rfl dX10_capsule_72 ?_
    have hz := k_injl0 hf
    subst hz
    exact k_iret (v := u 10 0 2) X hU hS hr hlk rfl rfl dX10_capsule_75
  replace hf := k_ifN hf c1_2
  by_cases c1_3 : a1 = 3
  · replace hf := k_ifP hf c1_3
    refine lv_tableIn (x := a1) (off := 75) (tgt := 76) X.1 X.2.1 dX10_capsule_1 (by rw [c1_3]; decide) (by rw [c1_3]; decide) (by rw [c1_3]; rfl) (by decide) ?_
    refine lv_aload_n X.1 X.2.1 dX10_capsule_76 rfl (lv_at hl 0 rfl) ?_
    refine k_get (v := .ref (ad 10 0)) X hU sh_0_0 fl_X10_33 rfl dX10_capsule_77 ?_
    refine k_get (v := .int (u 10 0 3)) X hU (sW_0 k_isW_10) fl_X10_162 rfl dX10_capsule_80 ?_
    have hz := k_injl0 hf
    subst hz
    exact k_iret (v := u 10 0 3) X hU hS hr hlk rfl rfl dX10_capsule_83
  replace hf := k_ifN hf c1_3
  by_cases c1_4 : a1 = 4
  · replace hf := k_ifP hf c1_4
    refine lv_tableIn (x := a1) (off := 83) (tgt := 84) X.1 X.2.1 dX10_capsule_1 (by rw [c1_4]; decide) (by rw [c1_4]; decide) (by rw [c1_4]; rfl) (by decide) ?_
    refine lv_aload_n X.1 X.2.1 dX10_capsule_84 rfl (lv_at hl 0 rfl) ?_
    refine k_get (v := .ref (ad 10 0)) X hU sh_0_0 fl_X10_33 rfl dX10_capsule_85 ?_
    refine k_get (v := .int (u 10 0 4)) X hU (sW_0 k_isW_10) fl_X10_165 rfl dX10_capsule_88 ?_
    have hz := k_injl0 hf
    subst hz
    exact k_iret (v := u 10 0 4) X hU hS hr hlk rfl rfl dX10_capsule_91
  replace hf := k_ifN hf c1_4
  by_cases c1_5 : a1 = 5
  · replace hf := k_ifP hf c1_5
    refine lv_tableIn (x := a1) (off := 91) (tgt := 92) X.1 X.2.1 dX10_capsule_1 (by rw [c1_5]; decide) (by rw [c1_5]; decide) (by rw [c1_5]; rfl) (by decide) ?_
    refine lv_aload_n X.1 X.2.1 dX10_capsule_92 rfl (lv_at hl 0 rfl) ?_
    refine k_get (v := .ref (ad 10 0)) X hU sh_0_0 fl_X10_33 rfl dX10_capsule_93 ?_
    refine k_get (v := .int (u 10 0 5)) X hU (sW_0 k_isW_10) fl_X10_168 rfl dX10_capsule_96 ?_
    have hz := k_injl0 hf
    subst hz
    exact k_iret (v := u 10 0 5) X hU hS hr hlk rfl rfl dX10_capsule_99
  replace hf := k_ifN hf c1_5
  by_cases c1_6 : a1 = 6
  · replace hf := k_ifP hf c1_6
    refine lv_tableIn (x := a1) (off := 99) (tgt := 100) X.1 X.2.1 dX10_capsule_1 (by rw [c1_6]; decide) (by rw [c1_6]; decide) (by rw [c1_6]; rfl) (by decide) ?_
    refine lv_aload_n X.1 X.2.1 dX10_capsule_100 rfl (lv_at hl 0 rfl) ?_
    refine k_get (v := .ref (ad 10 0)) X hU sh_0_0 fl_X10_33 rfl dX10_capsule_101 ?_
    refine k_get (v := .int (u 10 0 6)) X hU (sW_0 k_isW_10) fl_X10_171 rfl dX10_capsule_104 ?_
    have hz := k_injl0 hf
    subst hz
    exact k_iret (v := u 10 0 6) X hU hS hr hlk rfl rfl dX10_capsule_107
  replace hf := k_ifN hf c1_6
  by_cases c1_7 : a1 = 7
  · replace hf := k_ifP hf c1_7
    refine lv_tableIn (x := a1) (off := 107) (tgt := 108) X.1 X.2.1 dX10_capsule_1 (by rw [c1_7]; decide) (by rw [c1_7]; decide) (by rw [c1_7]; rfl) (by decide) ?_
    refine lv_aload_n X.1 X.2.1 dX10_capsule_108 rfl (lv_at hl 0 rfl) ?_
    refine k_get (v := .ref (ad 10 0)) X hU sh_0_0 fl_X10_33 rfl dX10_capsule_109 ?_
    obtain ⟨r112, hr112, hf⟩ := k_bdE hf
    refine k_backi X hS (k_runV (As := []) (rest := []) X hS hU (sW_0 k_isW_10) (by decide) rfl vl_X10_174 (c_X9_air X.2.2.2.2.2.2.1 k_isW_10 rfl hr112) rfl rfl rfl hl.1 ⟨Nat.le_of_ble_eq_true rfl, Nat.le_of_ble_eq_true rfl⟩ (Nat.le_of_ble_eq_true rfl) dX10_capsule_112 ⟨Nat.zero_le _, Nat.zero_le _⟩) (fun H locs hU hS => ?_)
    have hz := k_injl0 hf
    subst hz
    exact k_iret (v := r112) X hU hS hr hlk rfl rfl dX10_capsule_115
  replace hf := k_ifN hf c1_7
  by_cases c1_8 : a1 = 8
  · replace hf := k_ifP hf c1_8
    refine lv_tableIn (x := a1) (off := 115) (tgt := 116) X.1 X.2.1 dX10_capsule_1 (by rw [c1_8]; decide) (by rw [c1_8]; decide) (by rw [c1_8]; rfl) (by decide) ?_
    refine lv_aload_n X.1 X.2.1 dX10_capsule_116 rfl (lv_at hl 0 rfl) ?_
    refine k_get (v := .ref (ad 10 0)) X hU sh_0_0 fl_X10_33 rfl dX10_capsule_117 ?_
    obtain ⟨r120, hr120, hf⟩ := k_bdE hf
    refine k_backi X hS (k_runV (As := []) (rest := []) X hS hU (sW_0 k_isW_10) (by decide) rfl vl_X10_177 (c_X9_landingResult X.2.2.2.2.2.2.1 k_isW_10 rfl hr120) rfl rfl rfl hl.1 ⟨Nat.le_of_ble_eq_true rfl, Nat.le_of_ble_eq_true rfl⟩ (Nat.le_of_ble_eq_true rfl) dX10_capsule_120 ⟨Nat.zero_le _, Nat.zero_le _⟩) (fun H locs hU hS => ?_)
    have hz := k_injl0 hf
    subst hz
    exact k_iret (v := r120) X hU hS hr hlk rfl rfl dX10_capsule_123
  replace hf := k_ifN hf c1_8
  have ho1 : (a1).toInt < 0 ∨ 8 < (a1).toInt := by
    have g0 := k_tne (n := 0) (z := 0) c1_0 (by decide)
    have g1 := k_tne (n := 1) (z := 1) c1_1 (by decide)
    have g2 := k_tne (n := 2) (z := 2) c1_2 (by decide)
    have g3 := k_tne (n := 3) (z := 3) c1_3 (by decide)
    have g4 := k_tne (n := 4) (z := 4) c1_4 (by decide)
    have g5 := k_tne (n := 5) (z := 5) c1_5 (by decide)
    have g6 := k_tne (n := 6) (z := 6) c1_6 (by decide)
    have g7 := k_tne (n := 7) (z := 7) c1_7 (by decide)
    have g8 := k_tne (n := 8) (z := 8) c1_8 (by decide)
    omega
  refine lv_tableOut (x := a1) (tgt := 124) X.1 X.2.1 dX10_capsule_1 ho1 (by decide) ?_
  exact absurd hf k_ninl0
def rx_X10_capsule : Room := { frames := 6, cells := 1, slots := 6, locals := 90 }
set_option maxRecDepth 100000 in
set_option maxHeartbeats 4000000 in
theorem x_X10_capsule {l : Launch} {D : va_G} {G : Nat → ClassId} {ad : Nat → Nat → Nat} {u : k_U} (hI : k_ok ad) (hlT : l.stackTraces = false) {a1 : Int32} {sz : Nat} {j : Nat} (hf : f_X10_capsule u a1 = some (Sum.inr j)) : vx_Met l yX10_capsule (.code yX10_capsule cX10_capsule 2 (some .int) :: lw_g) rx_X10_capsule (k_Pre D G ad u sz [.ref (ad 0 0), .int a1]) (k_Qn ad sz) (k_XC D G ad u j sz) 1 6 (k_A ad sz) := by
  refine k_xofW (by decide +kernel) hI (Nat.le_of_ble_eq_true rfl) ?_
  intro p e s m args below meth c X hr hlk hex hU hS ls hl
  have hl : lv_has ls 2 [(0, .ref (ad 0 0)), (1, .int a1)] := hl
  unfold f_X10_capsule at hf
  refine lv_iload_n X.1 X.2.1 dX10_capsule_0 rfl (lv_at hl 1 rfl) ?_
  by_cases c1_0 : a1 = 0
  · replace hf := k_ifP hf c1_0
    refine lv_tableIn (x := a1) (off := 51) (tgt := 52) X.1 X.2.1 dX10_capsule_1 (by rw [c1_0]; decide) (by rw [c1_0]; decide) (by rw [c1_0]; rfl) (by decide) ?_
    refine lv_aload_n X.1 X.2.1 dX10_capsule_52 rfl (lv_at hl 0 rfl) ?_
    refine k_get (v := .ref (ad 10 0)) X hU sh_0_0 fl_X10_33 rfl dX10_capsule_53 ?_
    refine k_get (v := .int (u 10 0 0)) X hU (sW_0 k_isW_10) fl_X10_153 rfl dX10_capsule_56 ?_
    exact absurd hf k_ninr0
  replace hf := k_ifN hf c1_0
  by_cases c1_1 : a1 = 1
  · replace hf := k_ifP hf c1_1
    refine lv_tableIn (x := a1) (off := 59) (tgt := 60) X.1 X.2.1 dX10_capsule_1 (by rw [c1_1]; decide) (by rw [c1_1]; decide) (by rw [c1_1]; rfl) (by decide) ?_
    refine lv_aload_n X.1 X.2.1 dX10_capsule_60 rfl (lv_at hl 0 rfl) ?_
    refine k_get (v := .ref (ad 10 0)) X hU sh_0_0 fl_X10_33 rfl dX10_capsule_61 ?_
    refine k_get (v := .int (u 10 0 1)) X hU (sW_0 k_isW_10) fl_X10_156 rfl dX10_capsule_64 ?_
    exact absurd hf k_ninr0
  replace hf := k_ifN hf c1_1
  by_cases c1_2 : a1 = 2
  · replace hf := k_ifP hf c1_2
    refine lv_tableIn (x := a1) (off := 67) (tgt := 68) X.1 X.2.1 dX10_capsule_1 (by rw [c1_2]; decide) (by rw [c1_2]; decide) (by rw [c1_2]; rfl) (by decide) ?_
    refine lv_aload_n X.1 X.2.1 dX10_capsule_68 rfl (lv_at hl 0 rfl) ?_
    refine k_get (v := .ref (ad 10 0)) X hU sh_0_0 fl_X10_33 rfl dX10_capsule_69 ?_
    refine k_get (v := .int (u 10 0 2)) X hU (sW_0 k_isW_10) fl_X10_159 rfl dX10_capsule_72 ?_
    exact absurd hf k_ninr0
  replace hf := k_ifN hf c1_2
  by_cases c1_3 : a1 = 3
  · replace hf := k_ifP hf c1_3
    refine lv_tableIn (x := a1) (off := 75) (tgt := 76) X.1 X.2.1 dX10_capsule_1 (by rw [c1_3]; decide) (by rw [c1_3]; decide) (by rw [c1_3]; rfl) (by decide) ?_
    refine lv_aload_n X.1 X.2.1 dX10_capsule_76 rfl (lv_at hl 0 rfl) ?_
    refine k_get (v := .ref (ad 10 0)) X hU sh_0_0 fl_X10_33 rfl dX10_capsule_77 ?_
    refine k_get (v := .int (u 10 0 3)) X hU (sW_0 k_isW_10) fl_X10_162 rfl dX10_capsule_80 ?_
    exact absurd hf k_ninr0
  replace hf := k_ifN hf c1_3
  by_cases c1_4 : a1 = 4
  · replace hf := k_ifP hf c1_4
    refine lv_tableIn (x := a1) (off := 83) (tgt := 84) X.1 X.2.1 dX10_capsule_1 (by rw [c1_4]; decide) (by rw [c1_4]; decide) (by rw [c1_4]; rfl) (by decide) ?_
    refine lv_aload_n X.1 X.2.1 dX10_capsule_84 rfl (lv_at hl 0 rfl) ?_
    refine k_get (v := .ref (ad 10 0)) X hU sh_0_0 fl_X10_33 rfl dX10_capsule_85 ?_
    refine k_get (v := .int (u 10 0 4)) X hU (sW_0 k_isW_10) fl_X10_165 rfl dX10_capsule_88 ?_
    exact absurd hf k_ninr0
  replace hf := k_ifN hf c1_4
  by_cases c1_5 : a1 = 5
  · replace hf := k_ifP hf c1_5
    refine lv_tableIn (x := a1) (off := 91) (tgt := 92) X.1 X.2.1 dX10_capsule_1 (by rw [c1_5]; decide) (by rw [c1_5]; decide) (by rw [c1_5]; rfl) (by decide) ?_
    refine lv_aload_n X.1 X.2.1 dX10_capsule_92 rfl (lv_at hl 0 rfl) ?_
    refine k_get (v := .ref (ad 10 0)) X hU sh_0_0 fl_X10_33 rfl dX10_capsule_93 ?_
    refine k_get (v := .int (u 10 0 5)) X hU (sW_0 k_isW_10) fl_X10_168 rfl dX10_capsule_96 ?_
    exact absurd hf k_ninr0
  replace hf := k_ifN hf c1_5
  by_cases c1_6 : a1 = 6
  · replace hf := k_ifP hf c1_6
    refine lv_tableIn (x := a1) (off := 99) (tgt := 100) X.1 X.2.1 dX10_capsule_1 (by rw [c1_6]; decide) (by rw [c1_6]; decide) (by rw [c1_6]; rfl) (by decide) ?_
    refine lv_aload_n X.1 X.2.1 dX10_capsule_100 rfl (lv_at hl 0 rfl) ?_
    refine k_get (v := .ref (ad 10 0)) X hU sh_0_0 fl_X10_33 rfl dX10_capsule_101 ?_
    refine k_get (v := .int (u 10 0 6)) X hU (sW_0 k_isW_10) fl_X10_171 rfl dX10_capsule_104 ?_
    exact absurd hf k_ninr0
  replace hf := k_ifN hf c1_6
  by_cases c1_7 : a1 = 7
  · replace hf := k_ifP hf c1_7
    refine lv_tableIn (x := a1) (off := 107) (tgt := 108) X.1 X.2.1 dX10_capsule_1 (by rw [c1_7]; decide) (by rw [c1_7]; decide) (by rw [c1_7]; rfl) (by decide) ?_
    refine lv_aload_n X.1 X.2.1 dX10_capsule_108 rfl (lv_at hl 0 rfl) ?_
    refine k_get (v := .ref (ad 10 0)) X hU sh_0_0 fl_X10_33 rfl dX10_capsule_109 ?_
    obtain ⟨r112, hr112, hf⟩ := k_bdE hf
    refine k_backi X hS (k_runV (As := []) (rest := []) X hS hU (sW_0 k_isW_10) (by decide) rfl vl_X10_174 (c_X9_air X.2.2.2.2.2.2.1 k_isW_10 rfl hr112) rfl rfl rfl hl.1 ⟨Nat.le_of_ble_eq_true rfl, Nat.le_of_ble_eq_true rfl⟩ (Nat.le_of_ble_eq_true rfl) dX10_capsule_112 ⟨Nat.zero_le _, Nat.zero_le _⟩) (fun H locs hU hS => ?_)
    exact absurd hf k_ninr0
  replace hf := k_ifN hf c1_7
  by_cases c1_8 : a1 = 8
  · replace hf := k_ifP hf c1_8
    refine lv_tableIn (x := a1) (off := 115) (tgt := 116) X.1 X.2.1 dX10_capsule_1 (by rw [c1_8]; decide) (by rw [c1_8]; decide) (by rw [c1_8]; rfl) (by decide) ?_
    refine lv_aload_n X.1 X.2.1 dX10_capsule_116 rfl (lv_at hl 0 rfl) ?_
    refine k_get (v := .ref (ad 10 0)) X hU sh_0_0 fl_X10_33 rfl dX10_capsule_117 ?_
    obtain ⟨r120, hr120, hf⟩ := k_bdE hf
    refine k_backi X hS (k_runV (As := []) (rest := []) X hS hU (sW_0 k_isW_10) (by decide) rfl vl_X10_177 (c_X9_landingResult X.2.2.2.2.2.2.1 k_isW_10 rfl hr120) rfl rfl rfl hl.1 ⟨Nat.le_of_ble_eq_true rfl, Nat.le_of_ble_eq_true rfl⟩ (Nat.le_of_ble_eq_true rfl) dX10_capsule_120 ⟨Nat.zero_le _, Nat.zero_le _⟩) (fun H locs hU hS => ?_)
    exact absurd hf k_ninr0
  replace hf := k_ifN hf c1_8
  have ho1 : (a1).toInt < 0 ∨ 8 < (a1).toInt := by
    have g0 := k_tne (n := 0) (z := 0) c1_0 (by decide)
    have g1 := k_tne (n := 1) (z := 1) c1_1 (by decide)
    have g2 := k_tne (n := 2) (z := 2) c1_2 (by decide)
    have g3 := k_tne (n := 3) (z := 3) c1_3 (by decide)
    have g4 := k_tne (n := 4) (z := 4) c1_4 (by decide)
    have g5 := k_tne (n := 5) (z := 5) c1_5 (by decide)
    have g6 := k_tne (n := 6) (z := 6) c1_6 (by decide)
    have g7 := k_tne (n := 7) (z := 7) c1_7 (by decide)
    have g8 := k_tne (n := 8) (z := 8) c1_8 (by decide)
    omega
  refine lv_tableOut (x := a1) (tgt := 124) X.1 X.2.1 dX10_capsule_1 ho1 (by decide) ?_
  have hz := k_injr0 hf
  subst hz
  exact k_thrS X hlT hU hS (i := 34) rfl xw_180 (by decide +kernel) rfl hl.1 dX10_capsule_124 dX10_capsule_127 dX10_capsule_128 dX10_capsule_130 dX10_capsule_133 hex (Nat.le_of_ble_eq_true rfl) (Nat.le_of_ble_eq_true rfl) ⟨Nat.le_of_ble_eq_true rfl, Nat.le_of_ble_eq_true rfl⟩ hlk ⟨Nat.le_of_ble_eq_true rfl, Nat.le_of_ble_eq_true rfl⟩
def rm_X9_countLines : Room := { frames := 2, cells := 0, slots := 0, locals := 42 }
set_option maxRecDepth 100000 in
set_option maxHeartbeats 4000000 in
theorem c_X9_countLines {l : Launch} {D : va_G} {G : Nat → ClassId} {ad : Nat → Nat → Nat} {u : k_U} (hI : k_ok ad) {k : Nat} (hk : k_isW k) {w : k_M} (hw : u k = w) {a1 : Int32} {sz : Nat} {r : Int32} (hf : f_X9_countLines w a1 = some r) : Met l yX9_countLines (.code yX9_countLines cX9_countLines 8 (some .int) :: lw_g) rm_X9_countLines (k_Pre D G ad u sz [.ref (ad k 0), .int a1]) (k_Qi D G ad u r sz) 0 0 (k_A ad sz) := by
  refine k_ofW (by decide +kernel) hI (Nat.le_of_ble_eq_true rfl) ?_
  intro p e s m args below meth c X hr hlk hU hS ls hl
  have hl : lv_has ls 8 [(0, .ref (ad k 0)), (1, .int a1)] := hl
  have hU : k_Uv D G ad (k_uc u k w) s.heap := by rw [← hw, k_uc_id]; exact hU
  have L16 : ∀ (n16 : Nat) (H : Heap) (locs : List Loc) (ls : Array Slot) (a1 : Int32) (a2 : Int32) (a3 : Int32) (a4 : Int32) (a5 : Int32) (a6 : Int32), k_Uv D G ad (k_uc u k w) H → va_S (k_A ad sz) s.heap H locs → lv_has ls 8 [(0, .ref (ad k 0)), (1, .int a1), (2, .int a2), (3, .int a3), (4, .int a4), (5, .int a5), (6, .int a6)] → f_X9_countLines_16 n16 w a1 a2 a3 a4 a5 a6 = some r → W p l e rm_X9_countLines s m args below meth c H locs 0 0 (MQ below (k_Qi D G ad u r sz) args s 0 0 (k_A ad sz)) (F0 m 16 ls []) := by
    intro n16
    induction n16 with
    | zero =>
      intro H locs ls a1 a2 a3 a4 a5 a6 hU hS hl hf
      cases (show none = some r from hf)
    | succ n16 ih16 =>
      have J66 : ∀ (H : Heap) (locs : List Loc) (ls : Array Slot) (a1 : Int32) (a2 : Int32) (a3 : Int32) (a4 : Int32) (a5 : Int32) (a6 : Int32), k_Uv D G ad (k_uc u k w) H → va_S (k_A ad sz) s.heap H locs → lv_has ls 8 [(0, .ref (ad k 0)), (1, .int a1), (2, .int a2), (3, .int a3), (4, .int a4), (5, .int a5), (6, .int a6)] → f_X9_countLines_66 (f_X9_countLines_16 n16) w a1 a2 a3 a4 a5 a6 = some r → W p l e rm_X9_countLines s m args below meth c H locs 0 0 (MQ below (k_Qi D G ad u r sz) args s 0 0 (k_A ad sz)) (F0 m 66 ls []) := by
        intro H locs ls a1 a2 a3 a4 a5 a6 hU hS hl hf
        unfold f_X9_countLines_66 at hf
        obtain ⟨x66, e66, hf⟩ := k_ltE hf
        refine lv_iinc (v := x66) (lv' := [(6, .int x66), (0, .ref (ad k 0)), (1, .int a1), (2, .int a2), (3, .int a3), (4, .int a4), (5, .int a5)]) X.1 X.2.1 dX9_countLines_66 hl (k := 6) rfl (by rw [e66]; rfl) (by decide) rfl (fun ls hl => ?_)
        refine lv_goto (tgt := 16) X.1 X.2.1 dX9_countLines_69 (by decide) ?_
        exact ih16 _ _ _ a1 a2 a3 a4 a5 x66 hU hS (lv_sub hl [1, 2, 3, 4, 5, 6, 0] rfl) hf
      intro H locs ls a1 a2 a3 a4 a5 a6 hU hS hl hf
      replace hf : f_X9_countLines_16_b (f_X9_countLines_16 n16) w a1 a2 a3 a4 a5 a6 = some r := hf
      unfold f_X9_countLines_16_b at hf
      refine lv_iload X.1 X.2.1 dX9_countLines_16 (lv_at hl 6 rfl) ?_
      refine lv_iload X.1 X.2.1 dX9_countLines_18 (lv_at hl 5 rfl) ?_
      refine lv_icmp_ge (tgt := 72) X.1 X.2.1 dX9_countLines_20 (by decide) (fun c20 => ?_) (fun c20 => ?_)
      · replace hf := k_ifP hf c20
        refine lv_iload_n X.1 X.2.1 dX9_countLines_72 rfl (lv_at hl 1 rfl) ?_
        by_cases c73_10 : a1 = 10
        · replace hf := k_ifP hf c73_10
          refine lv_tableIn (x := a1) (off := 27) (tgt := 100) X.1 X.2.1 dX9_countLines_73 (by rw [c73_10]; decide) (by rw [c73_10]; decide) (by rw [c73_10]; rfl) (by decide) ?_
          refine lv_iload_n X.1 X.2.1 dX9_countLines_100 rfl (lv_at hl 2 rfl) ?_
          rw [← hw, k_uc_id] at hU
          have hz := Option.some.inj hf
          subst hz
          exact k_iret (v := a2) X hU hS hr hlk rfl rfl dX9_countLines_101
        replace hf := k_ifN hf c73_10
        by_cases c73_11 : a1 = 11
        · replace hf := k_ifP hf c73_11
          refine lv_tableIn (x := a1) (off := 29) (tgt := 102) X.1 X.2.1 dX9_countLines_73 (by rw [c73_11]; decide) (by rw [c73_11]; decide) (by rw [c73_11]; rfl) (by decide) ?_
          refine lv_iload_n X.1 X.2.1 dX9_countLines_102 rfl (lv_at hl 2 rfl) ?_
          refine lv_iload_n X.1 X.2.1 dX9_countLines_103 rfl (lv_at hl 3 rfl) ?_
          refine lv_isub X.1 X.2.1 dX9_countLines_104 ?_
          refine lv_iload X.1 X.2.1 dX9_countLines_105 (lv_at hl 4 rfl) ?_
          refine lv_isub X.1 X.2.1 dX9_countLines_107 ?_
          rw [← hw, k_uc_id] at hU
          have hz := Option.some.inj hf
          subst hz
          exact k_iret (v := ((a2 - a3) - a4)) X hU hS hr hlk rfl rfl dX9_countLines_108
        replace hf := k_ifN hf c73_11
        by_cases c73_12 : a1 = 12
        · replace hf := k_ifP hf c73_12
          refine lv_tableIn (x := a1) (off := 36) (tgt := 109) X.1 X.2.1 dX9_countLines_73 (by rw [c73_12]; decide) (by rw [c73_12]; decide) (by rw [c73_12]; rfl) (by decide) ?_
          refine lv_iload_n X.1 X.2.1 dX9_countLines_109 rfl (lv_at hl 3 rfl) ?_
          rw [← hw, k_uc_id] at hU
          have hz := Option.some.inj hf
          subst hz
          exact k_iret (v := a3) X hU hS hr hlk rfl rfl dX9_countLines_110
        replace hf := k_ifN hf c73_12
        have ho73 : (a1).toInt < 10 ∨ 12 < (a1).toInt := by
          have g10 := k_tne (n := 10) (z := 10) c73_10 (by decide)
          have g11 := k_tne (n := 11) (z := 11) c73_11 (by decide)
          have g12 := k_tne (n := 12) (z := 12) c73_12 (by decide)
          omega
        refine lv_tableOut (x := a1) (tgt := 111) X.1 X.2.1 dX9_countLines_73 ho73 (by decide) ?_
        refine lv_iload X.1 X.2.1 dX9_countLines_111 (lv_at hl 4 rfl) ?_
        rw [← hw, k_uc_id] at hU
        have hz := Option.some.inj hf
        subst hz
        exact k_iret (v := a4) X hU hS hr hlk rfl rfl dX9_countLines_113
      · replace hf := k_ifN hf c20
        refine lv_aload_n X.1 X.2.1 dX9_countLines_23 rfl (lv_at hl 0 rfl) ?_
        refine lv_iload X.1 X.2.1 dX9_countLines_24 (lv_at hl 6 rfl) ?_
        obtain ⟨r26, hr26, hf⟩ := k_bdE hf
        refine k_backr X hS (k_runV (As := [.int a6]) (rest := []) X hS hU (sW_0 hk) (by decide) rfl vl_X9_116 (c_X9_chuteAt X.2.2.2.2.2.2.1 hk (k_uc_s _ _ _) hr26) rfl rfl rfl hl.1 ⟨Nat.le_of_ble_eq_true rfl, Nat.le_of_ble_eq_true rfl⟩ (Nat.le_of_ble_eq_true rfl) dX9_countLines_26 ⟨Nat.zero_le _, Nat.zero_le _⟩) (fun H locs hU hS => ?_)
        obtain ⟨hi26, hf⟩ := k_ckE hf
        refine lv_astore (lv' := [(7, .ref (ad k r26)), (0, .ref (ad k 0)), (1, .int a1), (2, .int a2), (3, .int a3), (4, .int a4), (5, .int a5), (6, .int a6)]) X.1 X.2.1 dX9_countLines_29 hl (by decide) rfl (fun ls hl => ?_)
        refine lv_iload_n X.1 X.2.1 dX9_countLines_31 rfl (lv_at hl 3 rfl) ?_
        refine lv_aload X.1 X.2.1 dX9_countLines_32 (lv_at hl 0 rfl) ?_
        refine k_getw (v := .int (w r26 1)) X hU (k_sC hk hi26) fl_X9_130 rfl dX9_countLines_34 ?_
        refine lv_iadd X.1 X.2.1 dX9_countLines_37 ?_
        obtain ⟨x38, e38, hf⟩ := k_ltE hf
        refine k_nmi e38 ?_
        refine lv_istore_n (lv' := [(2, .int x38), (7, .ref (ad k r26)), (0, .ref (ad k 0)), (1, .int a1), (3, .int a3), (4, .int a4), (5, .int a5), (6, .int a6)]) X.1 X.2.1 dX9_countLines_38 rfl hl (by decide) rfl (fun ls hl => ?_)
        refine lv_iload_n X.1 X.2.1 dX9_countLines_39 rfl (lv_at hl 4 rfl) ?_
        refine lv_aload X.1 X.2.1 dX9_countLines_40 (lv_at hl 1 rfl) ?_
        refine k_getw (v := .int (w r26 7)) X hU (k_sC hk hi26) fl_X9_133 rfl dX9_countLines_42 ?_
        refine lv_iadd X.1 X.2.1 dX9_countLines_45 ?_
        obtain ⟨x46, e46, hf⟩ := k_ltE hf
        refine k_nmi e46 ?_
        refine lv_istore_n (lv' := [(3, .int x46), (2, .int x38), (7, .ref (ad k r26)), (0, .ref (ad k 0)), (1, .int a1), (4, .int a4), (5, .int a5), (6, .int a6)]) X.1 X.2.1 dX9_countLines_46 rfl hl (by decide) rfl (fun ls hl => ?_)
        refine lv_aload X.1 X.2.1 dX9_countLines_47 (lv_at hl 2 rfl) ?_
        refine k_getw (v := .int (w r26 5)) X hU (k_sC hk hi26) fl_X9_120 rfl dX9_countLines_49 ?_
        refine lv_iconst (v := 4) X.1 X.2.1 dX9_countLines_52 (by decide) ?_
        refine lv_icmp_ne (tgt := 66) X.1 X.2.1 dX9_countLines_53 (by decide) (fun c53 => ?_) (fun c53 => ?_)
        · replace hf := k_ifN hf c53
          exact J66 _ _ _ a1 x38 x46 a4 a5 a6 hU hS (lv_sub hl [3, 4, 1, 0, 5, 6, 7] rfl) hf
        · replace hf := k_ifP hf c53
          refine lv_iload X.1 X.2.1 dX9_countLines_56 (lv_at hl 5 rfl) ?_
          refine lv_aload X.1 X.2.1 dX9_countLines_58 (lv_at hl 2 rfl) ?_
          obtain ⟨r60, hr60, hf⟩ := k_bdE hf
          refine k_backi X hS (k_runV (As := []) (rest := [.int a4]) X hS hU (k_sC hk hi26) (by decide) rfl vl_X9_136 (c_X0_linesThere X.2.2.2.2.2.2.1 hk (k_uc_s _ _ _) hi26 hr60) rfl rfl rfl hl.1 ⟨Nat.le_of_ble_eq_true rfl, Nat.le_of_ble_eq_true rfl⟩ (Nat.le_of_ble_eq_true rfl) dX9_countLines_60 ⟨Nat.zero_le _, Nat.zero_le _⟩) (fun H locs hU hS => ?_)
          refine lv_iadd X.1 X.2.1 dX9_countLines_63 ?_
          obtain ⟨x64, e64, hf⟩ := k_ltE hf
          refine k_nmi e64 ?_
          refine lv_istore (lv' := [(4, .int x64), (3, .int x46), (2, .int x38), (7, .ref (ad k r26)), (0, .ref (ad k 0)), (1, .int a1), (5, .int a5), (6, .int a6)]) X.1 X.2.1 dX9_countLines_64 hl (by decide) rfl (fun ls hl => ?_)
          exact J66 _ _ _ a1 x38 x46 x64 a5 a6 hU hS (lv_sub hl [4, 5, 2, 1, 0, 6, 7] rfl) hf
  unfold f_X9_countLines at hf
  refine lv_iconst (v := 0) X.1 X.2.1 dX9_countLines_0 (by decide) ?_
  refine lv_istore_n (lv' := [(2, .int 0), (0, .ref (ad k 0)), (1, .int a1)]) X.1 X.2.1 dX9_countLines_1 rfl hl (by decide) rfl (fun ls hl => ?_)
  refine lv_iconst (v := 0) X.1 X.2.1 dX9_countLines_2 (by decide) ?_
  refine lv_istore_n (lv' := [(3, .int 0), (2, .int 0), (0, .ref (ad k 0)), (1, .int a1)]) X.1 X.2.1 dX9_countLines_3 rfl hl (by decide) rfl (fun ls hl => ?_)
  refine lv_iconst (v := 0) X.1 X.2.1 dX9_countLines_4 (by decide) ?_
  refine lv_istore (lv' := [(4, .int 0), (3, .int 0), (2, .int 0), (0, .ref (ad k 0)), (1, .int a1)]) X.1 X.2.1 dX9_countLines_5 hl (by decide) rfl (fun ls hl => ?_)
  refine lv_aload_n X.1 X.2.1 dX9_countLines_7 rfl (lv_at hl 3 rfl) ?_
  obtain ⟨r8, hr8, hf⟩ := k_bdE hf
  refine k_backi X hS (k_runV (As := []) (rest := []) X hS hU (sW_0 hk) (by decide) rfl vl_X9_104 (c_X9_chuteCount X.2.2.2.2.2.2.1 hk (k_uc_s _ _ _) hr8) rfl rfl rfl hl.1 ⟨Nat.le_of_ble_eq_true rfl, Nat.le_of_ble_eq_true rfl⟩ (Nat.le_of_ble_eq_true rfl) dX9_countLines_8 ⟨Nat.zero_le _, Nat.zero_le _⟩) (fun H locs hU hS => ?_)
  refine lv_istore (lv' := [(5, .int r8), (4, .int 0), (3, .int 0), (2, .int 0), (0, .ref (ad k 0)), (1, .int a1)]) X.1 X.2.1 dX9_countLines_11 hl (by decide) rfl (fun ls hl => ?_)
  refine lv_iconst (v := 0) X.1 X.2.1 dX9_countLines_13 (by decide) ?_
  refine lv_istore (lv' := [(6, .int 0), (5, .int r8), (4, .int 0), (3, .int 0), (2, .int 0), (0, .ref (ad k 0)), (1, .int a1)]) X.1 X.2.1 dX9_countLines_14 hl (by decide) rfl (fun ls hl => ?_)
  exact L16 k_N _ _ _ a1 0 0 0 r8 0 hU hS (lv_sub hl [5, 6, 4, 3, 2, 1, 0] rfl) hf
def rm_X10_size : Room := { frames := 3, cells := 0, slots := 0, locals := 69 }
set_option maxRecDepth 100000 in
set_option maxHeartbeats 4000000 in
theorem c_X10_size {l : Launch} {D : va_G} {G : Nat → ClassId} {ad : Nat → Nat → Nat} {u : k_U} (hI : k_ok ad) {a1 : Int32} {sz : Nat} {r2 : Int32} (hf : f_X10_size u a1 = some (Sum.inl r2)) : Met l yX10_size (.code yX10_size cX10_size 2 (some .int) :: lw_g) rm_X10_size (k_Pre D G ad u sz [.ref (ad 0 0), .int a1]) (k_Qi D G ad u r2 sz) 0 0 (k_A ad sz) := by
  refine k_ofW (by decide +kernel) hI (Nat.le_of_ble_eq_true rfl) ?_
  intro p e s m args below meth c X hr hlk hU hS ls hl
  have hl : lv_has ls 2 [(0, .ref (ad 0 0)), (1, .int a1)] := hl
  have J10 : ∀ (H : Heap) (locs : List Loc) (ls : Array Slot), k_Uv D G ad u H → va_S (k_A ad sz) s.heap H locs → lv_has ls 2 [] → f_X10_size_10 u a1 = some (Sum.inl r2) → W p l e rm_X10_size s m args below meth c H locs 0 0 (MQ below (k_Qi D G ad u r2 sz) args s 0 0 (k_A ad sz)) (F0 m 10 ls []) := by
    intro H locs ls hU hS hl hf
    unfold f_X10_size_10 at hf
    exact absurd hf k_ninl0
  unfold f_X10_size at hf
  refine lv_iload_n X.1 X.2.1 dX10_size_0 rfl (lv_at hl 1 rfl) ?_
  refine lv_if_lt (tgt := 10) X.1 X.2.1 dX10_size_1 (by decide) (fun c1 => ?_) (fun c1 => ?_)
  · replace hf := k_ifP hf c1
    exact J10 _ _ _ hU hS (lv_sub hl [] rfl) hf
  · replace hf := k_ifN hf c1
    refine lv_iload_n X.1 X.2.1 dX10_size_4 rfl (lv_at hl 1 rfl) ?_
    refine lv_bipush (v := 15) X.1 X.2.1 dX10_size_5 (by decide) ?_
    refine lv_icmp_le (tgt := 20) X.1 X.2.1 dX10_size_7 (by decide) (fun c7 => ?_) (fun c7 => ?_)
    · replace hf := k_ifP hf c7
      refine lv_iload_n X.1 X.2.1 dX10_size_20 rfl (lv_at hl 1 rfl) ?_
      by_cases c21_0 : a1 = 0
      · replace hf := k_ifP hf c21_0
        refine lv_tableIn (x := a1) (off := 79) (tgt := 100) X.1 X.2.1 dX10_size_21 (by rw [c21_0]; decide) (by rw [c21_0]; decide) (by rw [c21_0]; rfl) (by decide) ?_
        refine lv_aload_n X.1 X.2.1 dX10_size_100 rfl (lv_at hl 0 rfl) ?_
        refine k_get (v := .ref (ad 10 0)) X hU sh_0_0 fl_X10_33 rfl dX10_size_101 ?_
        refine k_get (v := .int (u 10 0 10)) X hU (sW_0 k_isW_10) fl_X10_113 rfl dX10_size_104 ?_
        have hz := k_injl0 hf
        subst hz
        exact k_iret (v := u 10 0 10) X hU hS hr hlk rfl rfl dX10_size_107
      replace hf := k_ifN hf c21_0
      by_cases c21_1 : a1 = 1
      · replace hf := k_ifP hf c21_1
        refine lv_tableIn (x := a1) (off := 87) (tgt := 108) X.1 X.2.1 dX10_size_21 (by rw [c21_1]; decide) (by rw [c21_1]; decide) (by rw [c21_1]; rfl) (by decide) ?_
        refine lv_aload_n X.1 X.2.1 dX10_size_108 rfl (lv_at hl 0 rfl) ?_
        refine k_get (v := .ref (ad 10 0)) X hU sh_0_0 fl_X10_33 rfl dX10_size_109 ?_
        refine k_get (v := .int (u 10 0 11)) X hU (sW_0 k_isW_10) fl_X10_187 rfl dX10_size_112 ?_
        refine lv_if_eq (tgt := 122) X.1 X.2.1 dX10_size_115 (by decide) (fun c115 => ?_) (fun c115 => ?_)
        · replace hf := k_ifP hf c115
          refine lv_iconst (v := 0) X.1 X.2.1 dX10_size_122 (by decide) ?_
          have hz := k_injl0 hf
          subst hz
          exact k_iret (v := 0) X hU hS hr hlk rfl rfl dX10_size_123
        · replace hf := k_ifN hf c115
          refine lv_iconst (v := 1) X.1 X.2.1 dX10_size_118 (by decide) ?_
          refine lv_goto (tgt := 123) X.1 X.2.1 dX10_size_119 (by decide) ?_
          have hz := k_injl0 hf
          subst hz
          exact k_iret (v := 1) X hU hS hr hlk rfl rfl dX10_size_123
      replace hf := k_ifN hf c21_1
      by_cases c21_2 : a1 = 2
      · replace hf := k_ifP hf c21_2
        refine lv_tableIn (x := a1) (off := 103) (tgt := 124) X.1 X.2.1 dX10_size_21 (by rw [c21_2]; decide) (by rw [c21_2]; decide) (by rw [c21_2]; rfl) (by decide) ?_
        refine lv_aload_n X.1 X.2.1 dX10_size_124 rfl (lv_at hl 0 rfl) ?_
        refine k_get (v := .ref (ad 10 0)) X hU sh_0_0 fl_X10_33 rfl dX10_size_125 ?_
        refine k_get (v := .ref (ad 10 3)) X hU (sW_0 k_isW_10) fl_X10_191 rfl dX10_size_128 ?_
        refine k_get (v := .int (u 10 3 2)) X hU (k_sT k_isW_10 k_isT_3) fl_X10_195 rfl dX10_size_131 ?_
        have hz := k_injl0 hf
        subst hz
        exact k_iret (v := u 10 3 2) X hU hS hr hlk rfl rfl dX10_size_134
      replace hf := k_ifN hf c21_2
      by_cases c21_3 : a1 = 3
      · replace hf := k_ifP hf c21_3
        refine lv_tableIn (x := a1) (off := 114) (tgt := 135) X.1 X.2.1 dX10_size_21 (by rw [c21_3]; decide) (by rw [c21_3]; decide) (by rw [c21_3]; rfl) (by decide) ?_
        refine lv_aload_n X.1 X.2.1 dX10_size_135 rfl (lv_at hl 0 rfl) ?_
        refine k_get (v := .ref (ad 10 0)) X hU sh_0_0 fl_X10_33 rfl dX10_size_136 ?_
        refine k_get (v := .ref (ad 10 6)) X hU (sW_0 k_isW_10) fl_X10_198 rfl dX10_size_139 ?_
        refine k_get (v := .int (u 10 6 2)) X hU (k_sT k_isW_10 k_isT_6) fl_X10_195 rfl dX10_size_142 ?_
        have hz := k_injl0 hf
        subst hz
        exact k_iret (v := u 10 6 2) X hU hS hr hlk rfl rfl dX10_size_145
      replace hf := k_ifN hf c21_3
      by_cases c21_4 : a1 = 4
      · replace hf := k_ifP hf c21_4
        refine lv_tableIn (x := a1) (off := 125) (tgt := 146) X.1 X.2.1 dX10_size_21 (by rw [c21_4]; decide) (by rw [c21_4]; decide) (by rw [c21_4]; rfl) (by decide) ?_
        refine lv_aload_n X.1 X.2.1 dX10_size_146 rfl (lv_at hl 0 rfl) ?_
        refine k_get (v := .ref (ad 10 0)) X hU sh_0_0 fl_X10_33 rfl dX10_size_147 ?_
        refine k_get (v := .ref (ad 10 9)) X hU (sW_0 k_isW_10) fl_X10_201 rfl dX10_size_150 ?_
        refine k_get (v := .int (u 10 9 3)) X hU (sW_9 k_isW_10) fl_X10_205 rfl dX10_size_153 ?_
        have hz := k_injl0 hf
        subst hz
        exact k_iret (v := u 10 9 3) X hU hS hr hlk rfl rfl dX10_size_156
      replace hf := k_ifN hf c21_4
      by_cases c21_5 : a1 = 5
      · replace hf := k_ifP hf c21_5
        refine lv_tableIn (x := a1) (off := 136) (tgt := 157) X.1 X.2.1 dX10_size_21 (by rw [c21_5]; decide) (by rw [c21_5]; decide) (by rw [c21_5]; rfl) (by decide) ?_
        refine lv_aload_n X.1 X.2.1 dX10_size_157 rfl (lv_at hl 0 rfl) ?_
        refine k_get (v := .ref (ad 10 0)) X hU sh_0_0 fl_X10_33 rfl dX10_size_158 ?_
        refine k_get (v := .int (u 10 0 7)) X hU (sW_0 k_isW_10) fl_X10_208 rfl dX10_size_161 ?_
        have hz := k_injl0 hf
        subst hz
        exact k_iret (v := u 10 0 7) X hU hS hr hlk rfl rfl dX10_size_164
      replace hf := k_ifN hf c21_5
      by_cases c21_6 : a1 = 6
      · replace hf := k_ifP hf c21_6
        refine lv_tableIn (x := a1) (off := 144) (tgt := 165) X.1 X.2.1 dX10_size_21 (by rw [c21_6]; decide) (by rw [c21_6]; decide) (by rw [c21_6]; rfl) (by decide) ?_
        refine lv_aload_n X.1 X.2.1 dX10_size_165 rfl (lv_at hl 0 rfl) ?_
        refine k_get (v := .ref (ad 10 0)) X hU sh_0_0 fl_X10_33 rfl dX10_size_166 ?_
        obtain ⟨r169, hr169, hf⟩ := k_bdE hf
        refine k_backi X hS (k_runV (As := []) (rest := []) X hS hU (sW_0 k_isW_10) (by decide) rfl vl_X10_211 (c_X9_openChutes X.2.2.2.2.2.2.1 k_isW_10 rfl hr169) rfl rfl rfl hl.1 ⟨Nat.le_of_ble_eq_true rfl, Nat.le_of_ble_eq_true rfl⟩ (Nat.le_of_ble_eq_true rfl) dX10_size_169 ⟨Nat.zero_le _, Nat.zero_le _⟩) (fun H locs hU hS => ?_)
        have hz := k_injl0 hf
        subst hz
        exact k_iret (v := r169) X hU hS hr hlk rfl rfl dX10_size_172
      replace hf := k_ifN hf c21_6
      by_cases c21_7 : a1 = 7
      · replace hf := k_ifP hf c21_7
        refine lv_tableIn (x := a1) (off := 152) (tgt := 173) X.1 X.2.1 dX10_size_21 (by rw [c21_7]; decide) (by rw [c21_7]; decide) (by rw [c21_7]; rfl) (by decide) ?_
        refine lv_aload_n X.1 X.2.1 dX10_size_173 rfl (lv_at hl 0 rfl) ?_
        refine k_get (v := .ref (ad 10 0)) X hU sh_0_0 fl_X10_33 rfl dX10_size_174 ?_
        obtain ⟨r177, hr177, hf⟩ := k_bdE hf
        refine k_backi X hS (k_runV (As := []) (rest := []) X hS hU (sW_0 k_isW_10) (by decide) rfl vl_X10_214 (c_X9_failedLayers X.2.2.2.2.2.2.1 k_isW_10 rfl hr177) rfl rfl rfl hl.1 ⟨Nat.le_of_ble_eq_true rfl, Nat.le_of_ble_eq_true rfl⟩ (Nat.le_of_ble_eq_true rfl) dX10_size_177 ⟨Nat.zero_le _, Nat.zero_le _⟩) (fun H locs hU hS => ?_)
        have hz := k_injl0 hf
        subst hz
        exact k_iret (v := r177) X hU hS hr hlk rfl rfl dX10_size_180
      replace hf := k_ifN hf c21_7
      by_cases c21_8 : a1 = 8
      · replace hf := k_ifP hf c21_8
        refine lv_tableIn (x := a1) (off := 160) (tgt := 181) X.1 X.2.1 dX10_size_21 (by rw [c21_8]; decide) (by rw [c21_8]; decide) (by rw [c21_8]; rfl) (by decide) ?_
        refine lv_aload_n X.1 X.2.1 dX10_size_181 rfl (lv_at hl 0 rfl) ?_
        refine k_get (v := .ref (ad 10 0)) X hU sh_0_0 fl_X10_33 rfl dX10_size_182 ?_
        refine k_get (v := .ref (ad 10 13)) X hU (sW_0 k_isW_10) fl_X10_217 rfl dX10_size_185 ?_
        refine k_get (v := .int (u 10 13 2)) X hU (sW_13 k_isW_10) fl_X10_221 rfl dX10_size_188 ?_
        have hz := k_injl0 hf
        subst hz
        exact k_iret (v := u 10 13 2) X hU hS hr hlk rfl rfl dX10_size_191
      replace hf := k_ifN hf c21_8
      by_cases c21_9 : a1 = 9
      · replace hf := k_ifP hf c21_9
        refine lv_tableIn (x := a1) (off := 171) (tgt := 192) X.1 X.2.1 dX10_size_21 (by rw [c21_9]; decide) (by rw [c21_9]; decide) (by rw [c21_9]; rfl) (by decide) ?_
        refine lv_aload_n X.1 X.2.1 dX10_size_192 rfl (lv_at hl 0 rfl) ?_
        refine k_get (v := .ref (ad 4 0)) X hU sh_0_0 fl_X10_43 rfl dX10_size_193 ?_
        refine k_get (v := .int (u 4 0 2)) X hU sh_4_0 fl_X10_224 rfl dX10_size_196 ?_
        have hz := k_injl0 hf
        subst hz
        exact k_iret (v := u 4 0 2) X hU hS hr hlk rfl rfl dX10_size_199
      replace hf := k_ifN hf c21_9
      by_cases c21_10 : a1 = 10
      · replace hf := k_ifP hf c21_10
        refine lv_tableIn (x := a1) (off := 195) (tgt := 216) X.1 X.2.1 dX10_size_21 (by rw [c21_10]; decide) (by rw [c21_10]; decide) (by rw [c21_10]; rfl) (by decide) ?_
        refine lv_aload_n X.1 X.2.1 dX10_size_216 rfl (lv_at hl 0 rfl) ?_
        refine k_get (v := .ref (ad 10 0)) X hU sh_0_0 fl_X10_33 rfl dX10_size_217 ?_
        refine lv_iload_n X.1 X.2.1 dX10_size_220 rfl (lv_at hl 1 rfl) ?_
        obtain ⟨r221, hr221, hf⟩ := k_bdE hf
        refine k_backi X hS (k_runV (As := [.int a1]) (rest := []) X hS hU (sW_0 k_isW_10) (by decide) rfl vl_X10_231 (c_X9_countLines X.2.2.2.2.2.2.1 k_isW_10 rfl hr221) rfl rfl rfl hl.1 ⟨Nat.le_of_ble_eq_true rfl, Nat.le_of_ble_eq_true rfl⟩ (Nat.le_of_ble_eq_true rfl) dX10_size_221 ⟨Nat.zero_le _, Nat.zero_le _⟩) (fun H locs hU hS => ?_)
        have hz := k_injl0 hf
        subst hz
        exact k_iret (v := r221) X hU hS hr hlk rfl rfl dX10_size_224
      replace hf := k_ifN hf c21_10
      by_cases c21_11 : a1 = 11
      · replace hf := k_ifP hf c21_11
        refine lv_tableIn (x := a1) (off := 195) (tgt := 216) X.1 X.2.1 dX10_size_21 (by rw [c21_11]; decide) (by rw [c21_11]; decide) (by rw [c21_11]; rfl) (by decide) ?_
        refine lv_aload_n X.1 X.2.1 dX10_size_216 rfl (lv_at hl 0 rfl) ?_
        refine k_get (v := .ref (ad 10 0)) X hU sh_0_0 fl_X10_33 rfl dX10_size_217 ?_
        refine lv_iload_n X.1 X.2.1 dX10_size_220 rfl (lv_at hl 1 rfl) ?_
        obtain ⟨r221, hr221, hf⟩ := k_bdE hf
        refine k_backi X hS (k_runV (As := [.int a1]) (rest := []) X hS hU (sW_0 k_isW_10) (by decide) rfl vl_X10_231 (c_X9_countLines X.2.2.2.2.2.2.1 k_isW_10 rfl hr221) rfl rfl rfl hl.1 ⟨Nat.le_of_ble_eq_true rfl, Nat.le_of_ble_eq_true rfl⟩ (Nat.le_of_ble_eq_true rfl) dX10_size_221 ⟨Nat.zero_le _, Nat.zero_le _⟩) (fun H locs hU hS => ?_)
        have hz := k_injl0 hf
        subst hz
        exact k_iret (v := r221) X hU hS hr hlk rfl rfl dX10_size_224
      replace hf := k_ifN hf c21_11
      by_cases c21_12 : a1 = 12
      · replace hf := k_ifP hf c21_12
        refine lv_tableIn (x := a1) (off := 195) (tgt := 216) X.1 X.2.1 dX10_size_21 (by rw [c21_12]; decide) (by rw [c21_12]; decide) (by rw [c21_12]; rfl) (by decide) ?_
        refine lv_aload_n X.1 X.2.1 dX10_size_216 rfl (lv_at hl 0 rfl) ?_
        refine k_get (v := .ref (ad 10 0)) X hU sh_0_0 fl_X10_33 rfl dX10_size_217 ?_
        refine lv_iload_n X.1 X.2.1 dX10_size_220 rfl (lv_at hl 1 rfl) ?_
        obtain ⟨r221, hr221, hf⟩ := k_bdE hf
        refine k_backi X hS (k_runV (As := [.int a1]) (rest := []) X hS hU (sW_0 k_isW_10) (by decide) rfl vl_X10_231 (c_X9_countLines X.2.2.2.2.2.2.1 k_isW_10 rfl hr221) rfl rfl rfl hl.1 ⟨Nat.le_of_ble_eq_true rfl, Nat.le_of_ble_eq_true rfl⟩ (Nat.le_of_ble_eq_true rfl) dX10_size_221 ⟨Nat.zero_le _, Nat.zero_le _⟩) (fun H locs hU hS => ?_)
        have hz := k_injl0 hf
        subst hz
        exact k_iret (v := r221) X hU hS hr hlk rfl rfl dX10_size_224
      replace hf := k_ifN hf c21_12
      by_cases c21_13 : a1 = 13
      · replace hf := k_ifP hf c21_13
        refine lv_tableIn (x := a1) (off := 195) (tgt := 216) X.1 X.2.1 dX10_size_21 (by rw [c21_13]; decide) (by rw [c21_13]; decide) (by rw [c21_13]; rfl) (by decide) ?_
        refine lv_aload_n X.1 X.2.1 dX10_size_216 rfl (lv_at hl 0 rfl) ?_
        refine k_get (v := .ref (ad 10 0)) X hU sh_0_0 fl_X10_33 rfl dX10_size_217 ?_
        refine lv_iload_n X.1 X.2.1 dX10_size_220 rfl (lv_at hl 1 rfl) ?_
        obtain ⟨r221, hr221, hf⟩ := k_bdE hf
        refine k_backi X hS (k_runV (As := [.int a1]) (rest := []) X hS hU (sW_0 k_isW_10) (by decide) rfl vl_X10_231 (c_X9_countLines X.2.2.2.2.2.2.1 k_isW_10 rfl hr221) rfl rfl rfl hl.1 ⟨Nat.le_of_ble_eq_true rfl, Nat.le_of_ble_eq_true rfl⟩ (Nat.le_of_ble_eq_true rfl) dX10_size_221 ⟨Nat.zero_le _, Nat.zero_le _⟩) (fun H locs hU hS => ?_)
        have hz := k_injl0 hf
        subst hz
        exact k_iret (v := r221) X hU hS hr hlk rfl rfl dX10_size_224
      replace hf := k_ifN hf c21_13
      by_cases c21_14 : a1 = 14
      · replace hf := k_ifP hf c21_14
        refine lv_tableIn (x := a1) (off := 179) (tgt := 200) X.1 X.2.1 dX10_size_21 (by rw [c21_14]; decide) (by rw [c21_14]; decide) (by rw [c21_14]; rfl) (by decide) ?_
        refine lv_aload_n X.1 X.2.1 dX10_size_200 rfl (lv_at hl 0 rfl) ?_
        refine k_get (v := .ref (ad 10 0)) X hU sh_0_0 fl_X10_33 rfl dX10_size_201 ?_
        refine k_get (v := .int (u 10 0 8)) X hU (sW_0 k_isW_10) fl_X10_225 rfl dX10_size_204 ?_
        have hz := k_injl0 hf
        subst hz
        exact k_iret (v := u 10 0 8) X hU hS hr hlk rfl rfl dX10_size_207
      replace hf := k_ifN hf c21_14
      by_cases c21_15 : a1 = 15
      · replace hf := k_ifP hf c21_15
        refine lv_tableIn (x := a1) (off := 187) (tgt := 208) X.1 X.2.1 dX10_size_21 (by rw [c21_15]; decide) (by rw [c21_15]; decide) (by rw [c21_15]; rfl) (by decide) ?_
        refine lv_aload_n X.1 X.2.1 dX10_size_208 rfl (lv_at hl 0 rfl) ?_
        refine k_get (v := .ref (ad 10 0)) X hU sh_0_0 fl_X10_33 rfl dX10_size_209 ?_
        refine k_get (v := .int (u 10 0 9)) X hU (sW_0 k_isW_10) fl_X10_228 rfl dX10_size_212 ?_
        have hz := k_injl0 hf
        subst hz
        exact k_iret (v := u 10 0 9) X hU hS hr hlk rfl rfl dX10_size_215
      replace hf := k_ifN hf c21_15
      have ho21 : (a1).toInt < 0 ∨ 15 < (a1).toInt := by
        have g0 := k_tne (n := 0) (z := 0) c21_0 (by decide)
        have g1 := k_tne (n := 1) (z := 1) c21_1 (by decide)
        have g2 := k_tne (n := 2) (z := 2) c21_2 (by decide)
        have g3 := k_tne (n := 3) (z := 3) c21_3 (by decide)
        have g4 := k_tne (n := 4) (z := 4) c21_4 (by decide)
        have g5 := k_tne (n := 5) (z := 5) c21_5 (by decide)
        have g6 := k_tne (n := 6) (z := 6) c21_6 (by decide)
        have g7 := k_tne (n := 7) (z := 7) c21_7 (by decide)
        have g8 := k_tne (n := 8) (z := 8) c21_8 (by decide)
        have g9 := k_tne (n := 9) (z := 9) c21_9 (by decide)
        have g10 := k_tne (n := 10) (z := 10) c21_10 (by decide)
        have g11 := k_tne (n := 11) (z := 11) c21_11 (by decide)
        have g12 := k_tne (n := 12) (z := 12) c21_12 (by decide)
        have g13 := k_tne (n := 13) (z := 13) c21_13 (by decide)
        have g14 := k_tne (n := 14) (z := 14) c21_14 (by decide)
        have g15 := k_tne (n := 15) (z := 15) c21_15 (by decide)
        omega
      refine lv_tableOut (x := a1) (tgt := 216) X.1 X.2.1 dX10_size_21 ho21 (by decide) ?_
      refine lv_aload_n X.1 X.2.1 dX10_size_216 rfl (lv_at hl 0 rfl) ?_
      refine k_get (v := .ref (ad 10 0)) X hU sh_0_0 fl_X10_33 rfl dX10_size_217 ?_
      refine lv_iload_n X.1 X.2.1 dX10_size_220 rfl (lv_at hl 1 rfl) ?_
      obtain ⟨r221, hr221, hf⟩ := k_bdE hf
      refine k_backi X hS (k_runV (As := [.int a1]) (rest := []) X hS hU (sW_0 k_isW_10) (by decide) rfl vl_X10_231 (c_X9_countLines X.2.2.2.2.2.2.1 k_isW_10 rfl hr221) rfl rfl rfl hl.1 ⟨Nat.le_of_ble_eq_true rfl, Nat.le_of_ble_eq_true rfl⟩ (Nat.le_of_ble_eq_true rfl) dX10_size_221 ⟨Nat.zero_le _, Nat.zero_le _⟩) (fun H locs hU hS => ?_)
      have hz := k_injl0 hf
      subst hz
      exact k_iret (v := r221) X hU hS hr hlk rfl rfl dX10_size_224
    · replace hf := k_ifN hf c7
      exact J10 _ _ _ hU hS (lv_sub hl [] rfl) hf
def rx_X10_size : Room := { frames := 6, cells := 1, slots := 6, locals := 90 }
set_option maxRecDepth 100000 in
set_option maxHeartbeats 4000000 in
theorem x_X10_size {l : Launch} {D : va_G} {G : Nat → ClassId} {ad : Nat → Nat → Nat} {u : k_U} (hI : k_ok ad) (hlT : l.stackTraces = false) {a1 : Int32} {sz : Nat} {j : Nat} (hf : f_X10_size u a1 = some (Sum.inr j)) : vx_Met l yX10_size (.code yX10_size cX10_size 2 (some .int) :: lw_g) rx_X10_size (k_Pre D G ad u sz [.ref (ad 0 0), .int a1]) (k_Qn ad sz) (k_XC D G ad u j sz) 1 6 (k_A ad sz) := by
  refine k_xofW (by decide +kernel) hI (Nat.le_of_ble_eq_true rfl) ?_
  intro p e s m args below meth c X hr hlk hex hU hS ls hl
  have hl : lv_has ls 2 [(0, .ref (ad 0 0)), (1, .int a1)] := hl
  have J10 : ∀ (H : Heap) (locs : List Loc) (ls : Array Slot), k_Uv D G ad u H → va_S (k_A ad sz) s.heap H locs → lv_has ls 2 [] → f_X10_size_10 u a1 = some (Sum.inr j) → W p l e rx_X10_size s m args below meth c H locs 0 0 (vx_MQ below (k_Qn ad sz) (k_XC D G ad u j sz) args s 1 6 (k_A ad sz)) (F0 m 10 ls []) := by
    intro H locs ls hU hS hl hf
    unfold f_X10_size_10 at hf
    have hz := k_injr0 hf
    subst hz
    exact k_thrS X hlT hU hS (i := 35) rfl xw_180 (by decide +kernel) rfl hl.1 dX10_size_10 dX10_size_13 dX10_size_14 dX10_size_16 dX10_size_19 hex (Nat.le_of_ble_eq_true rfl) (Nat.le_of_ble_eq_true rfl) ⟨Nat.le_of_ble_eq_true rfl, Nat.le_of_ble_eq_true rfl⟩ hlk ⟨Nat.le_of_ble_eq_true rfl, Nat.le_of_ble_eq_true rfl⟩
  unfold f_X10_size at hf
  refine lv_iload_n X.1 X.2.1 dX10_size_0 rfl (lv_at hl 1 rfl) ?_
  refine lv_if_lt (tgt := 10) X.1 X.2.1 dX10_size_1 (by decide) (fun c1 => ?_) (fun c1 => ?_)
  · replace hf := k_ifP hf c1
    exact J10 _ _ _ hU hS (lv_sub hl [] rfl) hf
  · replace hf := k_ifN hf c1
    refine lv_iload_n X.1 X.2.1 dX10_size_4 rfl (lv_at hl 1 rfl) ?_
    refine lv_bipush (v := 15) X.1 X.2.1 dX10_size_5 (by decide) ?_
    refine lv_icmp_le (tgt := 20) X.1 X.2.1 dX10_size_7 (by decide) (fun c7 => ?_) (fun c7 => ?_)
    · replace hf := k_ifP hf c7
      refine lv_iload_n X.1 X.2.1 dX10_size_20 rfl (lv_at hl 1 rfl) ?_
      by_cases c21_0 : a1 = 0
      · replace hf := k_ifP hf c21_0
        refine lv_tableIn (x := a1) (off := 79) (tgt := 100) X.1 X.2.1 dX10_size_21 (by rw [c21_0]; decide) (by rw [c21_0]; decide) (by rw [c21_0]; rfl) (by decide) ?_
        refine lv_aload_n X.1 X.2.1 dX10_size_100 rfl (lv_at hl 0 rfl) ?_
        refine k_get (v := .ref (ad 10 0)) X hU sh_0_0 fl_X10_33 rfl dX10_size_101 ?_
        refine k_get (v := .int (u 10 0 10)) X hU (sW_0 k_isW_10) fl_X10_113 rfl dX10_size_104 ?_
        exact absurd hf k_ninr0
      replace hf := k_ifN hf c21_0
      by_cases c21_1 : a1 = 1
      · replace hf := k_ifP hf c21_1
        refine lv_tableIn (x := a1) (off := 87) (tgt := 108) X.1 X.2.1 dX10_size_21 (by rw [c21_1]; decide) (by rw [c21_1]; decide) (by rw [c21_1]; rfl) (by decide) ?_
        refine lv_aload_n X.1 X.2.1 dX10_size_108 rfl (lv_at hl 0 rfl) ?_
        refine k_get (v := .ref (ad 10 0)) X hU sh_0_0 fl_X10_33 rfl dX10_size_109 ?_
        refine k_get (v := .int (u 10 0 11)) X hU (sW_0 k_isW_10) fl_X10_187 rfl dX10_size_112 ?_
        refine lv_if_eq (tgt := 122) X.1 X.2.1 dX10_size_115 (by decide) (fun c115 => ?_) (fun c115 => ?_)
        · replace hf := k_ifP hf c115
          refine lv_iconst (v := 0) X.1 X.2.1 dX10_size_122 (by decide) ?_
          exact absurd hf k_ninr0
        · replace hf := k_ifN hf c115
          refine lv_iconst (v := 1) X.1 X.2.1 dX10_size_118 (by decide) ?_
          refine lv_goto (tgt := 123) X.1 X.2.1 dX10_size_119 (by decide) ?_
          exact absurd hf k_ninr0
      replace hf := k_ifN hf c21_1
      by_cases c21_2 : a1 = 2
      · replace hf := k_ifP hf c21_2
        refine lv_tableIn (x := a1) (off := 103) (tgt := 124) X.1 X.2.1 dX10_size_21 (by rw [c21_2]; decide) (by rw [c21_2]; decide) (by rw [c21_2]; rfl) (by decide) ?_
        refine lv_aload_n X.1 X.2.1 dX10_size_124 rfl (lv_at hl 0 rfl) ?_
        refine k_get (v := .ref (ad 10 0)) X hU sh_0_0 fl_X10_33 rfl dX10_size_125 ?_
        refine k_get (v := .ref (ad 10 3)) X hU (sW_0 k_isW_10) fl_X10_191 rfl dX10_size_128 ?_
        refine k_get (v := .int (u 10 3 2)) X hU (k_sT k_isW_10 k_isT_3) fl_X10_195 rfl dX10_size_131 ?_
        exact absurd hf k_ninr0
      replace hf := k_ifN hf c21_2
      by_cases c21_3 : a1 = 3
      · replace hf := k_ifP hf c21_3
        refine lv_tableIn (x := a1) (off := 114) (tgt := 135) X.1 X.2.1 dX10_size_21 (by rw [c21_3]; decide) (by rw [c21_3]; decide) (by rw [c21_3]; rfl) (by decide) ?_
        refine lv_aload_n X.1 X.2.1 dX10_size_135 rfl (lv_at hl 0 rfl) ?_
        refine k_get (v := .ref (ad 10 0)) X hU sh_0_0 fl_X10_33 rfl dX10_size_136 ?_
        refine k_get (v := .ref (ad 10 6)) X hU (sW_0 k_isW_10) fl_X10_198 rfl dX10_size_139 ?_
        refine k_get (v := .int (u 10 6 2)) X hU (k_sT k_isW_10 k_isT_6) fl_X10_195 rfl dX10_size_142 ?_
        exact absurd hf k_ninr0
      replace hf := k_ifN hf c21_3
      by_cases c21_4 : a1 = 4
      · replace hf := k_ifP hf c21_4
        refine lv_tableIn (x := a1) (off := 125) (tgt := 146) X.1 X.2.1 dX10_size_21 (by rw [c21_4]; decide) (by rw [c21_4]; decide) (by rw [c21_4]; rfl) (by decide) ?_
        refine lv_aload_n X.1 X.2.1 dX10_size_146 rfl (lv_at hl 0 rfl) ?_
        refine k_get (v := .ref (ad 10 0)) X hU sh_0_0 fl_X10_33 rfl dX10_size_147 ?_
        refine k_get (v := .ref (ad 10 9)) X hU (sW_0 k_isW_10) fl_X10_201 rfl dX10_size_150 ?_
        refine k_get (v := .int (u 10 9 3)) X hU (sW_9 k_isW_10) fl_X10_205 rfl dX10_size_153 ?_
        exact absurd hf k_ninr0
      replace hf := k_ifN hf c21_4
      by_cases c21_5 : a1 = 5
      · replace hf := k_ifP hf c21_5
        refine lv_tableIn (x := a1) (off := 136) (tgt := 157) X.1 X.2.1 dX10_size_21 (by rw [c21_5]; decide) (by rw [c21_5]; decide) (by rw [c21_5]; rfl) (by decide) ?_
        refine lv_aload_n X.1 X.2.1 dX10_size_157 rfl (lv_at hl 0 rfl) ?_
        refine k_get (v := .ref (ad 10 0)) X hU sh_0_0 fl_X10_33 rfl dX10_size_158 ?_
        refine k_get (v := .int (u 10 0 7)) X hU (sW_0 k_isW_10) fl_X10_208 rfl dX10_size_161 ?_
        exact absurd hf k_ninr0
      replace hf := k_ifN hf c21_5
      by_cases c21_6 : a1 = 6
      · replace hf := k_ifP hf c21_6
        refine lv_tableIn (x := a1) (off := 144) (tgt := 165) X.1 X.2.1 dX10_size_21 (by rw [c21_6]; decide) (by rw [c21_6]; decide) (by rw [c21_6]; rfl) (by decide) ?_
        refine lv_aload_n X.1 X.2.1 dX10_size_165 rfl (lv_at hl 0 rfl) ?_
        refine k_get (v := .ref (ad 10 0)) X hU sh_0_0 fl_X10_33 rfl dX10_size_166 ?_
        obtain ⟨r169, hr169, hf⟩ := k_bdE hf
        refine k_backi X hS (k_runV (As := []) (rest := []) X hS hU (sW_0 k_isW_10) (by decide) rfl vl_X10_211 (c_X9_openChutes X.2.2.2.2.2.2.1 k_isW_10 rfl hr169) rfl rfl rfl hl.1 ⟨Nat.le_of_ble_eq_true rfl, Nat.le_of_ble_eq_true rfl⟩ (Nat.le_of_ble_eq_true rfl) dX10_size_169 ⟨Nat.zero_le _, Nat.zero_le _⟩) (fun H locs hU hS => ?_)
        exact absurd hf k_ninr0
      replace hf := k_ifN hf c21_6
      by_cases c21_7 : a1 = 7
      · replace hf := k_ifP hf c21_7
        refine lv_tableIn (x := a1) (off := 152) (tgt := 173) X.1 X.2.1 dX10_size_21 (by rw [c21_7]; decide) (by rw [c21_7]; decide) (by rw [c21_7]; rfl) (by decide) ?_
        refine lv_aload_n X.1 X.2.1 dX10_size_173 rfl (lv_at hl 0 rfl) ?_
        refine k_get (v := .ref (ad 10 0)) X hU sh_0_0 fl_X10_33 rfl dX10_size_174 ?_
        obtain ⟨r177, hr177, hf⟩ := k_bdE hf
        refine k_backi X hS (k_runV (As := []) (rest := []) X hS hU (sW_0 k_isW_10) (by decide) rfl vl_X10_214 (c_X9_failedLayers X.2.2.2.2.2.2.1 k_isW_10 rfl hr177) rfl rfl rfl hl.1 ⟨Nat.le_of_ble_eq_true rfl, Nat.le_of_ble_eq_true rfl⟩ (Nat.le_of_ble_eq_true rfl) dX10_size_177 ⟨Nat.zero_le _, Nat.zero_le _⟩) (fun H locs hU hS => ?_)
        exact absurd hf k_ninr0
      replace hf := k_ifN hf c21_7
      by_cases c21_8 : a1 = 8
      · replace hf := k_ifP hf c21_8
        refine lv_tableIn (x := a1) (off := 160) (tgt := 181) X.1 X.2.1 dX10_size_21 (by rw [c21_8]; decide) (by rw [c21_8]; decide) (by rw [c21_8]; rfl) (by decide) ?_
        refine lv_aload_n X.1 X.2.1 dX10_size_181 rfl (lv_at hl 0 rfl) ?_
        refine k_get (v := .ref (ad 10 0)) X hU sh_0_0 fl_X10_33 rfl dX10_size_182 ?_
        refine k_get (v := .ref (ad 10 13)) X hU (sW_0 k_isW_10) fl_X10_217 rfl dX10_size_185 ?_
        refine k_get (v := .int (u 10 13 2)) X hU (sW_13 k_isW_10) fl_X10_221 rfl dX10_size_188 ?_
        exact absurd hf k_ninr0
      replace hf := k_ifN hf c21_8
      by_cases c21_9 : a1 = 9
      · replace hf := k_ifP hf c21_9
        refine lv_tableIn (x := a1) (off := 171) (tgt := 192) X.1 X.2.1 dX10_size_21 (by rw [c21_9]; decide) (by rw [c21_9]; decide) (by rw [c21_9]; rfl) (by decide) ?_
        refine lv_aload_n X.1 X.2.1 dX10_size_192 rfl (lv_at hl 0 rfl) ?_
        refine k_get (v := .ref (ad 4 0)) X hU sh_0_0 fl_X10_43 rfl dX10_size_193 ?_
        refine k_get (v := .int (u 4 0 2)) X hU sh_4_0 fl_X10_224 rfl dX10_size_196 ?_
        exact absurd hf k_ninr0
      replace hf := k_ifN hf c21_9
      by_cases c21_10 : a1 = 10
      · replace hf := k_ifP hf c21_10
        refine lv_tableIn (x := a1) (off := 195) (tgt := 216) X.1 X.2.1 dX10_size_21 (by rw [c21_10]; decide) (by rw [c21_10]; decide) (by rw [c21_10]; rfl) (by decide) ?_
        refine lv_aload_n X.1 X.2.1 dX10_size_216 rfl (lv_at hl 0 rfl) ?_
        refine k_get (v := .ref (ad 10 0)) X hU sh_0_0 fl_X10_33 rfl dX10_size_217 ?_
        refine lv_iload_n X.1 X.2.1 dX10_size_220 rfl (lv_at hl 1 rfl) ?_
        obtain ⟨r221, hr221, hf⟩ := k_bdE hf
        refine k_backi X hS (k_runV (As := [.int a1]) (rest := []) X hS hU (sW_0 k_isW_10) (by decide) rfl vl_X10_231 (c_X9_countLines X.2.2.2.2.2.2.1 k_isW_10 rfl hr221) rfl rfl rfl hl.1 ⟨Nat.le_of_ble_eq_true rfl, Nat.le_of_ble_eq_true rfl⟩ (Nat.le_of_ble_eq_true rfl) dX10_size_221 ⟨Nat.zero_le _, Nat.zero_le _⟩) (fun H locs hU hS => ?_)
        exact absurd hf k_ninr0
      replace hf := k_ifN hf c21_10
      by_cases c21_11 : a1 = 11
      · replace hf := k_ifP hf c21_11
        refine lv_tableIn (x := a1) (off := 195) (tgt := 216) X.1 X.2.1 dX10_size_21 (by rw [c21_11]; decide) (by rw [c21_11]; decide) (by rw [c21_11]; rfl) (by decide) ?_
        refine lv_aload_n X.1 X.2.1 dX10_size_216 rfl (lv_at hl 0 rfl) ?_
        refine k_get (v := .ref (ad 10 0)) X hU sh_0_0 fl_X10_33 rfl dX10_size_217 ?_
        refine lv_iload_n X.1 X.2.1 dX10_size_220 rfl (lv_at hl 1 rfl) ?_
        obtain ⟨r221, hr221, hf⟩ := k_bdE hf
        refine k_backi X hS (k_runV (As := [.int a1]) (rest := []) X hS hU (sW_0 k_isW_10) (by decide) rfl vl_X10_231 (c_X9_countLines X.2.2.2.2.2.2.1 k_isW_10 rfl hr221) rfl rfl rfl hl.1 ⟨Nat.le_of_ble_eq_true rfl, Nat.le_of_ble_eq_true rfl⟩ (Nat.le_of_ble_eq_true rfl) dX10_size_221 ⟨Nat.zero_le _, Nat.zero_le _⟩) (fun H locs hU hS => ?_)
        exact absurd hf k_ninr0
      replace hf := k_ifN hf c21_11
      by_cases c21_12 : a1 = 12
      · replace hf := k_ifP hf c21_12
        refine lv_tableIn (x := a1) (off := 195) (tgt := 216) X.1 X.2.1 dX10_size_21 (by rw [c21_12]; decide) (by rw [c21_12]; decide) (by rw [c21_12]; rfl) (by decide) ?_
        refine lv_aload_n X.1 X.2.1 dX10_size_216 rfl (lv_at hl 0 rfl) ?_
        refine k_get (v := .ref (ad 10 0)) X hU sh_0_0 fl_X10_33 rfl dX10_size_217 ?_
        refine lv_iload_n X.1 X.2.1 dX10_size_220 rfl (lv_at hl 1 rfl) ?_
        obtain ⟨r221, hr221, hf⟩ := k_bdE hf
        refine k_backi X hS (k_runV (As := [.int a1]) (rest := []) X hS hU (sW_0 k_isW_10) (by decide) rfl vl_X10_231 (c_X9_countLines X.2.2.2.2.2.2.1 k_isW_10 rfl hr221) rfl rfl rfl hl.1 ⟨Nat.le_of_ble_eq_true rfl, Nat.le_of_ble_eq_true rfl⟩ (Nat.le_of_ble_eq_true rfl) dX10_size_221 ⟨Nat.zero_le _, Nat.zero_le _⟩) (fun H locs hU hS => ?_)
        exact absurd hf k_ninr0
      replace hf := k_ifN hf c21_12
      by_cases c21_13 : a1 = 13
      · replace hf := k_ifP hf c21_13
        refine lv_tableIn (x := a1) (off := 195) (tgt := 216) X.1 X.2.1 dX10_size_21 (by rw [c21_13]; decide) (by rw [c21_13]; decide) (by rw [c21_13]; rfl) (by decide) ?_
        refine lv_aload_n X.1 X.2.1 dX10_size_216 rfl (lv_at hl 0 rfl) ?_
        refine k_get (v := .ref (ad 10 0)) X hU sh_0_0 fl_X10_33 rfl dX10_size_217 ?_
        refine lv_iload_n X.1 X.2.1 dX10_size_220 rfl (lv_at hl 1 rfl) ?_
        obtain ⟨r221, hr221, hf⟩ := k_bdE hf
        refine k_backi X hS (k_runV (As := [.int a1]) (rest := []) X hS hU (sW_0 k_isW_10) (by decide) rfl vl_X10_231 (c_X9_countLines X.2.2.2.2.2.2.1 k_isW_10 rfl hr221) rfl rfl rfl hl.1 ⟨Nat.le_of_ble_eq_true rfl, Nat.le_of_ble_eq_true rfl⟩ (Nat.le_of_ble_eq_true rfl) dX10_size_221 ⟨Nat.zero_le _, Nat.zero_le _⟩) (fun H locs hU hS => ?_)
        exact absurd hf k_ninr0
      replace hf := k_ifN hf c21_13
      by_cases c21_14 : a1 = 14
      · replace hf := k_ifP hf c21_14
        refine lv_tableIn (x := a1) (off := 179) (tgt := 200) X.1 X.2.1 dX10_size_21 (by rw [c21_14]; decide) (by rw [c21_14]; decide) (by rw [c21_14]; rfl) (by decide) ?_
        refine lv_aload_n X.1 X.2.1 dX10_size_200 rfl (lv_at hl 0 rfl) ?_
        refine k_get (v := .ref (ad 10 0)) X hU sh_0_0 fl_X10_33 rfl dX10_size_201 ?_
        refine k_get (v := .int (u 10 0 8)) X hU (sW_0 k_isW_10) fl_X10_225 rfl dX10_size_204 ?_
        exact absurd hf k_ninr0
      replace hf := k_ifN hf c21_14
      by_cases c21_15 : a1 = 15
      · replace hf := k_ifP hf c21_15
        refine lv_tableIn (x := a1) (off := 187) (tgt := 208) X.1 X.2.1 dX10_size_21 (by rw [c21_15]; decide) (by rw [c21_15]; decide) (by rw [c21_15]; rfl) (by decide) ?_
        refine lv_aload_n X.1 X.2.1 dX10_size_208 rfl (lv_at hl 0 rfl) ?_
        refine k_get (v := .ref (ad 10 0)) X hU sh_0_0 fl_X10_33 rfl dX10_size_209 ?_
        refine k_get (v := .int (u 10 0 9)) X hU (sW_0 k_isW_10) fl_X10_228 rfl dX10_size_212 ?_
        exact absurd hf k_ninr0
      replace hf := k_ifN hf c21_15
      have ho21 : (a1).toInt < 0 ∨ 15 < (a1).toInt := by
        have g0 := k_tne (n := 0) (z := 0) c21_0 (by decide)
        have g1 := k_tne (n := 1) (z := 1) c21_1 (by decide)
        have g2 := k_tne (n := 2) (z := 2) c21_2 (by decide)
        have g3 := k_tne (n := 3) (z := 3) c21_3 (by decide)
        have g4 := k_tne (n := 4) (z := 4) c21_4 (by decide)
        have g5 := k_tne (n := 5) (z := 5) c21_5 (by decide)
        have g6 := k_tne (n := 6) (z := 6) c21_6 (by decide)
        have g7 := k_tne (n := 7) (z := 7) c21_7 (by decide)
        have g8 := k_tne (n := 8) (z := 8) c21_8 (by decide)
        have g9 := k_tne (n := 9) (z := 9) c21_9 (by decide)
        have g10 := k_tne (n := 10) (z := 10) c21_10 (by decide)
        have g11 := k_tne (n := 11) (z := 11) c21_11 (by decide)
        have g12 := k_tne (n := 12) (z := 12) c21_12 (by decide)
        have g13 := k_tne (n := 13) (z := 13) c21_13 (by decide)
        have g14 := k_tne (n := 14) (z := 14) c21_14 (by decide)
        have g15 := k_tne (n := 15) (z := 15) c21_15 (by decide)
        omega
      refine lv_tableOut (x := a1) (tgt := 216) X.1 X.2.1 dX10_size_21 ho21 (by decide) ?_
      refine lv_aload_n X.1 X.2.1 dX10_size_216 rfl (lv_at hl 0 rfl) ?_
      refine k_get (v := .ref (ad 10 0)) X hU sh_0_0 fl_X10_33 rfl dX10_size_217 ?_
      refine lv_iload_n X.1 X.2.1 dX10_size_220 rfl (lv_at hl 1 rfl) ?_
      obtain ⟨r221, hr221, hf⟩ := k_bdE hf
      refine k_backi X hS (k_runV (As := [.int a1]) (rest := []) X hS hU (sW_0 k_isW_10) (by decide) rfl vl_X10_231 (c_X9_countLines X.2.2.2.2.2.2.1 k_isW_10 rfl hr221) rfl rfl rfl hl.1 ⟨Nat.le_of_ble_eq_true rfl, Nat.le_of_ble_eq_true rfl⟩ (Nat.le_of_ble_eq_true rfl) dX10_size_221 ⟨Nat.zero_le _, Nat.zero_le _⟩) (fun H locs hU hS => ?_)
      exact absurd hf k_ninr0
    · replace hf := k_ifN hf c7
      exact J10 _ _ _ hU hS (lv_sub hl [] rfl) hf
def rm_X10_chute : Room := { frames := 2, cells := 0, slots := 0, locals := 42 }
set_option maxRecDepth 100000 in
set_option maxHeartbeats 4000000 in
theorem c_X10_chute {l : Launch} {D : va_G} {G : Nat → ClassId} {ad : Nat → Nat → Nat} {u : k_U} (hI : k_ok ad) {a1 : Int32} {a2 : Int32} {sz : Nat} {r2 : Int32} (hf : f_X10_chute u a1 a2 = some (Sum.inl r2)) : Met l yX10_chute (.code yX10_chute cX10_chute 4 (some .int) :: lw_g) rm_X10_chute (k_Pre D G ad u sz [.ref (ad 0 0), .int a1, .int a2]) (k_Qi D G ad u r2 sz) 0 0 (k_A ad sz) := by
  refine k_ofW (by decide +kernel) hI (Nat.le_of_ble_eq_true rfl) ?_
  intro p e s m args below meth c X hr hlk hU hS ls hl
  have hl : lv_has ls 4 [(0, .ref (ad 0 0)), (1, .int a1), (2, .int a2)] := hl
  unfold f_X10_chute at hf
  refine lv_aload_n X.1 X.2.1 dX10_chute_0 rfl (lv_at hl 0 rfl) ?_
  refine k_get (v := .ref (ad 10 0)) X hU sh_0_0 fl_X10_33 rfl dX10_chute_1 ?_
  refine lv_iload_n X.1 X.2.1 dX10_chute_4 rfl (lv_at hl 1 rfl) ?_
  obtain ⟨r5, hr5, hf⟩ := k_bdE hf
  refine k_backi X hS (k_runV (As := [.int a1]) (rest := []) X hS hU (sW_0 k_isW_10) (by decide) rfl vl_X10_234 (c_X9_hasChute X.2.2.2.2.2.2.1 k_isW_10 rfl hr5) rfl rfl rfl hl.1 ⟨Nat.le_of_ble_eq_true rfl, Nat.le_of_ble_eq_true rfl⟩ (Nat.le_of_ble_eq_true rfl) dX10_chute_5 ⟨Nat.zero_le _, Nat.zero_le _⟩) (fun H locs hU hS => ?_)
  refine lv_if_ne (tgt := 21) X.1 X.2.1 dX10_chute_8 (by decide) (fun c8 => ?_) (fun c8 => ?_)
  · replace hf := k_ifN hf c8
    refine lv_aload_n X.1 X.2.1 dX10_chute_21 rfl (lv_at hl 0 rfl) ?_
    refine k_get (v := .ref (ad 10 0)) X hU sh_0_0 fl_X10_33 rfl dX10_chute_22 ?_
    refine lv_iload_n X.1 X.2.1 dX10_chute_25 rfl (lv_at hl 1 rfl) ?_
    obtain ⟨r26, hr26, hf⟩ := k_bdE hf
    refine k_backr X hS (k_runV (As := [.int a1]) (rest := []) X hS hU (sW_0 k_isW_10) (by decide) rfl vl_X10_243 (c_X9_chuteAt X.2.2.2.2.2.2.1 k_isW_10 rfl hr26) rfl rfl rfl hl.1 ⟨Nat.le_of_ble_eq_true rfl, Nat.le_of_ble_eq_true rfl⟩ (Nat.le_of_ble_eq_true rfl) dX10_chute_26 ⟨Nat.zero_le _, Nat.zero_le _⟩) (fun H locs hU hS => ?_)
    obtain ⟨hi26, hf⟩ := k_ckE hf
    refine lv_astore_n (lv' := [(3, .ref (ad 10 r26)), (0, .ref (ad 0 0)), (1, .int a1), (2, .int a2)]) X.1 X.2.1 dX10_chute_29 rfl hl (by decide) rfl (fun ls hl => ?_)
    refine lv_iload_n X.1 X.2.1 dX10_chute_30 rfl (lv_at hl 3 rfl) ?_
    by_cases c31_0 : a2 = 0
    · replace hf := k_ifP hf c31_0
      refine lv_tableIn (x := a2) (off := 45) (tgt := 76) X.1 X.2.1 dX10_chute_31 (by rw [c31_0]; decide) (by rw [c31_0]; decide) (by rw [c31_0]; rfl) (by decide) ?_
      refine lv_aload_n X.1 X.2.1 dX10_chute_76 rfl (lv_at hl 0 rfl) ?_
      refine k_get (v := .int (u 10 r26 0)) X hU (k_sC k_isW_10 hi26) fl_X10_247 rfl dX10_chute_77 ?_
      have hz := k_injl0 hf
      subst hz
      exact k_iret (v := u 10 r26 0) X hU hS hr hlk rfl rfl dX10_chute_80
    replace hf := k_ifN hf c31_0
    by_cases c31_1 : a2 = 1
    · replace hf := k_ifP hf c31_1
      refine lv_tableIn (x := a2) (off := 50) (tgt := 81) X.1 X.2.1 dX10_chute_31 (by rw [c31_1]; decide) (by rw [c31_1]; decide) (by rw [c31_1]; rfl) (by decide) ?_
      refine lv_aload_n X.1 X.2.1 dX10_chute_81 rfl (lv_at hl 0 rfl) ?_
      refine k_get (v := .int (u 10 r26 1)) X hU (k_sC k_isW_10 hi26) fl_X10_252 rfl dX10_chute_82 ?_
      have hz := k_injl0 hf
      subst hz
      exact k_iret (v := u 10 r26 1) X hU hS hr hlk rfl rfl dX10_chute_85
    replace hf := k_ifN hf c31_1
    by_cases c31_2 : a2 = 2
    · replace hf := k_ifP hf c31_2
      refine lv_tableIn (x := a2) (off := 55) (tgt := 86) X.1 X.2.1 dX10_chute_31 (by rw [c31_2]; decide) (by rw [c31_2]; decide) (by rw [c31_2]; rfl) (by decide) ?_
      refine lv_aload_n X.1 X.2.1 dX10_chute_86 rfl (lv_at hl 0 rfl) ?_
      refine k_get (v := .int (u 10 r26 2)) X hU (k_sC k_isW_10 hi26) fl_X10_255 rfl dX10_chute_87 ?_
      have hz := k_injl0 hf
      subst hz
      exact k_iret (v := u 10 r26 2) X hU hS hr hlk rfl rfl dX10_chute_90
    replace hf := k_ifN hf c31_2
    by_cases c31_3 : a2 = 3
    · replace hf := k_ifP hf c31_3
      refine lv_tableIn (x := a2) (off := 60) (tgt := 91) X.1 X.2.1 dX10_chute_31 (by rw [c31_3]; decide) (by rw [c31_3]; decide) (by rw [c31_3]; rfl) (by decide) ?_
      refine lv_aload_n X.1 X.2.1 dX10_chute_91 rfl (lv_at hl 0 rfl) ?_
      refine k_get (v := .int (u 10 r26 3)) X hU (k_sC k_isW_10 hi26) fl_X10_258 rfl dX10_chute_92 ?_
      have hz := k_injl0 hf
      subst hz
      exact k_iret (v := u 10 r26 3) X hU hS hr hlk rfl rfl dX10_chute_95
    replace hf := k_ifN hf c31_3
    by_cases c31_4 : a2 = 4
    · replace hf := k_ifP hf c31_4
      refine lv_tableIn (x := a2) (off := 65) (tgt := 96) X.1 X.2.1 dX10_chute_31 (by rw [c31_4]; decide) (by rw [c31_4]; decide) (by rw [c31_4]; rfl) (by decide) ?_
      refine lv_aload_n X.1 X.2.1 dX10_chute_96 rfl (lv_at hl 0 rfl) ?_
      refine k_get (v := .int (u 10 r26 4)) X hU (k_sC k_isW_10 hi26) fl_X10_261 rfl dX10_chute_97 ?_
      have hz := k_injl0 hf
      subst hz
      exact k_iret (v := u 10 r26 4) X hU hS hr hlk rfl rfl dX10_chute_100
    replace hf := k_ifN hf c31_4
    by_cases c31_5 : a2 = 5
    · replace hf := k_ifP hf c31_5
      refine lv_tableIn (x := a2) (off := 70) (tgt := 101) X.1 X.2.1 dX10_chute_31 (by rw [c31_5]; decide) (by rw [c31_5]; decide) (by rw [c31_5]; rfl) (by decide) ?_
      refine lv_aload_n X.1 X.2.1 dX10_chute_101 rfl (lv_at hl 0 rfl) ?_
      refine k_get (v := .int (u 10 r26 5)) X hU (k_sC k_isW_10 hi26) fl_X10_264 rfl dX10_chute_102 ?_
      have hz := k_injl0 hf
      subst hz
      exact k_iret (v := u 10 r26 5) X hU hS hr hlk rfl rfl dX10_chute_105
    replace hf := k_ifN hf c31_5
    by_cases c31_6 : a2 = 6
    · replace hf := k_ifP hf c31_6
      refine lv_tableIn (x := a2) (off := 75) (tgt := 106) X.1 X.2.1 dX10_chute_31 (by rw [c31_6]; decide) (by rw [c31_6]; decide) (by rw [c31_6]; rfl) (by decide) ?_
      refine lv_aload_n X.1 X.2.1 dX10_chute_106 rfl (lv_at hl 0 rfl) ?_
      refine k_get (v := .int (u 10 r26 5)) X hU (k_sC k_isW_10 hi26) fl_X10_264 rfl dX10_chute_107 ?_
      refine lv_iconst (v := 4) X.1 X.2.1 dX10_chute_110 (by decide) ?_
      refine lv_icmp_ne (tgt := 118) X.1 X.2.1 dX10_chute_111 (by decide) (fun c111 => ?_) (fun c111 => ?_)
      · replace hf := k_ifN hf c111
        refine lv_aload_n X.1 X.2.1 dX10_chute_118 rfl (lv_at hl 0 rfl) ?_
        obtain ⟨r119, hr119, hf⟩ := k_bdE hf
        refine k_backi X hS (k_runV (As := []) (rest := []) X hS hU (k_sC k_isW_10 hi26) (by decide) rfl vl_X10_267 (c_X0_linesThere X.2.2.2.2.2.2.1 k_isW_10 rfl hi26 hr119) rfl rfl rfl hl.1 ⟨Nat.le_of_ble_eq_true rfl, Nat.le_of_ble_eq_true rfl⟩ (Nat.le_of_ble_eq_true rfl) dX10_chute_119 ⟨Nat.zero_le _, Nat.zero_le _⟩) (fun H locs hU hS => ?_)
        have hz := k_injl0 hf
        subst hz
        exact k_iret (v := r119) X hU hS hr hlk rfl rfl dX10_chute_122
      · replace hf := k_ifP hf c111
        refine lv_iconst (v := 0) X.1 X.2.1 dX10_chute_114 (by decide) ?_
        refine lv_goto (tgt := 122) X.1 X.2.1 dX10_chute_115 (by decide) ?_
        have hz := k_injl0 hf
        subst hz
        exact k_iret (v := 0) X hU hS hr hlk rfl rfl dX10_chute_122
    replace hf := k_ifN hf c31_6
    by_cases c31_7 : a2 = 7
    · replace hf := k_ifP hf c31_7
      refine lv_tableIn (x := a2) (off := 92) (tgt := 123) X.1 X.2.1 dX10_chute_31 (by rw [c31_7]; decide) (by rw [c31_7]; decide) (by rw [c31_7]; rfl) (by decide) ?_
      refine lv_aload_n X.1 X.2.1 dX10_chute_123 rfl (lv_at hl 0 rfl) ?_
      refine k_get (v := .int (u 10 r26 6)) X hU (k_sC k_isW_10 hi26) fl_X10_270 rfl dX10_chute_124 ?_
      refine lv_if_eq (tgt := 134) X.1 X.2.1 dX10_chute_127 (by decide) (fun c127 => ?_) (fun c127 => ?_)
      · replace hf := k_ifP hf c127
        refine lv_iconst (v := 0) X.1 X.2.1 dX10_chute_134 (by decide) ?_
        have hz := k_injl0 hf
        subst hz
        exact k_iret (v := 0) X hU hS hr hlk rfl rfl dX10_chute_135
      · replace hf := k_ifN hf c127
        refine lv_iconst (v := 1) X.1 X.2.1 dX10_chute_130 (by decide) ?_
        refine lv_goto (tgt := 135) X.1 X.2.1 dX10_chute_131 (by decide) ?_
        have hz := k_injl0 hf
        subst hz
        exact k_iret (v := 1) X hU hS hr hlk rfl rfl dX10_chute_135
    replace hf := k_ifN hf c31_7
    have ho31 : (a2).toInt < 0 ∨ 7 < (a2).toInt := by
      have g0 := k_tne (n := 0) (z := 0) c31_0 (by decide)
      have g1 := k_tne (n := 1) (z := 1) c31_1 (by decide)
      have g2 := k_tne (n := 2) (z := 2) c31_2 (by decide)
      have g3 := k_tne (n := 3) (z := 3) c31_3 (by decide)
      have g4 := k_tne (n := 4) (z := 4) c31_4 (by decide)
      have g5 := k_tne (n := 5) (z := 5) c31_5 (by decide)
      have g6 := k_tne (n := 6) (z := 6) c31_6 (by decide)
      have g7 := k_tne (n := 7) (z := 7) c31_7 (by decide)
      omega
    refine lv_tableOut (x := a2) (tgt := 136) X.1 X.2.1 dX10_chute_31 ho31 (by decide) ?_
    exact absurd hf k_ninl0
  · replace hf := k_ifP hf c8
    exact absurd hf k_ninl0
def rx_X10_chute : Room := { frames := 6, cells := 1, slots := 6, locals := 90 }
set_option maxRecDepth 100000 in
set_option maxHeartbeats 4000000 in
theorem x_X10_chute {l : Launch} {D : va_G} {G : Nat → ClassId} {ad : Nat → Nat → Nat} {u : k_U} (hI : k_ok ad) (hlT : l.stackTraces = false) {a1 : Int32} {a2 : Int32} {sz : Nat} {j : Nat} (hf : f_X10_chute u a1 a2 = some (Sum.inr j)) : vx_Met l yX10_chute (.code yX10_chute cX10_chute 4 (some .int) :: lw_g) rx_X10_chute (k_Pre D G ad u sz [.ref (ad 0 0), .int a1, .int a2]) (k_Qn ad sz) (k_XC D G ad u j sz) 1 6 (k_A ad sz) := by
  refine k_xofW (by decide +kernel) hI (Nat.le_of_ble_eq_true rfl) ?_
  intro p e s m args below meth c X hr hlk hex hU hS ls hl
  have hl : lv_has ls 4 [(0, .ref (ad 0 0)), (1, .int a1), (2, .int a2)] := hl
  unfold f_X10_chute at hf
  refine lv_aload_n X.1 X.2.1 dX10_chute_0 rfl (lv_at hl 0 rfl) ?_
  refine k_get (v := .ref (ad 10 0)) X hU sh_0_0 fl_X10_33 rfl dX10_chute_1 ?_
  refine lv_iload_n X.1 X.2.1 dX10_chute_4 rfl (lv_at hl 1 rfl) ?_
  obtain ⟨r5, hr5, hf⟩ := k_bdE hf
  refine k_backi X hS (k_runV (As := [.int a1]) (rest := []) X hS hU (sW_0 k_isW_10) (by decide) rfl vl_X10_234 (c_X9_hasChute X.2.2.2.2.2.2.1 k_isW_10 rfl hr5) rfl rfl rfl hl.1 ⟨Nat.le_of_ble_eq_true rfl, Nat.le_of_ble_eq_true rfl⟩ (Nat.le_of_ble_eq_true rfl) dX10_chute_5 ⟨Nat.zero_le _, Nat.zero_le _⟩) (fun H locs hU hS => ?_)
  refine lv_if_ne (tgt := 21) X.1 X.2.1 dX10_chute_8 (by decide) (fun c8 => ?_) (fun c8 => ?_)
  · replace hf := k_ifN hf c8
    refine lv_aload_n X.1 X.2.1 dX10_chute_21 rfl (lv_at hl 0 rfl) ?_
    refine k_get (v := .ref (ad 10 0)) X hU sh_0_0 fl_X10_33 rfl dX10_chute_22 ?_
    refine lv_iload_n X.1 X.2.1 dX10_chute_25 rfl (lv_at hl 1 rfl) ?_
    obtain ⟨r26, hr26, hf⟩ := k_bdE hf
    refine k_backr X hS (k_runV (As := [.int a1]) (rest := []) X hS hU (sW_0 k_isW_10) (by decide) rfl vl_X10_243 (c_X9_chuteAt X.2.2.2.2.2.2.1 k_isW_10 rfl hr26) rfl rfl rfl hl.1 ⟨Nat.le_of_ble_eq_true rfl, Nat.le_of_ble_eq_true rfl⟩ (Nat.le_of_ble_eq_true rfl) dX10_chute_26 ⟨Nat.zero_le _, Nat.zero_le _⟩) (fun H locs hU hS => ?_)
    obtain ⟨hi26, hf⟩ := k_ckE hf
    refine lv_astore_n (lv' := [(3, .ref (ad 10 r26)), (0, .ref (ad 0 0)), (1, .int a1), (2, .int a2)]) X.1 X.2.1 dX10_chute_29 rfl hl (by decide) rfl (fun ls hl => ?_)
    refine lv_iload_n X.1 X.2.1 dX10_chute_30 rfl (lv_at hl 3 rfl) ?_
    by_cases c31_0 : a2 = 0
    · replace hf := k_ifP hf c31_0
      refine lv_tableIn (x := a2) (off := 45) (tgt := 76) X.1 X.2.1 dX10_chute_31 (by rw [c31_0]; decide) (by rw [c31_0]; decide) (by rw [c31_0]; rfl) (by decide) ?_
      refine lv_aload_n X.1 X.2.1 dX10_chute_76 rfl (lv_at hl 0 rfl) ?_
      refine k_get (v := .int (u 10 r26 0)) X hU (k_sC k_isW_10 hi26) fl_X10_247 rfl dX10_chute_77 ?_
      exact absurd hf k_ninr0
    replace hf := k_ifN hf c31_0
    by_cases c31_1 : a2 = 1
    · replace hf := k_ifP hf c31_1
      refine lv_tableIn (x := a2) (off := 50) (tgt := 81) X.1 X.2.1 dX10_chute_31 (by rw [c31_1]; decide) (by rw [c31_1]; decide) (by rw [c31_1]; rfl) (by decide) ?_
      refine lv_aload_n X.1 X.2.1 dX10_chute_81 rfl (lv_at hl 0 rfl) ?_
      refine k_get (v := .int (u 10 r26 1)) X hU (k_sC k_isW_10 hi26) fl_X10_252 rfl dX10_chute_82 ?_
      exact absurd hf k_ninr0
    replace hf := k_ifN hf c31_1
    by_cases c31_2 : a2 = 2
    · replace hf := k_ifP hf c31_2
      refine lv_tableIn (x := a2) (off := 55) (tgt := 86) X.1 X.2.1 dX10_chute_31 (by rw [c31_2]; decide) (by rw [c31_2]; decide) (by rw [c31_2]; rfl) (by decide) ?_
      refine lv_aload_n X.1 X.2.1 dX10_chute_86 rfl (lv_at hl 0 rfl) ?_
      refine k_get (v := .int (u 10 r26 2)) X hU (k_sC k_isW_10 hi26) fl_X10_255 rfl dX10_chute_87 ?_
      exact absurd hf k_ninr0
    replace hf := k_ifN hf c31_2
    by_cases c31_3 : a2 = 3
    · replace hf := k_ifP hf c31_3
      refine lv_tableIn (x := a2) (off := 60) (tgt := 91) X.1 X.2.1 dX10_chute_31 (by rw [c31_3]; decide) (by rw [c31_3]; decide) (by rw [c31_3]; rfl) (by decide) ?_
      refine lv_aload_n X.1 X.2.1 dX10_chute_91 rfl (lv_at hl 0 rfl) ?_
      refine k_get (v := .int (u 10 r26 3)) X hU (k_sC k_isW_10 hi26) fl_X10_258 rfl dX10_chute_92 ?_
      exact absurd hf k_ninr0
    replace hf := k_ifN hf c31_3
    by_cases c31_4 : a2 = 4
    · replace hf := k_ifP hf c31_4
      refine lv_tableIn (x := a2) (off := 65) (tgt := 96) X.1 X.2.1 dX10_chute_31 (by rw [c31_4]; decide) (by rw [c31_4]; decide) (by rw [c31_4]; rfl) (by decide) ?_
      refine lv_aload_n X.1 X.2.1 dX10_chute_96 rfl (lv_at hl 0 rfl) ?_
      refine k_get (v := .int (u 10 r26 4)) X hU (k_sC k_isW_10 hi26) fl_X10_261 rfl dX10_chute_97 ?_
      exact absurd hf k_ninr0
    replace hf := k_ifN hf c31_4
    by_cases c31_5 : a2 = 5
    · replace hf := k_ifP hf c31_5
      refine lv_tableIn (x := a2) (off := 70) (tgt := 101) X.1 X.2.1 dX10_chute_31 (by rw [c31_5]; decide) (by rw [c31_5]; decide) (by rw [c31_5]; rfl) (by decide) ?_
      refine lv_aload_n X.1 X.2.1 dX10_chute_101 rfl (lv_at hl 0 rfl) ?_
      refine k_get (v := .int (u 10 r26 5)) X hU (k_sC k_isW_10 hi26) fl_X10_264 rfl dX10_chute_102 ?_
      exact absurd hf k_ninr0
    replace hf := k_ifN hf c31_5
    by_cases c31_6 : a2 = 6
    · replace hf := k_ifP hf c31_6
      refine lv_tableIn (x := a2) (off := 75) (tgt := 106) X.1 X.2.1 dX10_chute_31 (by rw [c31_6]; decide) (by rw [c31_6]; decide) (by rw [c31_6]; rfl) (by decide) ?_
      refine lv_aload_n X.1 X.2.1 dX10_chute_106 rfl (lv_at hl 0 rfl) ?_
      refine k_get (v := .int (u 10 r26 5)) X hU (k_sC k_isW_10 hi26) fl_X10_264 rfl dX10_chute_107 ?_
      refine lv_iconst (v := 4) X.1 X.2.1 dX10_chute_110 (by decide) ?_
      refine lv_icmp_ne (tgt := 118) X.1 X.2.1 dX10_chute_111 (by decide) (fun c111 => ?_) (fun c111 => ?_)
      · replace hf := k_ifN hf c111
        refine lv_aload_n X.1 X.2.1 dX10_chute_118 rfl (lv_at hl 0 rfl) ?_
        obtain ⟨r119, hr119, hf⟩ := k_bdE hf
        refine k_backi X hS (k_runV (As := []) (rest := []) X hS hU (k_sC k_isW_10 hi26) (by decide) rfl vl_X10_267 (c_X0_linesThere X.2.2.2.2.2.2.1 k_isW_10 rfl hi26 hr119) rfl rfl rfl hl.1 ⟨Nat.le_of_ble_eq_true rfl, Nat.le_of_ble_eq_true rfl⟩ (Nat.le_of_ble_eq_true rfl) dX10_chute_119 ⟨Nat.zero_le _, Nat.zero_le _⟩) (fun H locs hU hS => ?_)
        exact absurd hf k_ninr0
      · replace hf := k_ifP hf c111
        refine lv_iconst (v := 0) X.1 X.2.1 dX10_chute_114 (by decide) ?_
        refine lv_goto (tgt := 122) X.1 X.2.1 dX10_chute_115 (by decide) ?_
        exact absurd hf k_ninr0
    replace hf := k_ifN hf c31_6
    by_cases c31_7 : a2 = 7
    · replace hf := k_ifP hf c31_7
      refine lv_tableIn (x := a2) (off := 92) (tgt := 123) X.1 X.2.1 dX10_chute_31 (by rw [c31_7]; decide) (by rw [c31_7]; decide) (by rw [c31_7]; rfl) (by decide) ?_
      refine lv_aload_n X.1 X.2.1 dX10_chute_123 rfl (lv_at hl 0 rfl) ?_
      refine k_get (v := .int (u 10 r26 6)) X hU (k_sC k_isW_10 hi26) fl_X10_270 rfl dX10_chute_124 ?_
      refine lv_if_eq (tgt := 134) X.1 X.2.1 dX10_chute_127 (by decide) (fun c127 => ?_) (fun c127 => ?_)
      · replace hf := k_ifP hf c127
        refine lv_iconst (v := 0) X.1 X.2.1 dX10_chute_134 (by decide) ?_
        exact absurd hf k_ninr0
      · replace hf := k_ifN hf c127
        refine lv_iconst (v := 1) X.1 X.2.1 dX10_chute_130 (by decide) ?_
        refine lv_goto (tgt := 135) X.1 X.2.1 dX10_chute_131 (by decide) ?_
        exact absurd hf k_ninr0
    replace hf := k_ifN hf c31_7
    have ho31 : (a2).toInt < 0 ∨ 7 < (a2).toInt := by
      have g0 := k_tne (n := 0) (z := 0) c31_0 (by decide)
      have g1 := k_tne (n := 1) (z := 1) c31_1 (by decide)
      have g2 := k_tne (n := 2) (z := 2) c31_2 (by decide)
      have g3 := k_tne (n := 3) (z := 3) c31_3 (by decide)
      have g4 := k_tne (n := 4) (z := 4) c31_4 (by decide)
      have g5 := k_tne (n := 5) (z := 5) c31_5 (by decide)
      have g6 := k_tne (n := 6) (z := 6) c31_6 (by decide)
      have g7 := k_tne (n := 7) (z := 7) c31_7 (by decide)
      omega
    refine lv_tableOut (x := a2) (tgt := 136) X.1 X.2.1 dX10_chute_31 ho31 (by decide) ?_
    have hz := k_injr0 hf
    subst hz
    exact k_thrSW X hlT hU hS (i := 37) rfl xw_180 (by decide +kernel) rfl hl.1 dX10_chute_136 dX10_chute_139 dX10_chute_140 dX10_chute_143 dX10_chute_146 hex (Nat.le_of_ble_eq_true rfl) (Nat.le_of_ble_eq_true rfl) ⟨Nat.le_of_ble_eq_true rfl, Nat.le_of_ble_eq_true rfl⟩ hlk ⟨Nat.le_of_ble_eq_true rfl, Nat.le_of_ble_eq_true rfl⟩
  · replace hf := k_ifP hf c8
    have hz := k_injr0 hf
    subst hz
    exact k_thrS X hlT hU hS (i := 36) rfl xw_238 (by decide +kernel) rfl hl.1 dX10_chute_11 dX10_chute_14 dX10_chute_15 dX10_chute_17 dX10_chute_20 hex (Nat.le_of_ble_eq_true rfl) (Nat.le_of_ble_eq_true rfl) ⟨Nat.le_of_ble_eq_true rfl, Nat.le_of_ble_eq_true rfl⟩ hlk ⟨Nat.le_of_ble_eq_true rfl, Nat.le_of_ble_eq_true rfl⟩
def rm_X10_line : Room := { frames := 2, cells := 0, slots := 0, locals := 42 }
set_option maxRecDepth 100000 in
set_option maxHeartbeats 4000000 in
theorem c_X10_line {l : Launch} {D : va_G} {G : Nat → ClassId} {ad : Nat → Nat → Nat} {u : k_U} (hI : k_ok ad) {a1 : Int32} {a2 : Int32} {sz : Nat} {r2 : Int32} (hf : f_X10_line u a1 a2 = some (Sum.inl r2)) : Met l yX10_line (.code yX10_line cX10_line 4 (some .int) :: lw_g) rm_X10_line (k_Pre D G ad u sz [.ref (ad 0 0), .int a1, .int a2]) (k_Qi D G ad u r2 sz) 0 0 (k_A ad sz) := by
  refine k_ofW (by decide +kernel) hI (Nat.le_of_ble_eq_true rfl) ?_
  intro p e s m args below meth c X hr hlk hU hS ls hl
  have hl : lv_has ls 4 [(0, .ref (ad 0 0)), (1, .int a1), (2, .int a2)] := hl
  have J42 : ∀ (H : Heap) (locs : List Loc) (ls : Array Slot), k_Uv D G ad u H → va_S (k_A ad sz) s.heap H locs → lv_has ls 4 [] → f_X10_line_42 u a1 a2 = some (Sum.inl r2) → W p l e rm_X10_line s m args below meth c H locs 0 0 (MQ below (k_Qi D G ad u r2 sz) args s 0 0 (k_A ad sz)) (F0 m 42 ls []) := by
    intro H locs ls hU hS hl hf
    unfold f_X10_line_42 at hf
    exact absurd hf k_ninl0
  unfold f_X10_line at hf
  refine lv_aload_n X.1 X.2.1 dX10_line_0 rfl (lv_at hl 0 rfl) ?_
  refine k_get (v := .ref (ad 10 0)) X hU sh_0_0 fl_X10_33 rfl dX10_line_1 ?_
  refine lv_iload_n X.1 X.2.1 dX10_line_4 rfl (lv_at hl 1 rfl) ?_
  obtain ⟨r5, hr5, hf⟩ := k_bdE hf
  refine k_backi X hS (k_runV (As := [.int a1]) (rest := []) X hS hU (sW_0 k_isW_10) (by decide) rfl vl_X10_234 (c_X9_hasChute X.2.2.2.2.2.2.1 k_isW_10 rfl hr5) rfl rfl rfl hl.1 ⟨Nat.le_of_ble_eq_true rfl, Nat.le_of_ble_eq_true rfl⟩ (Nat.le_of_ble_eq_true rfl) dX10_line_5 ⟨Nat.zero_le _, Nat.zero_le _⟩) (fun H locs hU hS => ?_)
  refine lv_if_ne (tgt := 21) X.1 X.2.1 dX10_line_8 (by decide) (fun c8 => ?_) (fun c8 => ?_)
  · replace hf := k_ifN hf c8
    refine lv_aload_n X.1 X.2.1 dX10_line_21 rfl (lv_at hl 0 rfl) ?_
    refine k_get (v := .ref (ad 10 0)) X hU sh_0_0 fl_X10_33 rfl dX10_line_22 ?_
    refine lv_iload_n X.1 X.2.1 dX10_line_25 rfl (lv_at hl 1 rfl) ?_
    obtain ⟨r26, hr26, hf⟩ := k_bdE hf
    refine k_backr X hS (k_runV (As := [.int a1]) (rest := []) X hS hU (sW_0 k_isW_10) (by decide) rfl vl_X10_243 (c_X9_chuteAt X.2.2.2.2.2.2.1 k_isW_10 rfl hr26) rfl rfl rfl hl.1 ⟨Nat.le_of_ble_eq_true rfl, Nat.le_of_ble_eq_true rfl⟩ (Nat.le_of_ble_eq_true rfl) dX10_line_26 ⟨Nat.zero_le _, Nat.zero_le _⟩) (fun H locs hU hS => ?_)
    obtain ⟨hi26, hf⟩ := k_ckE hf
    refine lv_astore_n (lv' := [(3, .ref (ad 10 r26)), (0, .ref (ad 0 0)), (1, .int a1), (2, .int a2)]) X.1 X.2.1 dX10_line_29 rfl hl (by decide) rfl (fun ls hl => ?_)
    refine lv_iload_n X.1 X.2.1 dX10_line_30 rfl (lv_at hl 3 rfl) ?_
    refine lv_if_lt (tgt := 42) X.1 X.2.1 dX10_line_31 (by decide) (fun c31 => ?_) (fun c31 => ?_)
    · replace hf := k_ifP hf c31
      exact J42 _ _ _ hU hS (lv_sub hl [] rfl) hf
    · replace hf := k_ifN hf c31
      refine lv_iload_n X.1 X.2.1 dX10_line_34 rfl (lv_at hl 3 rfl) ?_
      refine lv_aload_n X.1 X.2.1 dX10_line_35 rfl (lv_at hl 0 rfl) ?_
      refine k_get (v := .int (u 10 r26 1)) X hU (k_sC k_isW_10 hi26) fl_X10_252 rfl dX10_line_36 ?_
      refine lv_icmp_lt (tgt := 53) X.1 X.2.1 dX10_line_39 (by decide) (fun c39 => ?_) (fun c39 => ?_)
      · replace hf := k_ifP hf c39
        refine lv_iload_n X.1 X.2.1 dX10_line_53 rfl (lv_at hl 3 rfl) ?_
        refine lv_aload_n X.1 X.2.1 dX10_line_54 rfl (lv_at hl 0 rfl) ?_
        refine k_get (v := .int (u 10 r26 7)) X hU (k_sC k_isW_10 hi26) fl_X10_277 rfl dX10_line_55 ?_
        refine lv_icmp_ge (tgt := 65) X.1 X.2.1 dX10_line_58 (by decide) (fun c58 => ?_) (fun c58 => ?_)
        · replace hf := k_ifP hf c58
          refine lv_aload_n X.1 X.2.1 dX10_line_65 rfl (lv_at hl 0 rfl) ?_
          refine lv_iload_n X.1 X.2.1 dX10_line_66 rfl (lv_at hl 3 rfl) ?_
          obtain ⟨r67, hr67, hf⟩ := k_bdE hf
          refine k_backi X hS (k_runV (As := [.int a2]) (rest := []) X hS hU (k_sC k_isW_10 hi26) (by decide) rfl vl_X10_280 (c_X0_strengthOf X.2.2.2.2.2.2.1 k_isW_10 rfl hi26 hr67) rfl rfl rfl hl.1 ⟨Nat.le_of_ble_eq_true rfl, Nat.le_of_ble_eq_true rfl⟩ (Nat.le_of_ble_eq_true rfl) dX10_line_67 ⟨Nat.zero_le _, Nat.zero_le _⟩) (fun H locs hU hS => ?_)
          have hz := k_injl0 hf
          subst hz
          exact k_iret (v := r67) X hU hS hr hlk rfl rfl dX10_line_70
        · replace hf := k_ifN hf c58
          refine lv_iconst (v := (-1)) X.1 X.2.1 dX10_line_61 (by decide) ?_
          refine lv_goto (tgt := 70) X.1 X.2.1 dX10_line_62 (by decide) ?_
          have hz := k_injl0 hf
          subst hz
          exact k_iret (v := (-1)) X hU hS hr hlk rfl rfl dX10_line_70
      · replace hf := k_ifN hf c39
        exact J42 _ _ _ hU hS (lv_sub hl [] rfl) hf
  · replace hf := k_ifP hf c8
    exact absurd hf k_ninl0
def rx_X10_line : Room := { frames := 6, cells := 1, slots := 6, locals := 90 }
set_option maxRecDepth 100000 in
set_option maxHeartbeats 4000000 in
theorem x_X10_line {l : Launch} {D : va_G} {G : Nat → ClassId} {ad : Nat → Nat → Nat} {u : k_U} (hI : k_ok ad) (hlT : l.stackTraces = false) {a1 : Int32} {a2 : Int32} {sz : Nat} {j : Nat} (hf : f_X10_line u a1 a2 = some (Sum.inr j)) : vx_Met l yX10_line (.code yX10_line cX10_line 4 (some .int) :: lw_g) rx_X10_line (k_Pre D G ad u sz [.ref (ad 0 0), .int a1, .int a2]) (k_Qn ad sz) (k_XC D G ad u j sz) 1 6 (k_A ad sz) := by
  refine k_xofW (by decide +kernel) hI (Nat.le_of_ble_eq_true rfl) ?_
  intro p e s m args below meth c X hr hlk hex hU hS ls hl
  have hl : lv_has ls 4 [(0, .ref (ad 0 0)), (1, .int a1), (2, .int a2)] := hl
  have J42 : ∀ (H : Heap) (locs : List Loc) (ls : Array Slot), k_Uv D G ad u H → va_S (k_A ad sz) s.heap H locs → lv_has ls 4 [] → f_X10_line_42 u a1 a2 = some (Sum.inr j) → W p l e rx_X10_line s m args below meth c H locs 0 0 (vx_MQ below (k_Qn ad sz) (k_XC D G ad u j sz) args s 1 6 (k_A ad sz)) (F0 m 42 ls []) := by
    intro H locs ls hU hS hl hf
    unfold f_X10_line_42 at hf
    have hz := k_injr0 hf
    subst hz
    exact k_thrSW X hlT hU hS (i := 38) rfl xw_238 (by decide +kernel) rfl hl.1 dX10_line_42 dX10_line_45 dX10_line_46 dX10_line_49 dX10_line_52 hex (Nat.le_of_ble_eq_true rfl) (Nat.le_of_ble_eq_true rfl) ⟨Nat.le_of_ble_eq_true rfl, Nat.le_of_ble_eq_true rfl⟩ hlk ⟨Nat.le_of_ble_eq_true rfl, Nat.le_of_ble_eq_true rfl⟩
  unfold f_X10_line at hf
  refine lv_aload_n X.1 X.2.1 dX10_line_0 rfl (lv_at hl 0 rfl) ?_
  refine k_get (v := .ref (ad 10 0)) X hU sh_0_0 fl_X10_33 rfl dX10_line_1 ?_
  refine lv_iload_n X.1 X.2.1 dX10_line_4 rfl (lv_at hl 1 rfl) ?_
  obtain ⟨r5, hr5, hf⟩ := k_bdE hf
  refine k_backi X hS (k_runV (As := [.int a1]) (rest := []) X hS hU (sW_0 k_isW_10) (by decide) rfl vl_X10_234 (c_X9_hasChute X.2.2.2.2.2.2.1 k_isW_10 rfl hr5) rfl rfl rfl hl.1 ⟨Nat.le_of_ble_eq_true rfl, Nat.le_of_ble_eq_true rfl⟩ (Nat.le_of_ble_eq_true rfl) dX10_line_5 ⟨Nat.zero_le _, Nat.zero_le _⟩) (fun H locs hU hS => ?_)
  refine lv_if_ne (tgt := 21) X.1 X.2.1 dX10_line_8 (by decide) (fun c8 => ?_) (fun c8 => ?_)
  · replace hf := k_ifN hf c8
    refine lv_aload_n X.1 X.2.1 dX10_line_21 rfl (lv_at hl 0 rfl) ?_
    refine k_get (v := .ref (ad 10 0)) X hU sh_0_0 fl_X10_33 rfl dX10_line_22 ?_
    refine lv_iload_n X.1 X.2.1 dX10_line_25 rfl (lv_at hl 1 rfl) ?_
    obtain ⟨r26, hr26, hf⟩ := k_bdE hf
    refine k_backr X hS (k_runV (As := [.int a1]) (rest := []) X hS hU (sW_0 k_isW_10) (by decide) rfl vl_X10_243 (c_X9_chuteAt X.2.2.2.2.2.2.1 k_isW_10 rfl hr26) rfl rfl rfl hl.1 ⟨Nat.le_of_ble_eq_true rfl, Nat.le_of_ble_eq_true rfl⟩ (Nat.le_of_ble_eq_true rfl) dX10_line_26 ⟨Nat.zero_le _, Nat.zero_le _⟩) (fun H locs hU hS => ?_)
    obtain ⟨hi26, hf⟩ := k_ckE hf
    refine lv_astore_n (lv' := [(3, .ref (ad 10 r26)), (0, .ref (ad 0 0)), (1, .int a1), (2, .int a2)]) X.1 X.2.1 dX10_line_29 rfl hl (by decide) rfl (fun ls hl => ?_)
    refine lv_iload_n X.1 X.2.1 dX10_line_30 rfl (lv_at hl 3 rfl) ?_
    refine lv_if_lt (tgt := 42) X.1 X.2.1 dX10_line_31 (by decide) (fun c31 => ?_) (fun c31 => ?_)
    · replace hf := k_ifP hf c31
      exact J42 _ _ _ hU hS (lv_sub hl [] rfl) hf
    · replace hf := k_ifN hf c31
      refine lv_iload_n X.1 X.2.1 dX10_line_34 rfl (lv_at hl 3 rfl) ?_
      refine lv_aload_n X.1 X.2.1 dX10_line_35 rfl (lv_at hl 0 rfl) ?_
      refine k_get (v := .int (u 10 r26 1)) X hU (k_sC k_isW_10 hi26) fl_X10_252 rfl dX10_line_36 ?_
      refine lv_icmp_lt (tgt := 53) X.1 X.2.1 dX10_line_39 (by decide) (fun c39 => ?_) (fun c39 => ?_)
      · replace hf := k_ifP hf c39
        refine lv_iload_n X.1 X.2.1 dX10_line_53 rfl (lv_at hl 3 rfl) ?_
        refine lv_aload_n X.1 X.2.1 dX10_line_54 rfl (lv_at hl 0 rfl) ?_
        refine k_get (v := .int (u 10 r26 7)) X hU (k_sC k_isW_10 hi26) fl_X10_277 rfl dX10_line_55 ?_
        refine lv_icmp_ge (tgt := 65) X.1 X.2.1 dX10_line_58 (by decide) (fun c58 => ?_) (fun c58 => ?_)
        · replace hf := k_ifP hf c58
          refine lv_aload_n X.1 X.2.1 dX10_line_65 rfl (lv_at hl 0 rfl) ?_
          refine lv_iload_n X.1 X.2.1 dX10_line_66 rfl (lv_at hl 3 rfl) ?_
          obtain ⟨r67, hr67, hf⟩ := k_bdE hf
          refine k_backi X hS (k_runV (As := [.int a2]) (rest := []) X hS hU (k_sC k_isW_10 hi26) (by decide) rfl vl_X10_280 (c_X0_strengthOf X.2.2.2.2.2.2.1 k_isW_10 rfl hi26 hr67) rfl rfl rfl hl.1 ⟨Nat.le_of_ble_eq_true rfl, Nat.le_of_ble_eq_true rfl⟩ (Nat.le_of_ble_eq_true rfl) dX10_line_67 ⟨Nat.zero_le _, Nat.zero_le _⟩) (fun H locs hU hS => ?_)
          exact absurd hf k_ninr0
        · replace hf := k_ifN hf c58
          refine lv_iconst (v := (-1)) X.1 X.2.1 dX10_line_61 (by decide) ?_
          refine lv_goto (tgt := 70) X.1 X.2.1 dX10_line_62 (by decide) ?_
          exact absurd hf k_ninr0
      · replace hf := k_ifN hf c39
        exact J42 _ _ _ hU hS (lv_sub hl [] rfl) hf
  · replace hf := k_ifP hf c8
    have hz := k_injr0 hf
    subst hz
    exact k_thrS X hlT hU hS (i := 36) rfl xw_238 (by decide +kernel) rfl hl.1 dX10_line_11 dX10_line_14 dX10_line_15 dX10_line_17 dX10_line_20 hex (Nat.le_of_ble_eq_true rfl) (Nat.le_of_ble_eq_true rfl) ⟨Nat.le_of_ble_eq_true rfl, Nat.le_of_ble_eq_true rfl⟩ hlk ⟨Nat.le_of_ble_eq_true rfl, Nat.le_of_ble_eq_true rfl⟩
def rm_X10_targetAt : Room := { frames := 1, cells := 0, slots := 0, locals := 24 }
set_option maxRecDepth 100000 in
set_option maxHeartbeats 4000000 in
theorem c_X10_targetAt {l : Launch} {D : va_G} {G : Nat → ClassId} {ad : Nat → Nat → Nat} {u : k_U} (hI : k_ok ad) {a1 : Int32} {sz : Nat} {r2 : Int32} (hf : f_X10_targetAt u a1 = some (Sum.inl r2)) : Met l yX10_targetAt (.code yX10_targetAt cX10_targetAt 2 (some .int) :: lw_g) rm_X10_targetAt (k_Pre D G ad u sz [.ref (ad 0 0), .int a1]) (k_Qi D G ad u r2 sz) 0 0 (k_A ad sz) := by
  refine k_ofW (by decide +kernel) hI (Nat.le_of_ble_eq_true rfl) ?_
  intro p e s m args below meth c X hr hlk hU hS ls hl
  have hl : lv_has ls 2 [(0, .ref (ad 0 0)), (1, .int a1)] := hl
  have J11 : ∀ (H : Heap) (locs : List Loc) (ls : Array Slot), k_Uv D G ad u H → va_S (k_A ad sz) s.heap H locs → lv_has ls 2 [] → f_X10_targetAt_11 u a1 = some (Sum.inl r2) → W p l e rm_X10_targetAt s m args below meth c H locs 0 0 (MQ below (k_Qi D G ad u r2 sz) args s 0 0 (k_A ad sz)) (F0 m 11 ls []) := by
    intro H locs ls hU hS hl hf
    unfold f_X10_targetAt_11 at hf
    exact absurd hf k_ninl0
  unfold f_X10_targetAt at hf
  refine lv_iload_n X.1 X.2.1 dX10_targetAt_0 rfl (lv_at hl 1 rfl) ?_
  refine lv_if_lt (tgt := 11) X.1 X.2.1 dX10_targetAt_1 (by decide) (fun c1 => ?_) (fun c1 => ?_)
  · replace hf := k_ifP hf c1
    exact J11 _ _ _ hU hS (lv_sub hl [] rfl) hf
  · replace hf := k_ifN hf c1
    refine lv_iload_n X.1 X.2.1 dX10_targetAt_4 rfl (lv_at hl 1 rfl) ?_
    refine lv_sipush (v := 30000) X.1 X.2.1 dX10_targetAt_5 (by decide) ?_
    refine lv_icmp_le (tgt := 22) X.1 X.2.1 dX10_targetAt_8 (by decide) (fun c8 => ?_) (fun c8 => ?_)
    · replace hf := k_ifP hf c8
      refine lv_aload_n X.1 X.2.1 dX10_targetAt_22 rfl (lv_at hl 0 rfl) ?_
      refine k_get (v := .ref (ad 10 0)) X hU sh_0_0 fl_X10_33 rfl dX10_targetAt_23 ?_
      refine k_get (v := .ref (ad 10 3)) X hU (sW_0 k_isW_10) fl_X10_191 rfl dX10_targetAt_26 ?_
      refine lv_iload_n X.1 X.2.1 dX10_targetAt_29 rfl (lv_at hl 1 rfl) ?_
      refine lv_iconst (v := (-1)) X.1 X.2.1 dX10_targetAt_30 (by decide) ?_
      obtain ⟨r31, hr31, hf⟩ := k_bdE hf
      refine k_backi X hS (k_runV (As := [.int a1, .int (-1)]) (rest := []) X hS hU (k_sT k_isW_10 k_isT_3) (by decide) rfl vl_X10_285 (c_X2_valueAtOrAbove X.2.2.2.2.2.2.1 k_isW_10 rfl k_isT_3 hr31) rfl rfl rfl hl.1 ⟨Nat.le_of_ble_eq_true rfl, Nat.le_of_ble_eq_true rfl⟩ (Nat.le_of_ble_eq_true rfl) dX10_targetAt_31 ⟨Nat.zero_le _, Nat.zero_le _⟩) (fun H locs hU hS => ?_)
      have hz := k_injl0 hf
      subst hz
      exact k_iret (v := r31) X hU hS hr hlk rfl rfl dX10_targetAt_34
    · replace hf := k_ifN hf c8
      exact J11 _ _ _ hU hS (lv_sub hl [] rfl) hf
def rx_X10_targetAt : Room := { frames := 6, cells := 1, slots := 6, locals := 90 }
set_option maxRecDepth 100000 in
set_option maxHeartbeats 4000000 in
theorem x_X10_targetAt {l : Launch} {D : va_G} {G : Nat → ClassId} {ad : Nat → Nat → Nat} {u : k_U} (hI : k_ok ad) (hlT : l.stackTraces = false) {a1 : Int32} {sz : Nat} {j : Nat} (hf : f_X10_targetAt u a1 = some (Sum.inr j)) : vx_Met l yX10_targetAt (.code yX10_targetAt cX10_targetAt 2 (some .int) :: lw_g) rx_X10_targetAt (k_Pre D G ad u sz [.ref (ad 0 0), .int a1]) (k_Qn ad sz) (k_XC D G ad u j sz) 1 6 (k_A ad sz) := by
  refine k_xofW (by decide +kernel) hI (Nat.le_of_ble_eq_true rfl) ?_
  intro p e s m args below meth c X hr hlk hex hU hS ls hl
  have hl : lv_has ls 2 [(0, .ref (ad 0 0)), (1, .int a1)] := hl
  have J11 : ∀ (H : Heap) (locs : List Loc) (ls : Array Slot), k_Uv D G ad u H → va_S (k_A ad sz) s.heap H locs → lv_has ls 2 [] → f_X10_targetAt_11 u a1 = some (Sum.inr j) → W p l e rx_X10_targetAt s m args below meth c H locs 0 0 (vx_MQ below (k_Qn ad sz) (k_XC D G ad u j sz) args s 1 6 (k_A ad sz)) (F0 m 11 ls []) := by
    intro H locs ls hU hS hl hf
    unfold f_X10_targetAt_11 at hf
    have hz := k_injr0 hf
    subst hz
    exact k_thrSW X hlT hU hS (i := 39) rfl xw_180 (by decide +kernel) rfl hl.1 dX10_targetAt_11 dX10_targetAt_14 dX10_targetAt_15 dX10_targetAt_18 dX10_targetAt_21 hex (Nat.le_of_ble_eq_true rfl) (Nat.le_of_ble_eq_true rfl) ⟨Nat.le_of_ble_eq_true rfl, Nat.le_of_ble_eq_true rfl⟩ hlk ⟨Nat.le_of_ble_eq_true rfl, Nat.le_of_ble_eq_true rfl⟩
  unfold f_X10_targetAt at hf
  refine lv_iload_n X.1 X.2.1 dX10_targetAt_0 rfl (lv_at hl 1 rfl) ?_
  refine lv_if_lt (tgt := 11) X.1 X.2.1 dX10_targetAt_1 (by decide) (fun c1 => ?_) (fun c1 => ?_)
  · replace hf := k_ifP hf c1
    exact J11 _ _ _ hU hS (lv_sub hl [] rfl) hf
  · replace hf := k_ifN hf c1
    refine lv_iload_n X.1 X.2.1 dX10_targetAt_4 rfl (lv_at hl 1 rfl) ?_
    refine lv_sipush (v := 30000) X.1 X.2.1 dX10_targetAt_5 (by decide) ?_
    refine lv_icmp_le (tgt := 22) X.1 X.2.1 dX10_targetAt_8 (by decide) (fun c8 => ?_) (fun c8 => ?_)
    · replace hf := k_ifP hf c8
      refine lv_aload_n X.1 X.2.1 dX10_targetAt_22 rfl (lv_at hl 0 rfl) ?_
      refine k_get (v := .ref (ad 10 0)) X hU sh_0_0 fl_X10_33 rfl dX10_targetAt_23 ?_
      refine k_get (v := .ref (ad 10 3)) X hU (sW_0 k_isW_10) fl_X10_191 rfl dX10_targetAt_26 ?_
      refine lv_iload_n X.1 X.2.1 dX10_targetAt_29 rfl (lv_at hl 1 rfl) ?_
      refine lv_iconst (v := (-1)) X.1 X.2.1 dX10_targetAt_30 (by decide) ?_
      obtain ⟨r31, hr31, hf⟩ := k_bdE hf
      refine k_backi X hS (k_runV (As := [.int a1, .int (-1)]) (rest := []) X hS hU (k_sT k_isW_10 k_isT_3) (by decide) rfl vl_X10_285 (c_X2_valueAtOrAbove X.2.2.2.2.2.2.1 k_isW_10 rfl k_isT_3 hr31) rfl rfl rfl hl.1 ⟨Nat.le_of_ble_eq_true rfl, Nat.le_of_ble_eq_true rfl⟩ (Nat.le_of_ble_eq_true rfl) dX10_targetAt_31 ⟨Nat.zero_le _, Nat.zero_le _⟩) (fun H locs hU hS => ?_)
      exact absurd hf k_ninr0
    · replace hf := k_ifN hf c8
      exact J11 _ _ _ hU hS (lv_sub hl [] rfl) hf
def rm_X10_windAt : Room := { frames := 1, cells := 0, slots := 0, locals := 24 }
set_option maxRecDepth 100000 in
set_option maxHeartbeats 4000000 in
theorem c_X10_windAt {l : Launch} {D : va_G} {G : Nat → ClassId} {ad : Nat → Nat → Nat} {u : k_U} (hI : k_ok ad) {a1 : Int32} {sz : Nat} {r2 : Int32} (hf : f_X10_windAt u a1 = some (Sum.inl r2)) : Met l yX10_windAt (.code yX10_windAt cX10_windAt 2 (some .int) :: lw_g) rm_X10_windAt (k_Pre D G ad u sz [.ref (ad 0 0), .int a1]) (k_Qi D G ad u r2 sz) 0 0 (k_A ad sz) := by
  refine k_ofW (by decide +kernel) hI (Nat.le_of_ble_eq_true rfl) ?_
  intro p e s m args below meth c X hr hlk hU hS ls hl
  have hl : lv_has ls 2 [(0, .ref (ad 0 0)), (1, .int a1)] := hl
  have J11 : ∀ (H : Heap) (locs : List Loc) (ls : Array Slot), k_Uv D G ad u H → va_S (k_A ad sz) s.heap H locs → lv_has ls 2 [] → f_X10_windAt_11 u a1 = some (Sum.inl r2) → W p l e rm_X10_windAt s m args below meth c H locs 0 0 (MQ below (k_Qi D G ad u r2 sz) args s 0 0 (k_A ad sz)) (F0 m 11 ls []) := by
    intro H locs ls hU hS hl hf
    unfold f_X10_windAt_11 at hf
    exact absurd hf k_ninl0
  unfold f_X10_windAt at hf
  refine lv_iload_n X.1 X.2.1 dX10_windAt_0 rfl (lv_at hl 1 rfl) ?_
  refine lv_if_lt (tgt := 11) X.1 X.2.1 dX10_windAt_1 (by decide) (fun c1 => ?_) (fun c1 => ?_)
  · replace hf := k_ifP hf c1
    exact J11 _ _ _ hU hS (lv_sub hl [] rfl) hf
  · replace hf := k_ifN hf c1
    refine lv_iload_n X.1 X.2.1 dX10_windAt_4 rfl (lv_at hl 1 rfl) ?_
    refine lv_sipush (v := 30000) X.1 X.2.1 dX10_windAt_5 (by decide) ?_
    refine lv_icmp_le (tgt := 22) X.1 X.2.1 dX10_windAt_8 (by decide) (fun c8 => ?_) (fun c8 => ?_)
    · replace hf := k_ifP hf c8
      refine lv_aload_n X.1 X.2.1 dX10_windAt_22 rfl (lv_at hl 0 rfl) ?_
      refine k_get (v := .ref (ad 10 0)) X hU sh_0_0 fl_X10_33 rfl dX10_windAt_23 ?_
      refine k_get (v := .ref (ad 10 6)) X hU (sW_0 k_isW_10) fl_X10_198 rfl dX10_windAt_26 ?_
      refine lv_iload_n X.1 X.2.1 dX10_windAt_29 rfl (lv_at hl 1 rfl) ?_
      refine lv_iconst (v := 0) X.1 X.2.1 dX10_windAt_30 (by decide) ?_
      obtain ⟨r31, hr31, hf⟩ := k_bdE hf
      refine k_backi X hS (k_runV (As := [.int a1, .int 0]) (rest := []) X hS hU (k_sT k_isW_10 k_isT_6) (by decide) rfl vl_X10_289 (c_X2_valueAtOrBelow X.2.2.2.2.2.2.1 k_isW_10 rfl k_isT_6 hr31) rfl rfl rfl hl.1 ⟨Nat.le_of_ble_eq_true rfl, Nat.le_of_ble_eq_true rfl⟩ (Nat.le_of_ble_eq_true rfl) dX10_windAt_31 ⟨Nat.zero_le _, Nat.zero_le _⟩) (fun H locs hU hS => ?_)
      have hz := k_injl0 hf
      subst hz
      exact k_iret (v := r31) X hU hS hr hlk rfl rfl dX10_windAt_34
    · replace hf := k_ifN hf c8
      exact J11 _ _ _ hU hS (lv_sub hl [] rfl) hf
def rx_X10_windAt : Room := { frames := 6, cells := 1, slots := 6, locals := 90 }
set_option maxRecDepth 100000 in
set_option maxHeartbeats 4000000 in
theorem x_X10_windAt {l : Launch} {D : va_G} {G : Nat → ClassId} {ad : Nat → Nat → Nat} {u : k_U} (hI : k_ok ad) (hlT : l.stackTraces = false) {a1 : Int32} {sz : Nat} {j : Nat} (hf : f_X10_windAt u a1 = some (Sum.inr j)) : vx_Met l yX10_windAt (.code yX10_windAt cX10_windAt 2 (some .int) :: lw_g) rx_X10_windAt (k_Pre D G ad u sz [.ref (ad 0 0), .int a1]) (k_Qn ad sz) (k_XC D G ad u j sz) 1 6 (k_A ad sz) := by
  refine k_xofW (by decide +kernel) hI (Nat.le_of_ble_eq_true rfl) ?_
  intro p e s m args below meth c X hr hlk hex hU hS ls hl
  have hl : lv_has ls 2 [(0, .ref (ad 0 0)), (1, .int a1)] := hl
  have J11 : ∀ (H : Heap) (locs : List Loc) (ls : Array Slot), k_Uv D G ad u H → va_S (k_A ad sz) s.heap H locs → lv_has ls 2 [] → f_X10_windAt_11 u a1 = some (Sum.inr j) → W p l e rx_X10_windAt s m args below meth c H locs 0 0 (vx_MQ below (k_Qn ad sz) (k_XC D G ad u j sz) args s 1 6 (k_A ad sz)) (F0 m 11 ls []) := by
    intro H locs ls hU hS hl hf
    unfold f_X10_windAt_11 at hf
    have hz := k_injr0 hf
    subst hz
    exact k_thrSW X hlT hU hS (i := 39) rfl xw_180 (by decide +kernel) rfl hl.1 dX10_windAt_11 dX10_windAt_14 dX10_windAt_15 dX10_windAt_18 dX10_windAt_21 hex (Nat.le_of_ble_eq_true rfl) (Nat.le_of_ble_eq_true rfl) ⟨Nat.le_of_ble_eq_true rfl, Nat.le_of_ble_eq_true rfl⟩ hlk ⟨Nat.le_of_ble_eq_true rfl, Nat.le_of_ble_eq_true rfl⟩
  unfold f_X10_windAt at hf
  refine lv_iload_n X.1 X.2.1 dX10_windAt_0 rfl (lv_at hl 1 rfl) ?_
  refine lv_if_lt (tgt := 11) X.1 X.2.1 dX10_windAt_1 (by decide) (fun c1 => ?_) (fun c1 => ?_)
  · replace hf := k_ifP hf c1
    exact J11 _ _ _ hU hS (lv_sub hl [] rfl) hf
  · replace hf := k_ifN hf c1
    refine lv_iload_n X.1 X.2.1 dX10_windAt_4 rfl (lv_at hl 1 rfl) ?_
    refine lv_sipush (v := 30000) X.1 X.2.1 dX10_windAt_5 (by decide) ?_
    refine lv_icmp_le (tgt := 22) X.1 X.2.1 dX10_windAt_8 (by decide) (fun c8 => ?_) (fun c8 => ?_)
    · replace hf := k_ifP hf c8
      refine lv_aload_n X.1 X.2.1 dX10_windAt_22 rfl (lv_at hl 0 rfl) ?_
      refine k_get (v := .ref (ad 10 0)) X hU sh_0_0 fl_X10_33 rfl dX10_windAt_23 ?_
      refine k_get (v := .ref (ad 10 6)) X hU (sW_0 k_isW_10) fl_X10_198 rfl dX10_windAt_26 ?_
      refine lv_iload_n X.1 X.2.1 dX10_windAt_29 rfl (lv_at hl 1 rfl) ?_
      refine lv_iconst (v := 0) X.1 X.2.1 dX10_windAt_30 (by decide) ?_
      obtain ⟨r31, hr31, hf⟩ := k_bdE hf
      refine k_backi X hS (k_runV (As := [.int a1, .int 0]) (rest := []) X hS hU (k_sT k_isW_10 k_isT_6) (by decide) rfl vl_X10_289 (c_X2_valueAtOrBelow X.2.2.2.2.2.2.1 k_isW_10 rfl k_isT_6 hr31) rfl rfl rfl hl.1 ⟨Nat.le_of_ble_eq_true rfl, Nat.le_of_ble_eq_true rfl⟩ (Nat.le_of_ble_eq_true rfl) dX10_windAt_31 ⟨Nat.zero_le _, Nat.zero_le _⟩) (fun H locs hU hS => ?_)
      exact absurd hf k_ninr0
    · replace hf := k_ifN hf c8
      exact J11 _ _ _ hU hS (lv_sub hl [] rfl) hf
def rm_X8_has : Room := { frames := 0, cells := 0, slots := 0, locals := 0 }
set_option maxRecDepth 100000 in
set_option maxHeartbeats 4000000 in
theorem c_X8_has {l : Launch} {D : va_G} {G : Nat → ClassId} {ad : Nat → Nat → Nat} {u : k_U} (hI : k_ok ad) {k : Nat} (hk : k_isW k) {w : k_M} (hw : u k = w) {a1 : Int32} {sz : Nat} {r : Int32} (hf : f_X8_has w a1 = some r) : Met l yX8_has (.code yX8_has cX8_has 2 (some .boolean) :: lw_g) rm_X8_has (k_Pre D G ad u sz [.ref (ad k 9), .int a1]) (k_Qi D G ad u r sz) 0 0 (k_A ad sz) := by
  refine k_ofW (by decide +kernel) hI (Nat.le_of_ble_eq_true rfl) ?_
  intro p e s m args below meth c X hr hlk hU hS ls hl
  have hl : lv_has ls 2 [(0, .ref (ad k 9)), (1, .int a1)] := hl
  have hU : k_Uv D G ad (k_uc u k w) s.heap := by rw [← hw, k_uc_id]; exact hU
  unfold f_X8_has at hf
  refine lv_iload_n X.1 X.2.1 dX8_has_0 rfl (lv_at hl 1 rfl) ?_
  refine lv_if_lt (tgt := 16) X.1 X.2.1 dX8_has_1 (by decide) (fun c1 => ?_) (fun c1 => ?_)
  · replace hf := k_ifP hf c1
    refine lv_iconst (v := 0) X.1 X.2.1 dX8_has_16 (by decide) ?_
    rw [← hw, k_uc_id] at hU
    have hz := Option.some.inj hf
    subst hz
    exact k_iret (v := 0) X hU hS hr hlk rfl rfl dX8_has_17
  · replace hf := k_ifN hf c1
    refine lv_iload_n X.1 X.2.1 dX8_has_4 rfl (lv_at hl 1 rfl) ?_
    refine lv_aload_n X.1 X.2.1 dX8_has_5 rfl (lv_at hl 0 rfl) ?_
    refine k_getw (v := .int (w 9 3)) X hU (sW_9 hk) fl_X8_27 rfl dX8_has_6 ?_
    refine lv_icmp_ge (tgt := 16) X.1 X.2.1 dX8_has_9 (by decide) (fun c9 => ?_) (fun c9 => ?_)
    · replace hf := k_ifP hf c9
      refine lv_iconst (v := 0) X.1 X.2.1 dX8_has_16 (by decide) ?_
      rw [← hw, k_uc_id] at hU
      have hz := Option.some.inj hf
      subst hz
      exact k_iret (v := 0) X hU hS hr hlk rfl rfl dX8_has_17
    · replace hf := k_ifN hf c9
      refine lv_iconst (v := 1) X.1 X.2.1 dX8_has_12 (by decide) ?_
      refine lv_goto (tgt := 17) X.1 X.2.1 dX8_has_13 (by decide) ?_
      rw [← hw, k_uc_id] at hU
      have hz := Option.some.inj hf
      subst hz
      exact k_iret (v := 1) X hU hS hr hlk rfl rfl dX8_has_17
def rm_X10_spot : Room := { frames := 1, cells := 0, slots := 0, locals := 21 }
set_option maxRecDepth 100000 in
set_option maxHeartbeats 4000000 in
theorem c_X10_spot {l : Launch} {D : va_G} {G : Nat → ClassId} {ad : Nat → Nat → Nat} {u : k_U} (hI : k_ok ad) {a1 : Int32} {a2 : Int32} {sz : Nat} {r2 : Int32} (hf : f_X10_spot u a1 a2 = some (Sum.inl r2)) : Met l yX10_spot (.code yX10_spot cX10_spot 3 (some .int) :: lw_g) rm_X10_spot (k_Pre D G ad u sz [.ref (ad 0 0), .int a1, .int a2]) (k_Qi D G ad u r2 sz) 0 0 (k_A ad sz) := by
  refine k_ofW (by decide +kernel) hI (Nat.le_of_ble_eq_true rfl) ?_
  intro p e s m args below meth c X hr hlk hU hS ls hl
  have hl : lv_has ls 3 [(0, .ref (ad 0 0)), (1, .int a1), (2, .int a2)] := hl
  unfold f_X10_spot at hf
  refine lv_aload_n X.1 X.2.1 dX10_spot_0 rfl (lv_at hl 0 rfl) ?_
  refine k_get (v := .ref (ad 10 0)) X hU sh_0_0 fl_X10_33 rfl dX10_spot_1 ?_
  refine k_get (v := .ref (ad 10 9)) X hU (sW_0 k_isW_10) fl_X10_201 rfl dX10_spot_4 ?_
  refine lv_iload_n X.1 X.2.1 dX10_spot_7 rfl (lv_at hl 1 rfl) ?_
  obtain ⟨r8, hr8, hf⟩ := k_bdE hf
  refine k_backi X hS (k_runV (As := [.int a1]) (rest := []) X hS hU (sW_9 k_isW_10) (by decide) rfl vl_X10_292 (c_X8_has X.2.2.2.2.2.2.1 k_isW_10 rfl hr8) rfl rfl rfl hl.1 ⟨Nat.le_of_ble_eq_true rfl, Nat.le_of_ble_eq_true rfl⟩ (Nat.le_of_ble_eq_true rfl) dX10_spot_8 ⟨Nat.zero_le _, Nat.zero_le _⟩) (fun H locs hU hS => ?_)
  refine lv_if_ne (tgt := 25) X.1 X.2.1 dX10_spot_11 (by decide) (fun c11 => ?_) (fun c11 => ?_)
  · replace hf := k_ifN hf c11
    refine lv_iload_n X.1 X.2.1 dX10_spot_25 rfl (lv_at hl 2 rfl) ?_
    by_cases c26_0 : a2 = 0
    · replace hf := k_ifP hf c26_0
      refine lv_tableIn (x := a2) (off := 26) (tgt := 52) X.1 X.2.1 dX10_spot_26 (by rw [c26_0]; decide) (by rw [c26_0]; decide) (by rw [c26_0]; rfl) (by decide) ?_
      refine lv_aload_n X.1 X.2.1 dX10_spot_52 rfl (lv_at hl 0 rfl) ?_
      refine k_get (v := .ref (ad 10 0)) X hU sh_0_0 fl_X10_33 rfl dX10_spot_53 ?_
      refine k_get (v := .ref (ad 10 9)) X hU (sW_0 k_isW_10) fl_X10_201 rfl dX10_spot_56 ?_
      refine k_get (v := .ref (ad 10 10)) X hU (sW_9 k_isW_10) fl_X10_297 rfl dX10_spot_59 ?_
      refine lv_iload_n X.1 X.2.1 dX10_spot_62 rfl (lv_at hl 1 rfl) ?_
      obtain ⟨hi63, hf⟩ := k_ckE hf
      refine k_ild (j0 := a1.toNatClampNeg) X hU (sW_10 k_isW_10) (k_vin (n := 8) hi63 (by decide)) rfl dX10_spot_63 ?_
      have hz := k_injl0 hf
      subst hz
      exact k_iret (v := u 10 10 a1.toNatClampNeg) X hU hS hr hlk rfl rfl dX10_spot_64
    replace hf := k_ifN hf c26_0
    by_cases c26_1 : a2 = 1
    · replace hf := k_ifP hf c26_1
      refine lv_tableIn (x := a2) (off := 39) (tgt := 65) X.1 X.2.1 dX10_spot_26 (by rw [c26_1]; decide) (by rw [c26_1]; decide) (by rw [c26_1]; rfl) (by decide) ?_
      refine lv_aload_n X.1 X.2.1 dX10_spot_65 rfl (lv_at hl 0 rfl) ?_
      refine k_get (v := .ref (ad 10 0)) X hU sh_0_0 fl_X10_33 rfl dX10_spot_66 ?_
      refine k_get (v := .ref (ad 10 9)) X hU (sW_0 k_isW_10) fl_X10_201 rfl dX10_spot_69 ?_
      refine k_get (v := .ref (ad 10 11)) X hU (sW_9 k_isW_10) fl_X10_300 rfl dX10_spot_72 ?_
      refine lv_iload_n X.1 X.2.1 dX10_spot_75 rfl (lv_at hl 1 rfl) ?_
      obtain ⟨hi76, hf⟩ := k_ckE hf
      refine k_ild (j0 := a1.toNatClampNeg) X hU (sW_11 k_isW_10) (k_vin (n := 8) hi76 (by decide)) rfl dX10_spot_76 ?_
      have hz := k_injl0 hf
      subst hz
      exact k_iret (v := u 10 11 a1.toNatClampNeg) X hU hS hr hlk rfl rfl dX10_spot_77
    replace hf := k_ifN hf c26_1
    by_cases c26_2 : a2 = 2
    · replace hf := k_ifP hf c26_2
      refine lv_tableIn (x := a2) (off := 52) (tgt := 78) X.1 X.2.1 dX10_spot_26 (by rw [c26_2]; decide) (by rw [c26_2]; decide) (by rw [c26_2]; rfl) (by decide) ?_
      refine lv_aload_n X.1 X.2.1 dX10_spot_78 rfl (lv_at hl 0 rfl) ?_
      refine k_get (v := .ref (ad 10 0)) X hU sh_0_0 fl_X10_33 rfl dX10_spot_79 ?_
      refine k_get (v := .ref (ad 10 9)) X hU (sW_0 k_isW_10) fl_X10_201 rfl dX10_spot_82 ?_
      refine k_get (v := .ref (ad 10 12)) X hU (sW_9 k_isW_10) fl_X10_303 rfl dX10_spot_85 ?_
      refine lv_iload_n X.1 X.2.1 dX10_spot_88 rfl (lv_at hl 1 rfl) ?_
      obtain ⟨hi89, hf⟩ := k_ckE hf
      refine k_ild (j0 := a1.toNatClampNeg) X hU (sW_12 k_isW_10) (k_vin (n := 8) hi89 (by decide)) rfl dX10_spot_89 ?_
      have hz := k_injl0 hf
      subst hz
      exact k_iret (v := u 10 12 a1.toNatClampNeg) X hU hS hr hlk rfl rfl dX10_spot_90
    replace hf := k_ifN hf c26_2
    have ho26 : (a2).toInt < 0 ∨ 2 < (a2).toInt := by
      have g0 := k_tne (n := 0) (z := 0) c26_0 (by decide)
      have g1 := k_tne (n := 1) (z := 1) c26_1 (by decide)
      have g2 := k_tne (n := 2) (z := 2) c26_2 (by decide)
      omega
    refine lv_tableOut (x := a2) (tgt := 91) X.1 X.2.1 dX10_spot_26 ho26 (by decide) ?_
    exact absurd hf k_ninl0
  · replace hf := k_ifP hf c11
    exact absurd hf k_ninl0
def rx_X10_spot : Room := { frames := 6, cells := 1, slots := 6, locals := 90 }
set_option maxRecDepth 100000 in
set_option maxHeartbeats 4000000 in
theorem x_X10_spot {l : Launch} {D : va_G} {G : Nat → ClassId} {ad : Nat → Nat → Nat} {u : k_U} (hI : k_ok ad) (hlT : l.stackTraces = false) {a1 : Int32} {a2 : Int32} {sz : Nat} {j : Nat} (hf : f_X10_spot u a1 a2 = some (Sum.inr j)) : vx_Met l yX10_spot (.code yX10_spot cX10_spot 3 (some .int) :: lw_g) rx_X10_spot (k_Pre D G ad u sz [.ref (ad 0 0), .int a1, .int a2]) (k_Qn ad sz) (k_XC D G ad u j sz) 1 6 (k_A ad sz) := by
  refine k_xofW (by decide +kernel) hI (Nat.le_of_ble_eq_true rfl) ?_
  intro p e s m args below meth c X hr hlk hex hU hS ls hl
  have hl : lv_has ls 3 [(0, .ref (ad 0 0)), (1, .int a1), (2, .int a2)] := hl
  unfold f_X10_spot at hf
  refine lv_aload_n X.1 X.2.1 dX10_spot_0 rfl (lv_at hl 0 rfl) ?_
  refine k_get (v := .ref (ad 10 0)) X hU sh_0_0 fl_X10_33 rfl dX10_spot_1 ?_
  refine k_get (v := .ref (ad 10 9)) X hU (sW_0 k_isW_10) fl_X10_201 rfl dX10_spot_4 ?_
  refine lv_iload_n X.1 X.2.1 dX10_spot_7 rfl (lv_at hl 1 rfl) ?_
  obtain ⟨r8, hr8, hf⟩ := k_bdE hf
  refine k_backi X hS (k_runV (As := [.int a1]) (rest := []) X hS hU (sW_9 k_isW_10) (by decide) rfl vl_X10_292 (c_X8_has X.2.2.2.2.2.2.1 k_isW_10 rfl hr8) rfl rfl rfl hl.1 ⟨Nat.le_of_ble_eq_true rfl, Nat.le_of_ble_eq_true rfl⟩ (Nat.le_of_ble_eq_true rfl) dX10_spot_8 ⟨Nat.zero_le _, Nat.zero_le _⟩) (fun H locs hU hS => ?_)
  refine lv_if_ne (tgt := 25) X.1 X.2.1 dX10_spot_11 (by decide) (fun c11 => ?_) (fun c11 => ?_)
  · replace hf := k_ifN hf c11
    refine lv_iload_n X.1 X.2.1 dX10_spot_25 rfl (lv_at hl 2 rfl) ?_
    by_cases c26_0 : a2 = 0
    · replace hf := k_ifP hf c26_0
      refine lv_tableIn (x := a2) (off := 26) (tgt := 52) X.1 X.2.1 dX10_spot_26 (by rw [c26_0]; decide) (by rw [c26_0]; decide) (by rw [c26_0]; rfl) (by decide) ?_
      refine lv_aload_n X.1 X.2.1 dX10_spot_52 rfl (lv_at hl 0 rfl) ?_
      refine k_get (v := .ref (ad 10 0)) X hU sh_0_0 fl_X10_33 rfl dX10_spot_53 ?_
      refine k_get (v := .ref (ad 10 9)) X hU (sW_0 k_isW_10) fl_X10_201 rfl dX10_spot_56 ?_
      refine k_get (v := .ref (ad 10 10)) X hU (sW_9 k_isW_10) fl_X10_297 rfl dX10_spot_59 ?_
      refine lv_iload_n X.1 X.2.1 dX10_spot_62 rfl (lv_at hl 1 rfl) ?_
      obtain ⟨hi63, hf⟩ := k_ckE hf
      refine k_ild (j0 := a1.toNatClampNeg) X hU (sW_10 k_isW_10) (k_vin (n := 8) hi63 (by decide)) rfl dX10_spot_63 ?_
      exact absurd hf k_ninr0
    replace hf := k_ifN hf c26_0
    by_cases c26_1 : a2 = 1
    · replace hf := k_ifP hf c26_1
      refine lv_tableIn (x := a2) (off := 39) (tgt := 65) X.1 X.2.1 dX10_spot_26 (by rw [c26_1]; decide) (by rw [c26_1]; decide) (by rw [c26_1]; rfl) (by decide) ?_
      refine lv_aload_n X.1 X.2.1 dX10_spot_65 rfl (lv_at hl 0 rfl) ?_
      refine k_get (v := .ref (ad 10 0)) X hU sh_0_0 fl_X10_33 rfl dX10_spot_66 ?_
      refine k_get (v := .ref (ad 10 9)) X hU (sW_0 k_isW_10) fl_X10_201 rfl dX10_spot_69 ?_
      refine k_get (v := .ref (ad 10 11)) X hU (sW_9 k_isW_10) fl_X10_300 rfl dX10_spot_72 ?_
      refine lv_iload_n X.1 X.2.1 dX10_spot_75 rfl (lv_at hl 1 rfl) ?_
      obtain ⟨hi76, hf⟩ := k_ckE hf
      refine k_ild (j0 := a1.toNatClampNeg) X hU (sW_11 k_isW_10) (k_vin (n := 8) hi76 (by decide)) rfl dX10_spot_76 ?_
      exact absurd hf k_ninr0
    replace hf := k_ifN hf c26_1
    by_cases c26_2 : a2 = 2
    · replace hf := k_ifP hf c26_2
      refine lv_tableIn (x := a2) (off := 52) (tgt := 78) X.1 X.2.1 dX10_spot_26 (by rw [c26_2]; decide) (by rw [c26_2]; decide) (by rw [c26_2]; rfl) (by decide) ?_
      refine lv_aload_n X.1 X.2.1 dX10_spot_78 rfl (lv_at hl 0 rfl) ?_
      refine k_get (v := .ref (ad 10 0)) X hU sh_0_0 fl_X10_33 rfl dX10_spot_79 ?_
      refine k_get (v := .ref (ad 10 9)) X hU (sW_0 k_isW_10) fl_X10_201 rfl dX10_spot_82 ?_
      refine k_get (v := .ref (ad 10 12)) X hU (sW_9 k_isW_10) fl_X10_303 rfl dX10_spot_85 ?_
      refine lv_iload_n X.1 X.2.1 dX10_spot_88 rfl (lv_at hl 1 rfl) ?_
      obtain ⟨hi89, hf⟩ := k_ckE hf
      refine k_ild (j0 := a1.toNatClampNeg) X hU (sW_12 k_isW_10) (k_vin (n := 8) hi89 (by decide)) rfl dX10_spot_89 ?_
      exact absurd hf k_ninr0
    replace hf := k_ifN hf c26_2
    have ho26 : (a2).toInt < 0 ∨ 2 < (a2).toInt := by
      have g0 := k_tne (n := 0) (z := 0) c26_0 (by decide)
      have g1 := k_tne (n := 1) (z := 1) c26_1 (by decide)
      have g2 := k_tne (n := 2) (z := 2) c26_2 (by decide)
      omega
    refine lv_tableOut (x := a2) (tgt := 91) X.1 X.2.1 dX10_spot_26 ho26 (by decide) ?_
    have hz := k_injr0 hf
    subst hz
    exact k_thrSW X hlT hU hS (i := 41) rfl xw_180 (by decide +kernel) rfl hl.1 dX10_spot_91 dX10_spot_94 dX10_spot_95 dX10_spot_98 dX10_spot_101 hex (Nat.le_of_ble_eq_true rfl) (Nat.le_of_ble_eq_true rfl) ⟨Nat.le_of_ble_eq_true rfl, Nat.le_of_ble_eq_true rfl⟩ hlk ⟨Nat.le_of_ble_eq_true rfl, Nat.le_of_ble_eq_true rfl⟩
  · replace hf := k_ifP hf c11
    have hz := k_injr0 hf
    subst hz
    exact k_thrSW X hlT hU hS (i := 40) rfl xw_238 (by decide +kernel) rfl hl.1 dX10_spot_14 dX10_spot_17 dX10_spot_18 dX10_spot_21 dX10_spot_24 hex (Nat.le_of_ble_eq_true rfl) (Nat.le_of_ble_eq_true rfl) ⟨Nat.le_of_ble_eq_true rfl, Nat.le_of_ble_eq_true rfl⟩ hlk ⟨Nat.le_of_ble_eq_true rfl, Nat.le_of_ble_eq_true rfl⟩
def rm_X1_partOf : Room := { frames := 0, cells := 0, slots := 0, locals := 0 }
set_option maxRecDepth 100000 in
set_option maxHeartbeats 4000000 in
theorem c_X1_partOf {l : Launch} {D : va_G} {G : Nat → ClassId} {ad : Nat → Nat → Nat} {u : k_U} (hI : k_ok ad) {k : Nat} (hk : k_isW k) {w : k_M} (hw : u k = w) {a1 : Int32} {a2 : Int32} {sz : Nat} {r : Int32} (hf : f_X1_partOf w a1 a2 = some r) : Met l yX1_partOf (.code yX1_partOf cX1_partOf 3 (some .int) :: lw_g) rm_X1_partOf (k_Pre D G ad u sz [.ref (ad k 13), .int a1, .int a2]) (k_Qi D G ad u r sz) 0 0 (k_A ad sz) := by
  refine k_ofW (by decide +kernel) hI (Nat.le_of_ble_eq_true rfl) ?_
  intro p e s m args below meth c X hr hlk hU hS ls hl
  have hl : lv_has ls 3 [(0, .ref (ad k 13)), (1, .int a1), (2, .int a2)] := hl
  have hU : k_Uv D G ad (k_uc u k w) s.heap := by rw [← hw, k_uc_id]; exact hU
  unfold f_X1_partOf at hf
  refine lv_aload_n X.1 X.2.1 dX1_partOf_0 rfl (lv_at hl 0 rfl) ?_
  refine k_getw (v := .ref (ad k 14)) X hU (sW_13 hk) fl_X1_9 rfl dX1_partOf_1 ?_
  refine lv_aload_n X.1 X.2.1 dX1_partOf_4 rfl (lv_at hl 0 rfl) ?_
  refine k_getw (v := .int (w 13 1)) X hU (sW_13 hk) fl_X1_19 rfl dX1_partOf_5 ?_
  refine lv_iload_n X.1 X.2.1 dX1_partOf_8 rfl (lv_at hl 1 rfl) ?_
  refine lv_iadd X.1 X.2.1 dX1_partOf_9 ?_
  refine lv_bipush (v := 30) X.1 X.2.1 dX1_partOf_10 (by decide) ?_
  refine lv_irem X.1 X.2.1 dX1_partOf_12 (by decide) ?_
  refine lv_iconst (v := 4) X.1 X.2.1 dX1_partOf_13 (by decide) ?_
  refine lv_imul X.1 X.2.1 dX1_partOf_14 ?_
  refine lv_iload_n X.1 X.2.1 dX1_partOf_15 rfl (lv_at hl 2 rfl) ?_
  refine lv_iadd X.1 X.2.1 dX1_partOf_16 ?_
  obtain ⟨hi17, hf⟩ := k_ckE hf
  refine k_ildw (j0 := (((((w 13 1) + a1) - ((w 13 1) + a1) / 30 * 30) * 4) + a2).toNatClampNeg) X hU (sW_14 hk) (k_vin (n := 120) hi17 (by decide)) rfl dX1_partOf_17 ?_
  rw [← hw, k_uc_id] at hU
  have hz := Option.some.inj hf
  subst hz
  exact k_iret (v := w 14 ((((((w 13 1) + a1) - ((w 13 1) + a1) / 30 * 30) * 4) + a2).toNatClampNeg)) X hU hS hr hlk rfl rfl dX1_partOf_18
def rm_X10_event : Room := { frames := 1, cells := 0, slots := 0, locals := 22 }
set_option maxRecDepth 100000 in
set_option maxHeartbeats 4000000 in
theorem c_X10_event {l : Launch} {D : va_G} {G : Nat → ClassId} {ad : Nat → Nat → Nat} {u : k_U} (hI : k_ok ad) {a1 : Int32} {a2 : Int32} {sz : Nat} {r2 : Int32} (hf : f_X10_event u a1 a2 = some (Sum.inl r2)) : Met l yX10_event (.code yX10_event cX10_event 3 (some .int) :: lw_g) rm_X10_event (k_Pre D G ad u sz [.ref (ad 0 0), .int a1, .int a2]) (k_Qi D G ad u r2 sz) 0 0 (k_A ad sz) := by
  refine k_ofW (by decide +kernel) hI (Nat.le_of_ble_eq_true rfl) ?_
  intro p e s m args below meth c X hr hlk hU hS ls hl
  have hl : lv_has ls 3 [(0, .ref (ad 0 0)), (1, .int a1), (2, .int a2)] := hl
  have J38 : ∀ (H : Heap) (locs : List Loc) (ls : Array Slot), k_Uv D G ad u H → va_S (k_A ad sz) s.heap H locs → lv_has ls 3 [] → f_X10_event_38 u a1 a2 = some (Sum.inl r2) → W p l e rm_X10_event s m args below meth c H locs 0 0 (MQ below (k_Qi D G ad u r2 sz) args s 0 0 (k_A ad sz)) (F0 m 38 ls []) := by
    intro H locs ls hU hS hl hf
    unfold f_X10_event_38 at hf
    exact absurd hf k_ninl0
  have J18 : ∀ (H : Heap) (locs : List Loc) (ls : Array Slot), k_Uv D G ad u H → va_S (k_A ad sz) s.heap H locs → lv_has ls 3 [] → f_X10_event_18 u a1 a2 = some (Sum.inl r2) → W p l e rm_X10_event s m args below meth c H locs 0 0 (MQ below (k_Qi D G ad u r2 sz) args s 0 0 (k_A ad sz)) (F0 m 18 ls []) := by
    intro H locs ls hU hS hl hf
    unfold f_X10_event_18 at hf
    exact absurd hf k_ninl0
  unfold f_X10_event at hf
  refine lv_iload_n X.1 X.2.1 dX10_event_0 rfl (lv_at hl 1 rfl) ?_
  refine lv_if_lt (tgt := 18) X.1 X.2.1 dX10_event_1 (by decide) (fun c1 => ?_) (fun c1 => ?_)
  · replace hf := k_ifP hf c1
    exact J18 _ _ _ hU hS (lv_sub hl [] rfl) hf
  · replace hf := k_ifN hf c1
    refine lv_iload_n X.1 X.2.1 dX10_event_4 rfl (lv_at hl 1 rfl) ?_
    refine lv_aload_n X.1 X.2.1 dX10_event_5 rfl (lv_at hl 0 rfl) ?_
    refine k_get (v := .ref (ad 10 0)) X hU sh_0_0 fl_X10_33 rfl dX10_event_6 ?_
    refine k_get (v := .ref (ad 10 13)) X hU (sW_0 k_isW_10) fl_X10_217 rfl dX10_event_9 ?_
    refine k_get (v := .int (u 10 13 2)) X hU (sW_13 k_isW_10) fl_X10_221 rfl dX10_event_12 ?_
    refine lv_icmp_lt (tgt := 29) X.1 X.2.1 dX10_event_15 (by decide) (fun c15 => ?_) (fun c15 => ?_)
    · replace hf := k_ifP hf c15
      refine lv_iload_n X.1 X.2.1 dX10_event_29 rfl (lv_at hl 2 rfl) ?_
      refine lv_if_lt (tgt := 38) X.1 X.2.1 dX10_event_30 (by decide) (fun c30 => ?_) (fun c30 => ?_)
      · replace hf := k_ifP hf c30
        exact J38 _ _ _ hU hS (lv_sub hl [] rfl) hf
      · replace hf := k_ifN hf c30
        refine lv_iload_n X.1 X.2.1 dX10_event_33 rfl (lv_at hl 2 rfl) ?_
        refine lv_iconst (v := 4) X.1 X.2.1 dX10_event_34 (by decide) ?_
        refine lv_icmp_lt (tgt := 49) X.1 X.2.1 dX10_event_35 (by decide) (fun c35 => ?_) (fun c35 => ?_)
        · replace hf := k_ifP hf c35
          refine lv_aload_n X.1 X.2.1 dX10_event_49 rfl (lv_at hl 0 rfl) ?_
          refine k_get (v := .ref (ad 10 0)) X hU sh_0_0 fl_X10_33 rfl dX10_event_50 ?_
          refine k_get (v := .ref (ad 10 13)) X hU (sW_0 k_isW_10) fl_X10_217 rfl dX10_event_53 ?_
          refine lv_iload_n X.1 X.2.1 dX10_event_56 rfl (lv_at hl 1 rfl) ?_
          refine lv_iload_n X.1 X.2.1 dX10_event_57 rfl (lv_at hl 2 rfl) ?_
          obtain ⟨r58, hr58, hf⟩ := k_bdE hf
          refine k_backi X hS (k_runV (As := [.int a1, .int a2]) (rest := []) X hS hU (sW_13 k_isW_10) (by decide) rfl vl_X10_315 (c_X1_partOf X.2.2.2.2.2.2.1 k_isW_10 rfl hr58) rfl rfl rfl hl.1 ⟨Nat.le_of_ble_eq_true rfl, Nat.le_of_ble_eq_true rfl⟩ (Nat.le_of_ble_eq_true rfl) dX10_event_58 ⟨Nat.zero_le _, Nat.zero_le _⟩) (fun H locs hU hS => ?_)
          have hz := k_injl0 hf
          subst hz
          exact k_iret (v := r58) X hU hS hr hlk rfl rfl dX10_event_61
        · replace hf := k_ifN hf c35
          exact J38 _ _ _ hU hS (lv_sub hl [] rfl) hf
    · replace hf := k_ifN hf c15
      exact J18 _ _ _ hU hS (lv_sub hl [] rfl) hf
def rx_X10_event : Room := { frames := 6, cells := 1, slots := 6, locals := 90 }
set_option maxRecDepth 100000 in
set_option maxHeartbeats 4000000 in
theorem x_X10_event {l : Launch} {D : va_G} {G : Nat → ClassId} {ad : Nat → Nat → Nat} {u : k_U} (hI : k_ok ad) (hlT : l.stackTraces = false) {a1 : Int32} {a2 : Int32} {sz : Nat} {j : Nat} (hf : f_X10_event u a1 a2 = some (Sum.inr j)) : vx_Met l yX10_event (.code yX10_event cX10_event 3 (some .int) :: lw_g) rx_X10_event (k_Pre D G ad u sz [.ref (ad 0 0), .int a1, .int a2]) (k_Qn ad sz) (k_XC D G ad u j sz) 1 6 (k_A ad sz) := by
  refine k_xofW (by decide +kernel) hI (Nat.le_of_ble_eq_true rfl) ?_
  intro p e s m args below meth c X hr hlk hex hU hS ls hl
  have hl : lv_has ls 3 [(0, .ref (ad 0 0)), (1, .int a1), (2, .int a2)] := hl
  have J38 : ∀ (H : Heap) (locs : List Loc) (ls : Array Slot), k_Uv D G ad u H → va_S (k_A ad sz) s.heap H locs → lv_has ls 3 [] → f_X10_event_38 u a1 a2 = some (Sum.inr j) → W p l e rx_X10_event s m args below meth c H locs 0 0 (vx_MQ below (k_Qn ad sz) (k_XC D G ad u j sz) args s 1 6 (k_A ad sz)) (F0 m 38 ls []) := by
    intro H locs ls hU hS hl hf
    unfold f_X10_event_38 at hf
    have hz := k_injr0 hf
    subst hz
    exact k_thrSW X hlT hU hS (i := 43) rfl xw_180 (by decide +kernel) rfl hl.1 dX10_event_38 dX10_event_41 dX10_event_42 dX10_event_45 dX10_event_48 hex (Nat.le_of_ble_eq_true rfl) (Nat.le_of_ble_eq_true rfl) ⟨Nat.le_of_ble_eq_true rfl, Nat.le_of_ble_eq_true rfl⟩ hlk ⟨Nat.le_of_ble_eq_true rfl, Nat.le_of_ble_eq_true rfl⟩
  have J18 : ∀ (H : Heap) (locs : List Loc) (ls : Array Slot), k_Uv D G ad u H → va_S (k_A ad sz) s.heap H locs → lv_has ls 3 [] → f_X10_event_18 u a1 a2 = some (Sum.inr j) → W p l e rx_X10_event s m args below meth c H locs 0 0 (vx_MQ below (k_Qn ad sz) (k_XC D G ad u j sz) args s 1 6 (k_A ad sz)) (F0 m 18 ls []) := by
    intro H locs ls hU hS hl hf
    unfold f_X10_event_18 at hf
    have hz := k_injr0 hf
    subst hz
    exact k_thrNW X hlT hU hS (i := 42) rfl ⟨rfl, rfl, rfl⟩ hl.1 dX10_event_18 dX10_event_21 dX10_event_22 dX10_event_25 dX10_event_28 hex (Nat.le_of_ble_eq_true rfl) (Nat.le_of_ble_eq_true rfl) ⟨Nat.le_of_ble_eq_true rfl, Nat.le_of_ble_eq_true rfl⟩ hlk ⟨Nat.le_of_ble_eq_true rfl, Nat.le_of_ble_eq_true rfl⟩
  unfold f_X10_event at hf
  refine lv_iload_n X.1 X.2.1 dX10_event_0 rfl (lv_at hl 1 rfl) ?_
  refine lv_if_lt (tgt := 18) X.1 X.2.1 dX10_event_1 (by decide) (fun c1 => ?_) (fun c1 => ?_)
  · replace hf := k_ifP hf c1
    exact J18 _ _ _ hU hS (lv_sub hl [] rfl) hf
  · replace hf := k_ifN hf c1
    refine lv_iload_n X.1 X.2.1 dX10_event_4 rfl (lv_at hl 1 rfl) ?_
    refine lv_aload_n X.1 X.2.1 dX10_event_5 rfl (lv_at hl 0 rfl) ?_
    refine k_get (v := .ref (ad 10 0)) X hU sh_0_0 fl_X10_33 rfl dX10_event_6 ?_
    refine k_get (v := .ref (ad 10 13)) X hU (sW_0 k_isW_10) fl_X10_217 rfl dX10_event_9 ?_
    refine k_get (v := .int (u 10 13 2)) X hU (sW_13 k_isW_10) fl_X10_221 rfl dX10_event_12 ?_
    refine lv_icmp_lt (tgt := 29) X.1 X.2.1 dX10_event_15 (by decide) (fun c15 => ?_) (fun c15 => ?_)
    · replace hf := k_ifP hf c15
      refine lv_iload_n X.1 X.2.1 dX10_event_29 rfl (lv_at hl 2 rfl) ?_
      refine lv_if_lt (tgt := 38) X.1 X.2.1 dX10_event_30 (by decide) (fun c30 => ?_) (fun c30 => ?_)
      · replace hf := k_ifP hf c30
        exact J38 _ _ _ hU hS (lv_sub hl [] rfl) hf
      · replace hf := k_ifN hf c30
        refine lv_iload_n X.1 X.2.1 dX10_event_33 rfl (lv_at hl 2 rfl) ?_
        refine lv_iconst (v := 4) X.1 X.2.1 dX10_event_34 (by decide) ?_
        refine lv_icmp_lt (tgt := 49) X.1 X.2.1 dX10_event_35 (by decide) (fun c35 => ?_) (fun c35 => ?_)
        · replace hf := k_ifP hf c35
          refine lv_aload_n X.1 X.2.1 dX10_event_49 rfl (lv_at hl 0 rfl) ?_
          refine k_get (v := .ref (ad 10 0)) X hU sh_0_0 fl_X10_33 rfl dX10_event_50 ?_
          refine k_get (v := .ref (ad 10 13)) X hU (sW_0 k_isW_10) fl_X10_217 rfl dX10_event_53 ?_
          refine lv_iload_n X.1 X.2.1 dX10_event_56 rfl (lv_at hl 1 rfl) ?_
          refine lv_iload_n X.1 X.2.1 dX10_event_57 rfl (lv_at hl 2 rfl) ?_
          obtain ⟨r58, hr58, hf⟩ := k_bdE hf
          refine k_backi X hS (k_runV (As := [.int a1, .int a2]) (rest := []) X hS hU (sW_13 k_isW_10) (by decide) rfl vl_X10_315 (c_X1_partOf X.2.2.2.2.2.2.1 k_isW_10 rfl hr58) rfl rfl rfl hl.1 ⟨Nat.le_of_ble_eq_true rfl, Nat.le_of_ble_eq_true rfl⟩ (Nat.le_of_ble_eq_true rfl) dX10_event_58 ⟨Nat.zero_le _, Nat.zero_le _⟩) (fun H locs hU hS => ?_)
          exact absurd hf k_ninr0
        · replace hf := k_ifN hf c35
          exact J38 _ _ _ hU hS (lv_sub hl [] rfl) hf
    · replace hf := k_ifN hf c15
      exact J18 _ _ _ hU hS (lv_sub hl [] rfl) hf
def rm_X10_account : Room := { frames := 0, cells := 0, slots := 0, locals := 0 }
set_option maxRecDepth 100000 in
set_option maxHeartbeats 4000000 in
theorem c_X10_account {l : Launch} {D : va_G} {G : Nat → ClassId} {ad : Nat → Nat → Nat} {u : k_U} (hI : k_ok ad) {a1 : Int32} {sz : Nat} {r2 : Int32} (hf : f_X10_account u a1 = some (Sum.inl r2)) : Met l yX10_account (.code yX10_account cX10_account 2 (some .int) :: lw_g) rm_X10_account (k_Pre D G ad u sz [.ref (ad 0 0), .int a1]) (k_Qi D G ad u r2 sz) 0 0 (k_A ad sz) := by
  refine k_ofW (by decide +kernel) hI (Nat.le_of_ble_eq_true rfl) ?_
  intro p e s m args below meth c X hr hlk hU hS ls hl
  have hl : lv_has ls 2 [(0, .ref (ad 0 0)), (1, .int a1)] := hl
  have J10 : ∀ (H : Heap) (locs : List Loc) (ls : Array Slot), k_Uv D G ad u H → va_S (k_A ad sz) s.heap H locs → lv_has ls 2 [] → f_X10_account_10 u a1 = some (Sum.inl r2) → W p l e rm_X10_account s m args below meth c H locs 0 0 (MQ below (k_Qi D G ad u r2 sz) args s 0 0 (k_A ad sz)) (F0 m 10 ls []) := by
    intro H locs ls hU hS hl hf
    unfold f_X10_account_10 at hf
    exact absurd hf k_ninl0
  unfold f_X10_account at hf
  refine lv_iload_n X.1 X.2.1 dX10_account_0 rfl (lv_at hl 1 rfl) ?_
  refine lv_if_lt (tgt := 10) X.1 X.2.1 dX10_account_1 (by decide) (fun c1 => ?_) (fun c1 => ?_)
  · replace hf := k_ifP hf c1
    exact J10 _ _ _ hU hS (lv_sub hl [] rfl) hf
  · replace hf := k_ifN hf c1
    refine lv_iload_n X.1 X.2.1 dX10_account_4 rfl (lv_at hl 1 rfl) ?_
    refine lv_bipush (v := 10) X.1 X.2.1 dX10_account_5 (by decide) ?_
    refine lv_icmp_lt (tgt := 21) X.1 X.2.1 dX10_account_7 (by decide) (fun c7 => ?_) (fun c7 => ?_)
    · replace hf := k_ifP hf c7
      refine lv_aload_n X.1 X.2.1 dX10_account_21 rfl (lv_at hl 0 rfl) ?_
      refine k_get (v := .ref (ad 0 3)) X hU sh_0_0 fl_X10_55 rfl dX10_account_22 ?_
      refine lv_iload_n X.1 X.2.1 dX10_account_25 rfl (lv_at hl 1 rfl) ?_
      obtain ⟨hi26, hf⟩ := k_ckE hf
      refine k_ild (j0 := a1.toNatClampNeg) X hU sh_0_3 (k_vin (n := 10) hi26 (by decide)) rfl dX10_account_26 ?_
      have hz := k_injl0 hf
      subst hz
      exact k_iret (v := u 0 3 a1.toNatClampNeg) X hU hS hr hlk rfl rfl dX10_account_27
    · replace hf := k_ifN hf c7
      exact J10 _ _ _ hU hS (lv_sub hl [] rfl) hf
def rx_X10_account : Room := { frames := 6, cells := 1, slots := 6, locals := 90 }
set_option maxRecDepth 100000 in
set_option maxHeartbeats 4000000 in
theorem x_X10_account {l : Launch} {D : va_G} {G : Nat → ClassId} {ad : Nat → Nat → Nat} {u : k_U} (hI : k_ok ad) (hlT : l.stackTraces = false) {a1 : Int32} {sz : Nat} {j : Nat} (hf : f_X10_account u a1 = some (Sum.inr j)) : vx_Met l yX10_account (.code yX10_account cX10_account 2 (some .int) :: lw_g) rx_X10_account (k_Pre D G ad u sz [.ref (ad 0 0), .int a1]) (k_Qn ad sz) (k_XC D G ad u j sz) 1 6 (k_A ad sz) := by
  refine k_xofW (by decide +kernel) hI (Nat.le_of_ble_eq_true rfl) ?_
  intro p e s m args below meth c X hr hlk hex hU hS ls hl
  have hl : lv_has ls 2 [(0, .ref (ad 0 0)), (1, .int a1)] := hl
  have J10 : ∀ (H : Heap) (locs : List Loc) (ls : Array Slot), k_Uv D G ad u H → va_S (k_A ad sz) s.heap H locs → lv_has ls 2 [] → f_X10_account_10 u a1 = some (Sum.inr j) → W p l e rx_X10_account s m args below meth c H locs 0 0 (vx_MQ below (k_Qn ad sz) (k_XC D G ad u j sz) args s 1 6 (k_A ad sz)) (F0 m 10 ls []) := by
    intro H locs ls hU hS hl hf
    unfold f_X10_account_10 at hf
    have hz := k_injr0 hf
    subst hz
    exact k_thrSW X hlT hU hS (i := 44) rfl xw_180 (by decide +kernel) rfl hl.1 dX10_account_10 dX10_account_13 dX10_account_14 dX10_account_17 dX10_account_20 hex (Nat.le_of_ble_eq_true rfl) (Nat.le_of_ble_eq_true rfl) ⟨Nat.le_of_ble_eq_true rfl, Nat.le_of_ble_eq_true rfl⟩ hlk ⟨Nat.le_of_ble_eq_true rfl, Nat.le_of_ble_eq_true rfl⟩
  unfold f_X10_account at hf
  refine lv_iload_n X.1 X.2.1 dX10_account_0 rfl (lv_at hl 1 rfl) ?_
  refine lv_if_lt (tgt := 10) X.1 X.2.1 dX10_account_1 (by decide) (fun c1 => ?_) (fun c1 => ?_)
  · replace hf := k_ifP hf c1
    exact J10 _ _ _ hU hS (lv_sub hl [] rfl) hf
  · replace hf := k_ifN hf c1
    refine lv_iload_n X.1 X.2.1 dX10_account_4 rfl (lv_at hl 1 rfl) ?_
    refine lv_bipush (v := 10) X.1 X.2.1 dX10_account_5 (by decide) ?_
    refine lv_icmp_lt (tgt := 21) X.1 X.2.1 dX10_account_7 (by decide) (fun c7 => ?_) (fun c7 => ?_)
    · replace hf := k_ifP hf c7
      refine lv_aload_n X.1 X.2.1 dX10_account_21 rfl (lv_at hl 0 rfl) ?_
      refine k_get (v := .ref (ad 0 3)) X hU sh_0_0 fl_X10_55 rfl dX10_account_22 ?_
      refine lv_iload_n X.1 X.2.1 dX10_account_25 rfl (lv_at hl 1 rfl) ?_
      obtain ⟨hi26, hf⟩ := k_ckE hf
      refine k_ild (j0 := a1.toNatClampNeg) X hU sh_0_3 (k_vin (n := 10) hi26 (by decide)) rfl dX10_account_26 ?_
      exact absurd hf k_ninr0
    · replace hf := k_ifN hf c7
      exact J10 _ _ _ hU hS (lv_sub hl [] rfl) hf
def rm_X10_asks : Room := { frames := 2, cells := 0, slots := 0, locals := 45 }
set_option maxRecDepth 100000 in
set_option maxHeartbeats 4000000 in
theorem c_X10_asks {l : Launch} {D : va_G} {G : Nat → ClassId} {ad : Nat → Nat → Nat} {u : k_U} (hI : k_ok ad) {sz : Nat} {r : Int32} (hf : f_X10_asks u = some r) : Met l yX10_asks (.code yX10_asks cX10_asks 1 (some .boolean) :: lw_g) rm_X10_asks (k_Pre D G ad u sz [.ref (ad 0 0)]) (k_Qi D G ad u r sz) 0 0 (k_A ad sz) := by
  refine k_ofW (by decide +kernel) hI (Nat.le_of_ble_eq_true rfl) ?_
  intro p e s m args below meth c X hr hlk hU hS ls hl
  have hl : lv_has ls 1 [(0, .ref (ad 0 0))] := hl
  unfold f_X10_asks at hf
  refine lv_aload_n X.1 X.2.1 dX10_asks_0 rfl (lv_at hl 0 rfl) ?_
  refine k_get (v := .ref (ad 10 0)) X hU sh_0_0 fl_X10_33 rfl dX10_asks_1 ?_
  obtain ⟨r4, hr4, hf⟩ := k_bdE hf
  refine k_backi X hS (k_runV (As := []) (rest := []) X hS hU (sW_0 k_isW_10) (by decide) rfl vl_X10_320 (c_X9_asksForBrakes X.2.2.2.2.2.2.1 k_isW_10 rfl hr4) rfl rfl rfl hl.1 ⟨Nat.le_of_ble_eq_true rfl, Nat.le_of_ble_eq_true rfl⟩ (Nat.le_of_ble_eq_true rfl) dX10_asks_4 ⟨Nat.zero_le _, Nat.zero_le _⟩) (fun H locs hU hS => ?_)
  obtain ⟨hi7, hf⟩ := k_ckE hf
  have hz := Option.some.inj hf
  subst hz
  exact k_iret (v := r4) X hU hS hr hlk (k_nb hi7) rfl dX10_asks_7
def rm_X9_whyLayer : Room := { frames := 2, cells := 0, slots := 0, locals := 45 }
set_option maxRecDepth 100000 in
set_option maxHeartbeats 4000000 in
theorem c_X9_whyLayer {l : Launch} {D : va_G} {G : Nat → ClassId} {ad : Nat → Nat → Nat} {u : k_U} (hI : k_ok ad) {k : Nat} (hk : k_isW k) {w : k_M} (hw : u k = w) {a1 : Int32} {sz : Nat} {r : Int32} (hf : f_X9_whyLayer w a1 = some r) : Met l yX9_whyLayer (.code yX9_whyLayer cX9_whyLayer 3 (some .int) :: lw_g) rm_X9_whyLayer (k_Pre D G ad u sz [.ref (ad k 0), .int a1]) (k_Qi D G ad u r sz) 0 0 (k_A ad sz) := by
  refine k_ofW (by decide +kernel) hI (Nat.le_of_ble_eq_true rfl) ?_
  intro p e s m args below meth c X hr hlk hU hS ls hl
  have hl : lv_has ls 3 [(0, .ref (ad k 0)), (1, .int a1)] := hl
  have hU : k_Uv D G ad (k_uc u k w) s.heap := by rw [← hw, k_uc_id]; exact hU
  unfold f_X9_whyLayer at hf
  refine lv_aload_n X.1 X.2.1 dX9_whyLayer_0 rfl (lv_at hl 0 rfl) ?_
  refine k_getw (v := .ref (ad k 1)) X hU (sW_0 hk) fl_X9_13 rfl dX9_whyLayer_1 ?_
  refine lv_iload_n X.1 X.2.1 dX9_whyLayer_4 rfl (lv_at hl 1 rfl) ?_
  obtain ⟨hi5, hf⟩ := k_ckE hf
  have hj5 := (k_vin (n := 8) hi5 (by decide))
  refine k_ald (C := "LayeredChute$Chute") (tag := 23) (t0 := 3) (z := (k, (15 + a1.toNatClampNeg))) X hU ⟨by decide, by decide⟩ rfl (sW_1 hk) hj5 (k_rWl_at hj5) dX9_whyLayer_5 ?_
  refine lv_astore_n (lv' := [(2, .ref (ad k (15 + a1.toNatClampNeg))), (0, .ref (ad k 0)), (1, .int a1)]) X.1 X.2.1 dX9_whyLayer_6 rfl hl (by decide) rfl (fun ls hl => ?_)
  refine lv_aload_n X.1 X.2.1 dX9_whyLayer_7 rfl (lv_at hl 0 rfl) ?_
  refine k_getw (v := .int (w (15 + a1.toNatClampNeg) 5)) X hU (k_sC hk (k_isC_l (k_vlt hj5))) fl_X9_120 rfl dX9_whyLayer_8 ?_
  by_cases c11_1 : (w (15 + a1.toNatClampNeg) 5) = 1
  · replace hf := k_ifP hf c11_1
    refine lv_tableIn (x := w (15 + a1.toNatClampNeg) 5) (off := 29) (tgt := 40) X.1 X.2.1 dX9_whyLayer_11 (by rw [c11_1]; decide) (by rw [c11_1]; decide) (by rw [c11_1]; rfl) (by decide) ?_
    refine lv_iconst (v := 0) X.1 X.2.1 dX9_whyLayer_40 (by decide) ?_
    rw [← hw, k_uc_id] at hU
    have hz := Option.some.inj hf
    subst hz
    exact k_iret (v := 0) X hU hS hr hlk rfl rfl dX9_whyLayer_41
  replace hf := k_ifN hf c11_1
  by_cases c11_2 : (w (15 + a1.toNatClampNeg) 5) = 2
  · replace hf := k_ifP hf c11_2
    refine lv_tableIn (x := w (15 + a1.toNatClampNeg) 5) (off := 31) (tgt := 42) X.1 X.2.1 dX9_whyLayer_11 (by rw [c11_2]; decide) (by rw [c11_2]; decide) (by rw [c11_2]; rfl) (by decide) ?_
    refine lv_iconst (v := 1) X.1 X.2.1 dX9_whyLayer_42 (by decide) ?_
    rw [← hw, k_uc_id] at hU
    have hz := Option.some.inj hf
    subst hz
    exact k_iret (v := 1) X hU hS hr hlk rfl rfl dX9_whyLayer_43
  replace hf := k_ifN hf c11_2
  by_cases c11_3 : (w (15 + a1.toNatClampNeg) 5) = 3
  · replace hf := k_ifP hf c11_3
    refine lv_tableIn (x := w (15 + a1.toNatClampNeg) 5) (off := 33) (tgt := 44) X.1 X.2.1 dX9_whyLayer_11 (by rw [c11_3]; decide) (by rw [c11_3]; decide) (by rw [c11_3]; rfl) (by decide) ?_
    refine lv_iconst (v := 2) X.1 X.2.1 dX9_whyLayer_44 (by decide) ?_
    rw [← hw, k_uc_id] at hU
    have hz := Option.some.inj hf
    subst hz
    exact k_iret (v := 2) X hU hS hr hlk rfl rfl dX9_whyLayer_45
  replace hf := k_ifN hf c11_3
  by_cases c11_4 : (w (15 + a1.toNatClampNeg) 5) = 4
  · replace hf := k_ifP hf c11_4
    refine lv_tableIn (x := w (15 + a1.toNatClampNeg) 5) (off := 35) (tgt := 46) X.1 X.2.1 dX9_whyLayer_11 (by rw [c11_4]; decide) (by rw [c11_4]; decide) (by rw [c11_4]; rfl) (by decide) ?_
    refine lv_iconst (v := 3) X.1 X.2.1 dX9_whyLayer_46 (by decide) ?_
    rw [← hw, k_uc_id] at hU
    have hz := Option.some.inj hf
    subst hz
    exact k_iret (v := 3) X hU hS hr hlk rfl rfl dX9_whyLayer_47
  replace hf := k_ifN hf c11_4
  have ho11 : (w (15 + a1.toNatClampNeg) 5).toInt < 1 ∨ 4 < (w (15 + a1.toNatClampNeg) 5).toInt := by
    have g1 := k_tne (n := 1) (z := 1) c11_1 (by decide)
    have g2 := k_tne (n := 2) (z := 2) c11_2 (by decide)
    have g3 := k_tne (n := 3) (z := 3) c11_3 (by decide)
    have g4 := k_tne (n := 4) (z := 4) c11_4 (by decide)
    omega
  refine lv_tableOut (x := w (15 + a1.toNatClampNeg) 5) (tgt := 48) X.1 X.2.1 dX9_whyLayer_11 ho11 (by decide) ?_
  refine lv_aload_n X.1 X.2.1 dX9_whyLayer_48 rfl (lv_at hl 1 rfl) ?_
  refine k_getw (v := .int (w 0 0)) X hU (sW_0 hk) fl_X9_46 rfl dX9_whyLayer_49 ?_
  refine lv_aload_n X.1 X.2.1 dX9_whyLayer_52 rfl (lv_at hl 0 rfl) ?_
  refine k_getw (v := .int (w (15 + a1.toNatClampNeg) 3)) X hU (k_sC hk (k_isC_l (k_vlt hj5))) fl_X9_145 rfl dX9_whyLayer_53 ?_
  refine lv_icmp_le (tgt := 61) X.1 X.2.1 dX9_whyLayer_56 (by decide) (fun c56 => ?_) (fun c56 => ?_)
  · replace hf := k_ifP hf c56
    refine lv_aload_n X.1 X.2.1 dX9_whyLayer_61 rfl (lv_at hl 1 rfl) ?_
    refine k_getw (v := .int (w 0 1)) X hU (sW_0 hk) fl_X9_50 rfl dX9_whyLayer_62 ?_
    refine lv_aload_n X.1 X.2.1 dX9_whyLayer_65 rfl (lv_at hl 0 rfl) ?_
    refine k_getw (v := .int (w (15 + a1.toNatClampNeg) 4)) X hU (k_sC hk (k_isC_l (k_vlt hj5))) fl_X9_142 rfl dX9_whyLayer_66 ?_
    refine lv_icmp_le (tgt := 74) X.1 X.2.1 dX9_whyLayer_69 (by decide) (fun c69 => ?_) (fun c69 => ?_)
    · replace hf := k_ifP hf c69
      refine lv_aload_n X.1 X.2.1 dX9_whyLayer_74 rfl (lv_at hl 1 rfl) ?_
      obtain ⟨r75, hr75, hf⟩ := k_bdE hf
      refine k_backi X hS (k_runV (As := []) (rest := []) X hS hU (sW_0 hk) (by decide) rfl vl_X9_148 (c_X9_asksForBrakes X.2.2.2.2.2.2.1 hk (k_uc_s _ _ _) hr75) rfl rfl rfl hl.1 ⟨Nat.le_of_ble_eq_true rfl, Nat.le_of_ble_eq_true rfl⟩ (Nat.le_of_ble_eq_true rfl) dX9_whyLayer_75 ⟨Nat.zero_le _, Nat.zero_le _⟩) (fun H locs hU hS => ?_)
      refine lv_if_ne (tgt := 84) X.1 X.2.1 dX9_whyLayer_78 (by decide) (fun c78 => ?_) (fun c78 => ?_)
      · replace hf := k_ifN hf c78
        refine lv_aload_n X.1 X.2.1 dX9_whyLayer_84 rfl (lv_at hl 1 rfl) ?_
        obtain ⟨r85, hr85, hf⟩ := k_bdE hf
        refine k_backi X hS (k_runV (As := []) (rest := []) X hS hU (sW_0 hk) (by decide) rfl vl_X9_151 (c_X9_firstLayerThatMayOpen X.2.2.2.2.2.2.1 hk (k_uc_s _ _ _) hr85) rfl rfl rfl hl.1 ⟨Nat.le_of_ble_eq_true rfl, Nat.le_of_ble_eq_true rfl⟩ (Nat.le_of_ble_eq_true rfl) dX9_whyLayer_85 ⟨Nat.zero_le _, Nat.zero_le _⟩) (fun H locs hU hS => ?_)
        refine lv_iload_n X.1 X.2.1 dX9_whyLayer_88 rfl (lv_at hl 2 rfl) ?_
        refine lv_icmp_ge (tgt := 97) X.1 X.2.1 dX9_whyLayer_89 (by decide) (fun c89 => ?_) (fun c89 => ?_)
        · replace hf := k_ifP hf c89
          refine lv_bipush (v := 8) X.1 X.2.1 dX9_whyLayer_97 (by decide) ?_
          rw [← hw, k_uc_id] at hU
          have hz := Option.some.inj hf
          subst hz
          exact k_iret (v := 8) X hU hS hr hlk rfl rfl dX9_whyLayer_99
        · replace hf := k_ifN hf c89
          refine lv_bipush (v := 7) X.1 X.2.1 dX9_whyLayer_92 (by decide) ?_
          refine lv_goto (tgt := 99) X.1 X.2.1 dX9_whyLayer_94 (by decide) ?_
          rw [← hw, k_uc_id] at hU
          have hz := Option.some.inj hf
          subst hz
          exact k_iret (v := 7) X hU hS hr hlk rfl rfl dX9_whyLayer_99
      · replace hf := k_ifP hf c78
        refine lv_bipush (v := 6) X.1 X.2.1 dX9_whyLayer_81 (by decide) ?_
        rw [← hw, k_uc_id] at hU
        have hz := Option.some.inj hf
        subst hz
        exact k_iret (v := 6) X hU hS hr hlk rfl rfl dX9_whyLayer_83
    · replace hf := k_ifN hf c69
      refine lv_iconst (v := 5) X.1 X.2.1 dX9_whyLayer_72 (by decide) ?_
      rw [← hw, k_uc_id] at hU
      have hz := Option.some.inj hf
      subst hz
      exact k_iret (v := 5) X hU hS hr hlk rfl rfl dX9_whyLayer_73
  · replace hf := k_ifN hf c56
    refine lv_iconst (v := 4) X.1 X.2.1 dX9_whyLayer_59 (by decide) ?_
    rw [← hw, k_uc_id] at hU
    have hz := Option.some.inj hf
    subst hz
    exact k_iret (v := 4) X hU hS hr hlk rfl rfl dX9_whyLayer_60
def rm_X10_why : Room := { frames := 3, cells := 0, slots := 0, locals := 67 }
set_option maxRecDepth 100000 in
set_option maxHeartbeats 4000000 in
theorem c_X10_why {l : Launch} {D : va_G} {G : Nat → ClassId} {ad : Nat → Nat → Nat} {u : k_U} (hI : k_ok ad) {a1 : Int32} {sz : Nat} {r2 : Int32} (hf : f_X10_why u a1 = some (Sum.inl r2)) : Met l yX10_why (.code yX10_why cX10_why 2 (some .int) :: lw_g) rm_X10_why (k_Pre D G ad u sz [.ref (ad 0 0), .int a1]) (k_Qi D G ad u r2 sz) 0 0 (k_A ad sz) := by
  refine k_ofW (by decide +kernel) hI (Nat.le_of_ble_eq_true rfl) ?_
  intro p e s m args below meth c X hr hlk hU hS ls hl
  have hl : lv_has ls 2 [(0, .ref (ad 0 0)), (1, .int a1)] := hl
  unfold f_X10_why at hf
  refine lv_aload_n X.1 X.2.1 dX10_why_0 rfl (lv_at hl 0 rfl) ?_
  refine k_get (v := .ref (ad 10 0)) X hU sh_0_0 fl_X10_33 rfl dX10_why_1 ?_
  refine lv_iload_n X.1 X.2.1 dX10_why_4 rfl (lv_at hl 1 rfl) ?_
  obtain ⟨r5, hr5, hf⟩ := k_bdE hf
  refine k_backi X hS (k_runV (As := [.int a1]) (rest := []) X hS hU (sW_0 k_isW_10) (by decide) rfl vl_X10_324 (c_X9_hasLayer X.2.2.2.2.2.2.1 k_isW_10 rfl hr5) rfl rfl rfl hl.1 ⟨Nat.le_of_ble_eq_true rfl, Nat.le_of_ble_eq_true rfl⟩ (Nat.le_of_ble_eq_true rfl) dX10_why_5 ⟨Nat.zero_le _, Nat.zero_le _⟩) (fun H locs hU hS => ?_)
  refine lv_if_ne (tgt := 22) X.1 X.2.1 dX10_why_8 (by decide) (fun c8 => ?_) (fun c8 => ?_)
  · replace hf := k_ifN hf c8
    refine lv_aload_n X.1 X.2.1 dX10_why_22 rfl (lv_at hl 0 rfl) ?_
    refine k_get (v := .ref (ad 10 0)) X hU sh_0_0 fl_X10_33 rfl dX10_why_23 ?_
    refine lv_iload_n X.1 X.2.1 dX10_why_26 rfl (lv_at hl 1 rfl) ?_
    obtain ⟨r27, hr27, hf⟩ := k_bdE hf
    refine k_backi X hS (k_runV (As := [.int a1]) (rest := []) X hS hU (sW_0 k_isW_10) (by decide) rfl vl_X10_329 (c_X9_whyLayer X.2.2.2.2.2.2.1 k_isW_10 rfl hr27) rfl rfl rfl hl.1 ⟨Nat.le_of_ble_eq_true rfl, Nat.le_of_ble_eq_true rfl⟩ (Nat.le_of_ble_eq_true rfl) dX10_why_27 ⟨Nat.zero_le _, Nat.zero_le _⟩) (fun H locs hU hS => ?_)
    have hz := k_injl0 hf
    subst hz
    exact k_iret (v := r27) X hU hS hr hlk rfl rfl dX10_why_30
  · replace hf := k_ifP hf c8
    exact absurd hf k_ninl0
def rx_X10_why : Room := { frames := 6, cells := 1, slots := 6, locals := 90 }
set_option maxRecDepth 100000 in
set_option maxHeartbeats 4000000 in
theorem x_X10_why {l : Launch} {D : va_G} {G : Nat → ClassId} {ad : Nat → Nat → Nat} {u : k_U} (hI : k_ok ad) (hlT : l.stackTraces = false) {a1 : Int32} {sz : Nat} {j : Nat} (hf : f_X10_why u a1 = some (Sum.inr j)) : vx_Met l yX10_why (.code yX10_why cX10_why 2 (some .int) :: lw_g) rx_X10_why (k_Pre D G ad u sz [.ref (ad 0 0), .int a1]) (k_Qn ad sz) (k_XC D G ad u j sz) 1 6 (k_A ad sz) := by
  refine k_xofW (by decide +kernel) hI (Nat.le_of_ble_eq_true rfl) ?_
  intro p e s m args below meth c X hr hlk hex hU hS ls hl
  have hl : lv_has ls 2 [(0, .ref (ad 0 0)), (1, .int a1)] := hl
  unfold f_X10_why at hf
  refine lv_aload_n X.1 X.2.1 dX10_why_0 rfl (lv_at hl 0 rfl) ?_
  refine k_get (v := .ref (ad 10 0)) X hU sh_0_0 fl_X10_33 rfl dX10_why_1 ?_
  refine lv_iload_n X.1 X.2.1 dX10_why_4 rfl (lv_at hl 1 rfl) ?_
  obtain ⟨r5, hr5, hf⟩ := k_bdE hf
  refine k_backi X hS (k_runV (As := [.int a1]) (rest := []) X hS hU (sW_0 k_isW_10) (by decide) rfl vl_X10_324 (c_X9_hasLayer X.2.2.2.2.2.2.1 k_isW_10 rfl hr5) rfl rfl rfl hl.1 ⟨Nat.le_of_ble_eq_true rfl, Nat.le_of_ble_eq_true rfl⟩ (Nat.le_of_ble_eq_true rfl) dX10_why_5 ⟨Nat.zero_le _, Nat.zero_le _⟩) (fun H locs hU hS => ?_)
  refine lv_if_ne (tgt := 22) X.1 X.2.1 dX10_why_8 (by decide) (fun c8 => ?_) (fun c8 => ?_)
  · replace hf := k_ifN hf c8
    refine lv_aload_n X.1 X.2.1 dX10_why_22 rfl (lv_at hl 0 rfl) ?_
    refine k_get (v := .ref (ad 10 0)) X hU sh_0_0 fl_X10_33 rfl dX10_why_23 ?_
    refine lv_iload_n X.1 X.2.1 dX10_why_26 rfl (lv_at hl 1 rfl) ?_
    obtain ⟨r27, hr27, hf⟩ := k_bdE hf
    refine k_backi X hS (k_runV (As := [.int a1]) (rest := []) X hS hU (sW_0 k_isW_10) (by decide) rfl vl_X10_329 (c_X9_whyLayer X.2.2.2.2.2.2.1 k_isW_10 rfl hr27) rfl rfl rfl hl.1 ⟨Nat.le_of_ble_eq_true rfl, Nat.le_of_ble_eq_true rfl⟩ (Nat.le_of_ble_eq_true rfl) dX10_why_27 ⟨Nat.zero_le _, Nat.zero_le _⟩) (fun H locs hU hS => ?_)
    exact absurd hf k_ninr0
  · replace hf := k_ifP hf c8
    have hz := k_injr0 hf
    subst hz
    exact k_thrSW X hlT hU hS (i := 45) rfl xw_238 (by decide +kernel) rfl hl.1 dX10_why_11 dX10_why_14 dX10_why_15 dX10_why_18 dX10_why_21 hex (Nat.le_of_ble_eq_true rfl) (Nat.le_of_ble_eq_true rfl) ⟨Nat.le_of_ble_eq_true rfl, Nat.le_of_ble_eq_true rfl⟩ hlk ⟨Nat.le_of_ble_eq_true rfl, Nat.le_of_ble_eq_true rfl⟩
def rm_X9_whyOfReserve : Room := { frames := 2, cells := 0, slots := 0, locals := 45 }
set_option maxRecDepth 100000 in
set_option maxHeartbeats 4000000 in
theorem c_X9_whyOfReserve {l : Launch} {D : va_G} {G : Nat → ClassId} {ad : Nat → Nat → Nat} {u : k_U} (hI : k_ok ad) {k : Nat} (hk : k_isW k) {w : k_M} (hw : u k = w) {sz : Nat} {r : Int32} (hf : f_X9_whyOfReserve w = some r) : Met l yX9_whyOfReserve (.code yX9_whyOfReserve cX9_whyOfReserve 1 (some .int) :: lw_g) rm_X9_whyOfReserve (k_Pre D G ad u sz [.ref (ad k 0)]) (k_Qi D G ad u r sz) 0 0 (k_A ad sz) := by
  refine k_ofW (by decide +kernel) hI (Nat.le_of_ble_eq_true rfl) ?_
  intro p e s m args below meth c X hr hlk hU hS ls hl
  have hl : lv_has ls 1 [(0, .ref (ad k 0))] := hl
  have hU : k_Uv D G ad (k_uc u k w) s.heap := by rw [← hw, k_uc_id]; exact hU
  unfold f_X9_whyOfReserve at hf
  refine lv_aload_n X.1 X.2.1 dX9_whyOfReserve_0 rfl (lv_at hl 0 rfl) ?_
  refine k_getw (v := .int (w 0 11)) X hU (sW_0 hk) fl_X9_80 rfl dX9_whyOfReserve_1 ?_
  refine lv_if_ne (tgt := 9) X.1 X.2.1 dX9_whyOfReserve_4 (by decide) (fun c4 => ?_) (fun c4 => ?_)
  · replace hf := k_ifN hf c4
    refine lv_aload_n X.1 X.2.1 dX9_whyOfReserve_9 rfl (lv_at hl 0 rfl) ?_
    refine k_getw (v := .ref (ad k 2)) X hU (sW_0 hk) fl_X9_18 rfl dX9_whyOfReserve_10 ?_
    refine k_getw (v := .int (w 2 5)) X hU (k_sC hk k_isC_2) fl_X9_120 rfl dX9_whyOfReserve_13 ?_
    refine lv_iconst (v := 1) X.1 X.2.1 dX9_whyOfReserve_16 (by decide) ?_
    refine lv_icmp_ne (tgt := 22) X.1 X.2.1 dX9_whyOfReserve_17 (by decide) (fun c17 => ?_) (fun c17 => ?_)
    · replace hf := k_ifN hf c17
      refine lv_aload_n X.1 X.2.1 dX9_whyOfReserve_22 rfl (lv_at hl 0 rfl) ?_
      refine k_getw (v := .ref (ad k 2)) X hU (sW_0 hk) fl_X9_18 rfl dX9_whyOfReserve_23 ?_
      refine k_getw (v := .int (w 2 5)) X hU (k_sC hk k_isC_2) fl_X9_120 rfl dX9_whyOfReserve_26 ?_
      refine lv_if_eq (tgt := 34) X.1 X.2.1 dX9_whyOfReserve_29 (by decide) (fun c29 => ?_) (fun c29 => ?_)
      · replace hf := k_ifP hf c29
        refine lv_aload_n X.1 X.2.1 dX9_whyOfReserve_34 rfl (lv_at hl 0 rfl) ?_
        refine k_getw (v := .int (w 0 0)) X hU (sW_0 hk) fl_X9_46 rfl dX9_whyOfReserve_35 ?_
        refine lv_aload_n X.1 X.2.1 dX9_whyOfReserve_38 rfl (lv_at hl 0 rfl) ?_
        refine k_getw (v := .ref (ad k 2)) X hU (sW_0 hk) fl_X9_18 rfl dX9_whyOfReserve_39 ?_
        refine k_getw (v := .int (w 2 3)) X hU (k_sC hk k_isC_2) fl_X9_145 rfl dX9_whyOfReserve_42 ?_
        refine lv_icmp_le (tgt := 50) X.1 X.2.1 dX9_whyOfReserve_45 (by decide) (fun c45 => ?_) (fun c45 => ?_)
        · replace hf := k_ifP hf c45
          refine lv_aload_n X.1 X.2.1 dX9_whyOfReserve_50 rfl (lv_at hl 0 rfl) ?_
          obtain ⟨r51, hr51, hf⟩ := k_bdE hf
          refine k_backi X hS (k_runV (As := []) (rest := []) X hS hU (sW_0 hk) (by decide) rfl vl_X9_154 (c_X9_failedLayers X.2.2.2.2.2.2.1 hk (k_uc_s _ _ _) hr51) rfl rfl rfl hl.1 ⟨Nat.le_of_ble_eq_true rfl, Nat.le_of_ble_eq_true rfl⟩ (Nat.le_of_ble_eq_true rfl) dX9_whyOfReserve_51 ⟨Nat.zero_le _, Nat.zero_le _⟩) (fun H locs hU hS => ?_)
          refine lv_aload_n X.1 X.2.1 dX9_whyOfReserve_54 rfl (lv_at hl 0 rfl) ?_
          refine k_getw (v := .ref (ad k 2)) X hU (sW_0 hk) fl_X9_18 rfl dX9_whyOfReserve_55 ?_
          refine k_getw (v := .int (w 2 4)) X hU (k_sC hk k_isC_2) fl_X9_142 rfl dX9_whyOfReserve_58 ?_
          refine lv_icmp_ge (tgt := 66) X.1 X.2.1 dX9_whyOfReserve_61 (by decide) (fun c61 => ?_) (fun c61 => ?_)
          · replace hf := k_ifP hf c61
            refine lv_aload_n X.1 X.2.1 dX9_whyOfReserve_66 rfl (lv_at hl 0 rfl) ?_
            obtain ⟨r67, hr67, hf⟩ := k_bdE hf
            refine k_backi X hS (k_runV (As := []) (rest := []) X hS hU (sW_0 hk) (by decide) rfl vl_X9_151 (c_X9_firstLayerThatMayOpen X.2.2.2.2.2.2.1 hk (k_uc_s _ _ _) hr67) rfl rfl rfl hl.1 ⟨Nat.le_of_ble_eq_true rfl, Nat.le_of_ble_eq_true rfl⟩ (Nat.le_of_ble_eq_true rfl) dX9_whyOfReserve_67 ⟨Nat.zero_le _, Nat.zero_le _⟩) (fun H locs hU hS => ?_)
            refine lv_iconst (v := (-1)) X.1 X.2.1 dX9_whyOfReserve_70 (by decide) ?_
            refine lv_icmp_eq (tgt := 76) X.1 X.2.1 dX9_whyOfReserve_71 (by decide) (fun c71 => ?_) (fun c71 => ?_)
            · replace hf := k_ifP hf c71
              refine lv_aload_n X.1 X.2.1 dX9_whyOfReserve_76 rfl (lv_at hl 0 rfl) ?_
              obtain ⟨r77, hr77, hf⟩ := k_bdE hf
              refine k_backi X hS (k_runV (As := []) (rest := []) X hS hU (sW_0 hk) (by decide) rfl vl_X9_148 (c_X9_asksForBrakes X.2.2.2.2.2.2.1 hk (k_uc_s _ _ _) hr77) rfl rfl rfl hl.1 ⟨Nat.le_of_ble_eq_true rfl, Nat.le_of_ble_eq_true rfl⟩ (Nat.le_of_ble_eq_true rfl) dX9_whyOfReserve_77 ⟨Nat.zero_le _, Nat.zero_le _⟩) (fun H locs hU hS => ?_)
              refine lv_if_eq (tgt := 88) X.1 X.2.1 dX9_whyOfReserve_80 (by decide) (fun c80 => ?_) (fun c80 => ?_)
              · replace hf := k_ifP hf c80
                refine lv_bipush (v := 6) X.1 X.2.1 dX9_whyOfReserve_88 (by decide) ?_
                rw [← hw, k_uc_id] at hU
                have hz := Option.some.inj hf
                subst hz
                exact k_iret (v := 6) X hU hS hr hlk rfl rfl dX9_whyOfReserve_90
              · replace hf := k_ifN hf c80
                refine lv_bipush (v := 7) X.1 X.2.1 dX9_whyOfReserve_83 (by decide) ?_
                refine lv_goto (tgt := 90) X.1 X.2.1 dX9_whyOfReserve_85 (by decide) ?_
                rw [← hw, k_uc_id] at hU
                have hz := Option.some.inj hf
                subst hz
                exact k_iret (v := 7) X hU hS hr hlk rfl rfl dX9_whyOfReserve_90
            · replace hf := k_ifN hf c71
              refine lv_iconst (v := 5) X.1 X.2.1 dX9_whyOfReserve_74 (by decide) ?_
              rw [← hw, k_uc_id] at hU
              have hz := Option.some.inj hf
              subst hz
              exact k_iret (v := 5) X hU hS hr hlk rfl rfl dX9_whyOfReserve_75
          · replace hf := k_ifN hf c61
            refine lv_iconst (v := 4) X.1 X.2.1 dX9_whyOfReserve_64 (by decide) ?_
            rw [← hw, k_uc_id] at hU
            have hz := Option.some.inj hf
            subst hz
            exact k_iret (v := 4) X hU hS hr hlk rfl rfl dX9_whyOfReserve_65
        · replace hf := k_ifN hf c45
          refine lv_iconst (v := 3) X.1 X.2.1 dX9_whyOfReserve_48 (by decide) ?_
          rw [← hw, k_uc_id] at hU
          have hz := Option.some.inj hf
          subst hz
          exact k_iret (v := 3) X hU hS hr hlk rfl rfl dX9_whyOfReserve_49
      · replace hf := k_ifN hf c29
        refine lv_iconst (v := 2) X.1 X.2.1 dX9_whyOfReserve_32 (by decide) ?_
        rw [← hw, k_uc_id] at hU
        have hz := Option.some.inj hf
        subst hz
        exact k_iret (v := 2) X hU hS hr hlk rfl rfl dX9_whyOfReserve_33
    · replace hf := k_ifP hf c17
      refine lv_iconst (v := 0) X.1 X.2.1 dX9_whyOfReserve_20 (by decide) ?_
      rw [← hw, k_uc_id] at hU
      have hz := Option.some.inj hf
      subst hz
      exact k_iret (v := 0) X hU hS hr hlk rfl rfl dX9_whyOfReserve_21
  · replace hf := k_ifP hf c4
    refine lv_iconst (v := 1) X.1 X.2.1 dX9_whyOfReserve_7 (by decide) ?_
    rw [← hw, k_uc_id] at hU
    have hz := Option.some.inj hf
    subst hz
    exact k_iret (v := 1) X hU hS hr hlk rfl rfl dX9_whyOfReserve_8
def rm_X10_whyReserve : Room := { frames := 3, cells := 0, slots := 0, locals := 65 }
set_option maxRecDepth 100000 in
set_option maxHeartbeats 4000000 in
theorem c_X10_whyReserve {l : Launch} {D : va_G} {G : Nat → ClassId} {ad : Nat → Nat → Nat} {u : k_U} (hI : k_ok ad) {sz : Nat} {r : Int32} (hf : f_X10_whyReserve u = some r) : Met l yX10_whyReserve (.code yX10_whyReserve cX10_whyReserve 1 (some .int) :: lw_g) rm_X10_whyReserve (k_Pre D G ad u sz [.ref (ad 0 0)]) (k_Qi D G ad u r sz) 0 0 (k_A ad sz) := by
  refine k_ofW (by decide +kernel) hI (Nat.le_of_ble_eq_true rfl) ?_
  intro p e s m args below meth c X hr hlk hU hS ls hl
  have hl : lv_has ls 1 [(0, .ref (ad 0 0))] := hl
  unfold f_X10_whyReserve at hf
  refine lv_aload_n X.1 X.2.1 dX10_whyReserve_0 rfl (lv_at hl 0 rfl) ?_
  refine k_get (v := .ref (ad 10 0)) X hU sh_0_0 fl_X10_33 rfl dX10_whyReserve_1 ?_
  obtain ⟨r4, hr4, hf⟩ := k_bdE hf
  refine k_backi X hS (k_runV (As := []) (rest := []) X hS hU (sW_0 k_isW_10) (by decide) rfl vl_X10_332 (c_X9_whyOfReserve X.2.2.2.2.2.2.1 k_isW_10 rfl hr4) rfl rfl rfl hl.1 ⟨Nat.le_of_ble_eq_true rfl, Nat.le_of_ble_eq_true rfl⟩ (Nat.le_of_ble_eq_true rfl) dX10_whyReserve_4 ⟨Nat.zero_le _, Nat.zero_le _⟩) (fun H locs hU hS => ?_)
  have hz := Option.some.inj hf
  subst hz
  exact k_iret (v := r4) X hU hS hr hlk rfl rfl dX10_whyReserve_7
def rm_X10_loadOn : Room := { frames := 2, cells := 0, slots := 0, locals := 42 }
set_option maxRecDepth 100000 in
set_option maxHeartbeats 4000000 in
theorem c_X10_loadOn {l : Launch} {D : va_G} {G : Nat → ClassId} {ad : Nat → Nat → Nat} {u : k_U} (hI : k_ok ad) {a1 : Int32} {sz : Nat} {r2 : Int32} (hf : f_X10_loadOn u a1 = some (Sum.inl r2)) : Met l yX10_loadOn (.code yX10_loadOn cX10_loadOn 5 (some .int) :: lw_g) rm_X10_loadOn (k_Pre D G ad u sz [.ref (ad 0 0), .int a1]) (k_Qi D G ad u r2 sz) 0 0 (k_A ad sz) := by
  refine k_ofW (by decide +kernel) hI (Nat.le_of_ble_eq_true rfl) ?_
  intro p e s m args below meth c X hr hlk hU hS ls hl
  have hl : lv_has ls 5 [(0, .ref (ad 0 0)), (1, .int a1)] := hl
  unfold f_X10_loadOn at hf
  refine lv_aload_n X.1 X.2.1 dX10_loadOn_0 rfl (lv_at hl 0 rfl) ?_
  refine k_get (v := .ref (ad 10 0)) X hU sh_0_0 fl_X10_33 rfl dX10_loadOn_1 ?_
  refine lv_iload_n X.1 X.2.1 dX10_loadOn_4 rfl (lv_at hl 1 rfl) ?_
  obtain ⟨r5, hr5, hf⟩ := k_bdE hf
  refine k_backi X hS (k_runV (As := [.int a1]) (rest := []) X hS hU (sW_0 k_isW_10) (by decide) rfl vl_X10_234 (c_X9_hasChute X.2.2.2.2.2.2.1 k_isW_10 rfl hr5) rfl rfl rfl hl.1 ⟨Nat.le_of_ble_eq_true rfl, Nat.le_of_ble_eq_true rfl⟩ (Nat.le_of_ble_eq_true rfl) dX10_loadOn_5 ⟨Nat.zero_le _, Nat.zero_le _⟩) (fun H locs hU hS => ?_)
  refine lv_if_ne (tgt := 21) X.1 X.2.1 dX10_loadOn_8 (by decide) (fun c8 => ?_) (fun c8 => ?_)
  · replace hf := k_ifN hf c8
    refine lv_aload_n X.1 X.2.1 dX10_loadOn_21 rfl (lv_at hl 0 rfl) ?_
    refine k_get (v := .ref (ad 10 0)) X hU sh_0_0 fl_X10_33 rfl dX10_loadOn_22 ?_
    refine lv_iload_n X.1 X.2.1 dX10_loadOn_25 rfl (lv_at hl 1 rfl) ?_
    obtain ⟨r26, hr26, hf⟩ := k_bdE hf
    refine k_backr X hS (k_runV (As := [.int a1]) (rest := []) X hS hU (sW_0 k_isW_10) (by decide) rfl vl_X10_243 (c_X9_chuteAt X.2.2.2.2.2.2.1 k_isW_10 rfl hr26) rfl rfl rfl hl.1 ⟨Nat.le_of_ble_eq_true rfl, Nat.le_of_ble_eq_true rfl⟩ (Nat.le_of_ble_eq_true rfl) dX10_loadOn_26 ⟨Nat.zero_le _, Nat.zero_le _⟩) (fun H locs hU hS => ?_)
    obtain ⟨hi26, hf⟩ := k_ckE hf
    refine lv_astore_n (lv' := [(2, .ref (ad 10 r26)), (0, .ref (ad 0 0)), (1, .int a1)]) X.1 X.2.1 dX10_loadOn_29 rfl hl (by decide) rfl (fun ls hl => ?_)
    refine lv_aload_n X.1 X.2.1 dX10_loadOn_30 rfl (lv_at hl 0 rfl) ?_
    refine k_get (v := .int (u 10 r26 5)) X hU (k_sC k_isW_10 hi26) fl_X10_264 rfl dX10_loadOn_31 ?_
    refine lv_iconst (v := 1) X.1 X.2.1 dX10_loadOn_34 (by decide) ?_
    refine lv_icmp_eq (tgt := 40) X.1 X.2.1 dX10_loadOn_35 (by decide) (fun c35 => ?_) (fun c35 => ?_)
    · replace hf := k_ifP hf c35
      refine lv_aload_n X.1 X.2.1 dX10_loadOn_40 rfl (lv_at hl 0 rfl) ?_
      refine lv_aload_n X.1 X.2.1 dX10_loadOn_41 rfl (lv_at hl 1 rfl) ?_
      refine k_get (v := .ref (ad 10 0)) X hU sh_0_0 fl_X10_33 rfl dX10_loadOn_42 ?_
      obtain ⟨r45, hr45, hf⟩ := k_bdE hf
      refine k_backi X hS (k_runV (As := []) (rest := [.ref (ad 10 r26)]) X hS hU (sW_0 k_isW_10) (by decide) rfl vl_X10_174 (c_X9_air X.2.2.2.2.2.2.1 k_isW_10 rfl hr45) rfl rfl rfl hl.1 ⟨Nat.le_of_ble_eq_true rfl, Nat.le_of_ble_eq_true rfl⟩ (Nat.le_of_ble_eq_true rfl) dX10_loadOn_45 ⟨Nat.zero_le _, Nat.zero_le _⟩) (fun H locs hU hS => ?_)
      refine lv_aload_n X.1 X.2.1 dX10_loadOn_48 rfl (lv_at hl 1 rfl) ?_
      refine k_get (v := .ref (ad 10 0)) X hU sh_0_0 fl_X10_33 rfl dX10_loadOn_49 ?_
      refine k_get (v := .int (u 10 0 1)) X hU (sW_0 k_isW_10) fl_X10_156 rfl dX10_loadOn_52 ?_
      obtain ⟨r55, hr55, hf⟩ := k_bdE hf
      refine k_backl X hS (k_runV (As := [.int r45, .int (u 10 0 1)]) (rest := []) X hS hU (k_sC k_isW_10 hi26) (by decide) rfl vl_X10_335 (c_X0_pull X.2.2.2.2.2.2.1 k_isW_10 rfl hi26 hr55) rfl rfl rfl hl.1 ⟨Nat.le_of_ble_eq_true rfl, Nat.le_of_ble_eq_true rfl⟩ (Nat.le_of_ble_eq_true rfl) dX10_loadOn_55 ⟨Nat.zero_le _, Nat.zero_le _⟩) (fun H locs hU hS => ?_)
      refine lv_lstore_n (lv' := [(3, .long r55), (2, .ref (ad 10 r26)), (0, .ref (ad 0 0)), (1, .int a1)]) X.1 X.2.1 dX10_loadOn_58 rfl hl (by decide) rfl (fun ls hl => ?_)
      refine lv_aload_n X.1 X.2.1 dX10_loadOn_59 rfl (lv_at hl 1 rfl) ?_
      refine lv_lload_n X.1 X.2.1 dX10_loadOn_60 rfl (lv_at hl 0 rfl) ?_
      refine lv_aload_n X.1 X.2.1 dX10_loadOn_61 rfl (lv_at hl 2 rfl) ?_
      refine k_get (v := .ref (ad 10 0)) X hU sh_0_0 fl_X10_33 rfl dX10_loadOn_62 ?_
      refine k_get (v := .int (u 10 0 5)) X hU (sW_0 k_isW_10) fl_X10_168 rfl dX10_loadOn_65 ?_
      refine lv_aload_n X.1 X.2.1 dX10_loadOn_68 rfl (lv_at hl 1 rfl) ?_
      refine k_get (v := .int (u 10 r26 7)) X hU (k_sC k_isW_10 hi26) fl_X10_277 rfl dX10_loadOn_69 ?_
      obtain ⟨r72, hr72, hf⟩ := k_bdE hf
      refine k_backl X hS (k_runV (As := [.long r55, .int (u 10 0 5), .int (u 10 r26 7)]) (rest := []) X hS hU (k_sC k_isW_10 hi26) (by decide) rfl vl_X10_339 (c_X0_loadOfOneLine X.2.2.2.2.2.2.1 k_isW_10 rfl hi26 hr72) rfl rfl rfl hl.1 ⟨Nat.le_of_ble_eq_true rfl, Nat.le_of_ble_eq_true rfl⟩ (Nat.le_of_ble_eq_true rfl) dX10_loadOn_72 ⟨Nat.zero_le _, Nat.zero_le _⟩) (fun H locs hU hS => ?_)
      refine lv_l2i (v := r72.toInt32) X.1 X.2.1 dX10_loadOn_75 rfl ?_
      have hz := k_injl0 hf
      subst hz
      exact k_iret (v := r72.toInt32) X hU hS hr hlk rfl rfl dX10_loadOn_76
    · replace hf := k_ifN hf c35
      refine lv_iconst (v := 0) X.1 X.2.1 dX10_loadOn_38 (by decide) ?_
      have hz := k_injl0 hf
      subst hz
      exact k_iret (v := 0) X hU hS hr hlk rfl rfl dX10_loadOn_39
  · replace hf := k_ifP hf c8
    exact absurd hf k_ninl0
def rx_X10_loadOn : Room := { frames := 6, cells := 1, slots := 6, locals := 90 }
set_option maxRecDepth 100000 in
set_option maxHeartbeats 4000000 in
theorem x_X10_loadOn {l : Launch} {D : va_G} {G : Nat → ClassId} {ad : Nat → Nat → Nat} {u : k_U} (hI : k_ok ad) (hlT : l.stackTraces = false) {a1 : Int32} {sz : Nat} {j : Nat} (hf : f_X10_loadOn u a1 = some (Sum.inr j)) : vx_Met l yX10_loadOn (.code yX10_loadOn cX10_loadOn 5 (some .int) :: lw_g) rx_X10_loadOn (k_Pre D G ad u sz [.ref (ad 0 0), .int a1]) (k_Qn ad sz) (k_XC D G ad u j sz) 1 6 (k_A ad sz) := by
  refine k_xofW (by decide +kernel) hI (Nat.le_of_ble_eq_true rfl) ?_
  intro p e s m args below meth c X hr hlk hex hU hS ls hl
  have hl : lv_has ls 5 [(0, .ref (ad 0 0)), (1, .int a1)] := hl
  unfold f_X10_loadOn at hf
  refine lv_aload_n X.1 X.2.1 dX10_loadOn_0 rfl (lv_at hl 0 rfl) ?_
  refine k_get (v := .ref (ad 10 0)) X hU sh_0_0 fl_X10_33 rfl dX10_loadOn_1 ?_
  refine lv_iload_n X.1 X.2.1 dX10_loadOn_4 rfl (lv_at hl 1 rfl) ?_
  obtain ⟨r5, hr5, hf⟩ := k_bdE hf
  refine k_backi X hS (k_runV (As := [.int a1]) (rest := []) X hS hU (sW_0 k_isW_10) (by decide) rfl vl_X10_234 (c_X9_hasChute X.2.2.2.2.2.2.1 k_isW_10 rfl hr5) rfl rfl rfl hl.1 ⟨Nat.le_of_ble_eq_true rfl, Nat.le_of_ble_eq_true rfl⟩ (Nat.le_of_ble_eq_true rfl) dX10_loadOn_5 ⟨Nat.zero_le _, Nat.zero_le _⟩) (fun H locs hU hS => ?_)
  refine lv_if_ne (tgt := 21) X.1 X.2.1 dX10_loadOn_8 (by decide) (fun c8 => ?_) (fun c8 => ?_)
  · replace hf := k_ifN hf c8
    refine lv_aload_n X.1 X.2.1 dX10_loadOn_21 rfl (lv_at hl 0 rfl) ?_
    refine k_get (v := .ref (ad 10 0)) X hU sh_0_0 fl_X10_33 rfl dX10_loadOn_22 ?_
    refine lv_iload_n X.1 X.2.1 dX10_loadOn_25 rfl (lv_at hl 1 rfl) ?_
    obtain ⟨r26, hr26, hf⟩ := k_bdE hf
    refine k_backr X hS (k_runV (As := [.int a1]) (rest := []) X hS hU (sW_0 k_isW_10) (by decide) rfl vl_X10_243 (c_X9_chuteAt X.2.2.2.2.2.2.1 k_isW_10 rfl hr26) rfl rfl rfl hl.1 ⟨Nat.le_of_ble_eq_true rfl, Nat.le_of_ble_eq_true rfl⟩ (Nat.le_of_ble_eq_true rfl) dX10_loadOn_26 ⟨Nat.zero_le _, Nat.zero_le _⟩) (fun H locs hU hS => ?_)
    obtain ⟨hi26, hf⟩ := k_ckE hf
    refine lv_astore_n (lv' := [(2, .ref (ad 10 r26)), (0, .ref (ad 0 0)), (1, .int a1)]) X.1 X.2.1 dX10_loadOn_29 rfl hl (by decide) rfl (fun ls hl => ?_)
    refine lv_aload_n X.1 X.2.1 dX10_loadOn_30 rfl (lv_at hl 0 rfl) ?_
    refine k_get (v := .int (u 10 r26 5)) X hU (k_sC k_isW_10 hi26) fl_X10_264 rfl dX10_loadOn_31 ?_
    refine lv_iconst (v := 1) X.1 X.2.1 dX10_loadOn_34 (by decide) ?_
    refine lv_icmp_eq (tgt := 40) X.1 X.2.1 dX10_loadOn_35 (by decide) (fun c35 => ?_) (fun c35 => ?_)
    · replace hf := k_ifP hf c35
      refine lv_aload_n X.1 X.2.1 dX10_loadOn_40 rfl (lv_at hl 0 rfl) ?_
      refine lv_aload_n X.1 X.2.1 dX10_loadOn_41 rfl (lv_at hl 1 rfl) ?_
      refine k_get (v := .ref (ad 10 0)) X hU sh_0_0 fl_X10_33 rfl dX10_loadOn_42 ?_
      obtain ⟨r45, hr45, hf⟩ := k_bdE hf
      refine k_backi X hS (k_runV (As := []) (rest := [.ref (ad 10 r26)]) X hS hU (sW_0 k_isW_10) (by decide) rfl vl_X10_174 (c_X9_air X.2.2.2.2.2.2.1 k_isW_10 rfl hr45) rfl rfl rfl hl.1 ⟨Nat.le_of_ble_eq_true rfl, Nat.le_of_ble_eq_true rfl⟩ (Nat.le_of_ble_eq_true rfl) dX10_loadOn_45 ⟨Nat.zero_le _, Nat.zero_le _⟩) (fun H locs hU hS => ?_)
      refine lv_aload_n X.1 X.2.1 dX10_loadOn_48 rfl (lv_at hl 1 rfl) ?_
      refine k_get (v := .ref (ad 10 0)) X hU sh_0_0 fl_X10_33 rfl dX10_loadOn_49 ?_
      refine k_get (v := .int (u 10 0 1)) X hU (sW_0 k_isW_10) fl_X10_156 rfl dX10_loadOn_52 ?_
      obtain ⟨r55, hr55, hf⟩ := k_bdE hf
      refine k_backl X hS (k_runV (As := [.int r45, .int (u 10 0 1)]) (rest := []) X hS hU (k_sC k_isW_10 hi26) (by decide) rfl vl_X10_335 (c_X0_pull X.2.2.2.2.2.2.1 k_isW_10 rfl hi26 hr55) rfl rfl rfl hl.1 ⟨Nat.le_of_ble_eq_true rfl, Nat.le_of_ble_eq_true rfl⟩ (Nat.le_of_ble_eq_true rfl) dX10_loadOn_55 ⟨Nat.zero_le _, Nat.zero_le _⟩) (fun H locs hU hS => ?_)
      refine lv_lstore_n (lv' := [(3, .long r55), (2, .ref (ad 10 r26)), (0, .ref (ad 0 0)), (1, .int a1)]) X.1 X.2.1 dX10_loadOn_58 rfl hl (by decide) rfl (fun ls hl => ?_)
      refine lv_aload_n X.1 X.2.1 dX10_loadOn_59 rfl (lv_at hl 1 rfl) ?_
      refine lv_lload_n X.1 X.2.1 dX10_loadOn_60 rfl (lv_at hl 0 rfl) ?_
      refine lv_aload_n X.1 X.2.1 dX10_loadOn_61 rfl (lv_at hl 2 rfl) ?_
      refine k_get (v := .ref (ad 10 0)) X hU sh_0_0 fl_X10_33 rfl dX10_loadOn_62 ?_
      refine k_get (v := .int (u 10 0 5)) X hU (sW_0 k_isW_10) fl_X10_168 rfl dX10_loadOn_65 ?_
      refine lv_aload_n X.1 X.2.1 dX10_loadOn_68 rfl (lv_at hl 1 rfl) ?_
      refine k_get (v := .int (u 10 r26 7)) X hU (k_sC k_isW_10 hi26) fl_X10_277 rfl dX10_loadOn_69 ?_
      obtain ⟨r72, hr72, hf⟩ := k_bdE hf
      refine k_backl X hS (k_runV (As := [.long r55, .int (u 10 0 5), .int (u 10 r26 7)]) (rest := []) X hS hU (k_sC k_isW_10 hi26) (by decide) rfl vl_X10_339 (c_X0_loadOfOneLine X.2.2.2.2.2.2.1 k_isW_10 rfl hi26 hr72) rfl rfl rfl hl.1 ⟨Nat.le_of_ble_eq_true rfl, Nat.le_of_ble_eq_true rfl⟩ (Nat.le_of_ble_eq_true rfl) dX10_loadOn_72 ⟨Nat.zero_le _, Nat.zero_le _⟩) (fun H locs hU hS => ?_)
      refine lv_l2i (v := r72.toInt32) X.1 X.2.1 dX10_loadOn_75 rfl ?_
      exact absurd hf k_ninr0
    · replace hf := k_ifN hf c35
      refine lv_iconst (v := 0) X.1 X.2.1 dX10_loadOn_38 (by decide) ?_
      exact absurd hf k_ninr0
  · replace hf := k_ifP hf c8
    have hz := k_injr0 hf
    subst hz
    exact k_thrS X hlT hU hS (i := 36) rfl xw_238 (by decide +kernel) rfl hl.1 dX10_loadOn_11 dX10_loadOn_14 dX10_loadOn_15 dX10_loadOn_17 dX10_loadOn_20 hex (Nat.le_of_ble_eq_true rfl) (Nat.le_of_ble_eq_true rfl) ⟨Nat.le_of_ble_eq_true rfl, Nat.le_of_ble_eq_true rfl⟩ hlk ⟨Nat.le_of_ble_eq_true rfl, Nat.le_of_ble_eq_true rfl⟩
def rm_X10_wouldTear : Room := { frames := 2, cells := 0, slots := 0, locals := 56 }
set_option maxRecDepth 100000 in
set_option maxHeartbeats 4000000 in
theorem c_X10_wouldTear {l : Launch} {D : va_G} {G : Nat → ClassId} {ad : Nat → Nat → Nat} {u : k_U} (hI : k_ok ad) {a1 : Int32} {sz : Nat} {r2 : Int32} (hf : f_X10_wouldTear u a1 = some (Sum.inl r2)) : Met l yX10_wouldTear (.code yX10_wouldTear cX10_wouldTear 5 (some .int) :: lw_g) rm_X10_wouldTear (k_Pre D G ad u sz [.ref (ad 0 0), .int a1]) (k_Qi D G ad u r2 sz) 0 0 (k_A ad sz) := by
  refine k_ofW (by decide +kernel) hI (Nat.le_of_ble_eq_true rfl) ?_
  intro p e s m args below meth c X hr hlk hU hS ls hl
  have hl : lv_has ls 5 [(0, .ref (ad 0 0)), (1, .int a1)] := hl
  unfold f_X10_wouldTear at hf
  refine lv_aload_n X.1 X.2.1 dX10_wouldTear_0 rfl (lv_at hl 0 rfl) ?_
  refine k_get (v := .ref (ad 10 0)) X hU sh_0_0 fl_X10_33 rfl dX10_wouldTear_1 ?_
  refine lv_iload_n X.1 X.2.1 dX10_wouldTear_4 rfl (lv_at hl 1 rfl) ?_
  obtain ⟨r5, hr5, hf⟩ := k_bdE hf
  refine k_backi X hS (k_runV (As := [.int a1]) (rest := []) X hS hU (sW_0 k_isW_10) (by decide) rfl vl_X10_234 (c_X9_hasChute X.2.2.2.2.2.2.1 k_isW_10 rfl hr5) rfl rfl rfl hl.1 ⟨Nat.le_of_ble_eq_true rfl, Nat.le_of_ble_eq_true rfl⟩ (Nat.le_of_ble_eq_true rfl) dX10_wouldTear_5 ⟨Nat.zero_le _, Nat.zero_le _⟩) (fun H locs hU hS => ?_)
  refine lv_if_ne (tgt := 21) X.1 X.2.1 dX10_wouldTear_8 (by decide) (fun c8 => ?_) (fun c8 => ?_)
  · replace hf := k_ifN hf c8
    refine lv_aload_n X.1 X.2.1 dX10_wouldTear_21 rfl (lv_at hl 0 rfl) ?_
    refine k_get (v := .ref (ad 10 0)) X hU sh_0_0 fl_X10_33 rfl dX10_wouldTear_22 ?_
    refine lv_iload_n X.1 X.2.1 dX10_wouldTear_25 rfl (lv_at hl 1 rfl) ?_
    obtain ⟨r26, hr26, hf⟩ := k_bdE hf
    refine k_backr X hS (k_runV (As := [.int a1]) (rest := []) X hS hU (sW_0 k_isW_10) (by decide) rfl vl_X10_243 (c_X9_chuteAt X.2.2.2.2.2.2.1 k_isW_10 rfl hr26) rfl rfl rfl hl.1 ⟨Nat.le_of_ble_eq_true rfl, Nat.le_of_ble_eq_true rfl⟩ (Nat.le_of_ble_eq_true rfl) dX10_wouldTear_26 ⟨Nat.zero_le _, Nat.zero_le _⟩) (fun H locs hU hS => ?_)
    obtain ⟨hi26, hf⟩ := k_ckE hf
    refine lv_astore_n (lv' := [(2, .ref (ad 10 r26)), (0, .ref (ad 0 0)), (1, .int a1)]) X.1 X.2.1 dX10_wouldTear_29 rfl hl (by decide) rfl (fun ls hl => ?_)
    refine lv_aload_n X.1 X.2.1 dX10_wouldTear_30 rfl (lv_at hl 0 rfl) ?_
    refine k_get (v := .int (u 10 r26 5)) X hU (k_sC k_isW_10 hi26) fl_X10_264 rfl dX10_wouldTear_31 ?_
    refine lv_iconst (v := 1) X.1 X.2.1 dX10_wouldTear_34 (by decide) ?_
    refine lv_icmp_eq (tgt := 40) X.1 X.2.1 dX10_wouldTear_35 (by decide) (fun c35 => ?_) (fun c35 => ?_)
    · replace hf := k_ifP hf c35
      refine lv_aload_n X.1 X.2.1 dX10_wouldTear_40 rfl (lv_at hl 0 rfl) ?_
      refine lv_aload_n X.1 X.2.1 dX10_wouldTear_41 rfl (lv_at hl 1 rfl) ?_
      refine k_get (v := .ref (ad 10 0)) X hU sh_0_0 fl_X10_33 rfl dX10_wouldTear_42 ?_
      obtain ⟨r45, hr45, hf⟩ := k_bdE hf
      refine k_backi X hS (k_runV (As := []) (rest := [.ref (ad 10 r26)]) X hS hU (sW_0 k_isW_10) (by decide) rfl vl_X10_174 (c_X9_air X.2.2.2.2.2.2.1 k_isW_10 rfl hr45) rfl rfl rfl hl.1 ⟨Nat.le_of_ble_eq_true rfl, Nat.le_of_ble_eq_true rfl⟩ (Nat.le_of_ble_eq_true rfl) dX10_wouldTear_45 ⟨Nat.zero_le _, Nat.zero_le _⟩) (fun H locs hU hS => ?_)
      refine lv_aload_n X.1 X.2.1 dX10_wouldTear_48 rfl (lv_at hl 1 rfl) ?_
      refine k_get (v := .ref (ad 10 0)) X hU sh_0_0 fl_X10_33 rfl dX10_wouldTear_49 ?_
      refine k_get (v := .int (u 10 0 1)) X hU (sW_0 k_isW_10) fl_X10_156 rfl dX10_wouldTear_52 ?_
      obtain ⟨r55, hr55, hf⟩ := k_bdE hf
      refine k_backl X hS (k_runV (As := [.int r45, .int (u 10 0 1)]) (rest := []) X hS hU (k_sC k_isW_10 hi26) (by decide) rfl vl_X10_335 (c_X0_pull X.2.2.2.2.2.2.1 k_isW_10 rfl hi26 hr55) rfl rfl rfl hl.1 ⟨Nat.le_of_ble_eq_true rfl, Nat.le_of_ble_eq_true rfl⟩ (Nat.le_of_ble_eq_true rfl) dX10_wouldTear_55 ⟨Nat.zero_le _, Nat.zero_le _⟩) (fun H locs hU hS => ?_)
      refine lv_lstore_n (lv' := [(3, .long r55), (2, .ref (ad 10 r26)), (0, .ref (ad 0 0)), (1, .int a1)]) X.1 X.2.1 dX10_wouldTear_58 rfl hl (by decide) rfl (fun ls hl => ?_)
      refine lv_aload_n X.1 X.2.1 dX10_wouldTear_59 rfl (lv_at hl 1 rfl) ?_
      refine lv_lload_n X.1 X.2.1 dX10_wouldTear_60 rfl (lv_at hl 0 rfl) ?_
      refine lv_aload_n X.1 X.2.1 dX10_wouldTear_61 rfl (lv_at hl 2 rfl) ?_
      refine k_get (v := .ref (ad 10 0)) X hU sh_0_0 fl_X10_33 rfl dX10_wouldTear_62 ?_
      refine k_get (v := .int (u 10 0 5)) X hU (sW_0 k_isW_10) fl_X10_168 rfl dX10_wouldTear_65 ?_
      refine lv_aload_n X.1 X.2.1 dX10_wouldTear_68 rfl (lv_at hl 2 rfl) ?_
      refine k_get (v := .ref (ad 10 0)) X hU sh_0_0 fl_X10_33 rfl dX10_wouldTear_69 ?_
      refine k_get (v := .int (u 10 0 4)) X hU (sW_0 k_isW_10) fl_X10_165 rfl dX10_wouldTear_72 ?_
      obtain ⟨r75, hr75, hf⟩ := k_bdE hf
      refine k_backi X hS (k_runV (As := [.long r55, .int (u 10 0 5), .int (u 10 0 4)]) (rest := []) X hS hU (k_sC k_isW_10 hi26) (by decide) rfl vl_X10_343 (c_X0_linesThatTear X.2.2.2.2.2.2.1 k_isW_10 rfl hi26 hr75) rfl rfl rfl hl.1 ⟨Nat.le_of_ble_eq_true rfl, Nat.le_of_ble_eq_true rfl⟩ (Nat.le_of_ble_eq_true rfl) dX10_wouldTear_75 ⟨Nat.zero_le _, Nat.zero_le _⟩) (fun H locs hU hS => ?_)
      have hz := k_injl0 hf
      subst hz
      exact k_iret (v := r75) X hU hS hr hlk rfl rfl dX10_wouldTear_78
    · replace hf := k_ifN hf c35
      refine lv_iconst (v := 0) X.1 X.2.1 dX10_wouldTear_38 (by decide) ?_
      have hz := k_injl0 hf
      subst hz
      exact k_iret (v := 0) X hU hS hr hlk rfl rfl dX10_wouldTear_39
  · replace hf := k_ifP hf c8
    exact absurd hf k_ninl0
def rx_X10_wouldTear : Room := { frames := 6, cells := 1, slots := 6, locals := 90 }
set_option maxRecDepth 100000 in
set_option maxHeartbeats 4000000 in
theorem x_X10_wouldTear {l : Launch} {D : va_G} {G : Nat → ClassId} {ad : Nat → Nat → Nat} {u : k_U} (hI : k_ok ad) (hlT : l.stackTraces = false) {a1 : Int32} {sz : Nat} {j : Nat} (hf : f_X10_wouldTear u a1 = some (Sum.inr j)) : vx_Met l yX10_wouldTear (.code yX10_wouldTear cX10_wouldTear 5 (some .int) :: lw_g) rx_X10_wouldTear (k_Pre D G ad u sz [.ref (ad 0 0), .int a1]) (k_Qn ad sz) (k_XC D G ad u j sz) 1 6 (k_A ad sz) := by
  refine k_xofW (by decide +kernel) hI (Nat.le_of_ble_eq_true rfl) ?_
  intro p e s m args below meth c X hr hlk hex hU hS ls hl
  have hl : lv_has ls 5 [(0, .ref (ad 0 0)), (1, .int a1)] := hl
  unfold f_X10_wouldTear at hf
  refine lv_aload_n X.1 X.2.1 dX10_wouldTear_0 rfl (lv_at hl 0 rfl) ?_
  refine k_get (v := .ref (ad 10 0)) X hU sh_0_0 fl_X10_33 rfl dX10_wouldTear_1 ?_
  refine lv_iload_n X.1 X.2.1 dX10_wouldTear_4 rfl (lv_at hl 1 rfl) ?_
  obtain ⟨r5, hr5, hf⟩ := k_bdE hf
  refine k_backi X hS (k_runV (As := [.int a1]) (rest := []) X hS hU (sW_0 k_isW_10) (by decide) rfl vl_X10_234 (c_X9_hasChute X.2.2.2.2.2.2.1 k_isW_10 rfl hr5) rfl rfl rfl hl.1 ⟨Nat.le_of_ble_eq_true rfl, Nat.le_of_ble_eq_true rfl⟩ (Nat.le_of_ble_eq_true rfl) dX10_wouldTear_5 ⟨Nat.zero_le _, Nat.zero_le _⟩) (fun H locs hU hS => ?_)
  refine lv_if_ne (tgt := 21) X.1 X.2.1 dX10_wouldTear_8 (by decide) (fun c8 => ?_) (fun c8 => ?_)
  · replace hf := k_ifN hf c8
    refine lv_aload_n X.1 X.2.1 dX10_wouldTear_21 rfl (lv_at hl 0 rfl) ?_
    refine k_get (v := .ref (ad 10 0)) X hU sh_0_0 fl_X10_33 rfl dX10_wouldTear_22 ?_
    refine lv_iload_n X.1 X.2.1 dX10_wouldTear_25 rfl (lv_at hl 1 rfl) ?_
    obtain ⟨r26, hr26, hf⟩ := k_bdE hf
    refine k_backr X hS (k_runV (As := [.int a1]) (rest := []) X hS hU (sW_0 k_isW_10) (by decide) rfl vl_X10_243 (c_X9_chuteAt X.2.2.2.2.2.2.1 k_isW_10 rfl hr26) rfl rfl rfl hl.1 ⟨Nat.le_of_ble_eq_true rfl, Nat.le_of_ble_eq_true rfl⟩ (Nat.le_of_ble_eq_true rfl) dX10_wouldTear_26 ⟨Nat.zero_le _, Nat.zero_le _⟩) (fun H locs hU hS => ?_)
    obtain ⟨hi26, hf⟩ := k_ckE hf
    refine lv_astore_n (lv' := [(2, .ref (ad 10 r26)), (0, .ref (ad 0 0)), (1, .int a1)]) X.1 X.2.1 dX10_wouldTear_29 rfl hl (by decide) rfl (fun ls hl => ?_)
    refine lv_aload_n X.1 X.2.1 dX10_wouldTear_30 rfl (lv_at hl 0 rfl) ?_
    refine k_get (v := .int (u 10 r26 5)) X hU (k_sC k_isW_10 hi26) fl_X10_264 rfl dX10_wouldTear_31 ?_
    refine lv_iconst (v := 1) X.1 X.2.1 dX10_wouldTear_34 (by decide) ?_
    refine lv_icmp_eq (tgt := 40) X.1 X.2.1 dX10_wouldTear_35 (by decide) (fun c35 => ?_) (fun c35 => ?_)
    · replace hf := k_ifP hf c35
      refine lv_aload_n X.1 X.2.1 dX10_wouldTear_40 rfl (lv_at hl 0 rfl) ?_
      refine lv_aload_n X.1 X.2.1 dX10_wouldTear_41 rfl (lv_at hl 1 rfl) ?_
      refine k_get (v := .ref (ad 10 0)) X hU sh_0_0 fl_X10_33 rfl dX10_wouldTear_42 ?_
      obtain ⟨r45, hr45, hf⟩ := k_bdE hf
      refine k_backi X hS (k_runV (As := []) (rest := [.ref (ad 10 r26)]) X hS hU (sW_0 k_isW_10) (by decide) rfl vl_X10_174 (c_X9_air X.2.2.2.2.2.2.1 k_isW_10 rfl hr45) rfl rfl rfl hl.1 ⟨Nat.le_of_ble_eq_true rfl, Nat.le_of_ble_eq_true rfl⟩ (Nat.le_of_ble_eq_true rfl) dX10_wouldTear_45 ⟨Nat.zero_le _, Nat.zero_le _⟩) (fun H locs hU hS => ?_)
      refine lv_aload_n X.1 X.2.1 dX10_wouldTear_48 rfl (lv_at hl 1 rfl) ?_
      refine k_get (v := .ref (ad 10 0)) X hU sh_0_0 fl_X10_33 rfl dX10_wouldTear_49 ?_
      refine k_get (v := .int (u 10 0 1)) X hU (sW_0 k_isW_10) fl_X10_156 rfl dX10_wouldTear_52 ?_
      obtain ⟨r55, hr55, hf⟩ := k_bdE hf
      refine k_backl X hS (k_runV (As := [.int r45, .int (u 10 0 1)]) (rest := []) X hS hU (k_sC k_isW_10 hi26) (by decide) rfl vl_X10_335 (c_X0_pull X.2.2.2.2.2.2.1 k_isW_10 rfl hi26 hr55) rfl rfl rfl hl.1 ⟨Nat.le_of_ble_eq_true rfl, Nat.le_of_ble_eq_true rfl⟩ (Nat.le_of_ble_eq_true rfl) dX10_wouldTear_55 ⟨Nat.zero_le _, Nat.zero_le _⟩) (fun H locs hU hS => ?_)
      refine lv_lstore_n (lv' := [(3, .long r55), (2, .ref (ad 10 r26)), (0, .ref (ad 0 0)), (1, .int a1)]) X.1 X.2.1 dX10_wouldTear_58 rfl hl (by decide) rfl (fun ls hl => ?_)
      refine lv_aload_n X.1 X.2.1 dX10_wouldTear_59 rfl (lv_at hl 1 rfl) ?_
      refine lv_lload_n X.1 X.2.1 dX10_wouldTear_60 rfl (lv_at hl 0 rfl) ?_
      refine lv_aload_n X.1 X.2.1 dX10_wouldTear_61 rfl (lv_at hl 2 rfl) ?_
      refine k_get (v := .ref (ad 10 0)) X hU sh_0_0 fl_X10_33 rfl dX10_wouldTear_62 ?_
      refine k_get (v := .int (u 10 0 5)) X hU (sW_0 k_isW_10) fl_X10_168 rfl dX10_wouldTear_65 ?_
      refine lv_aload_n X.1 X.2.1 dX10_wouldTear_68 rfl (lv_at hl 2 rfl) ?_
      refine k_get (v := .ref (ad 10 0)) X hU sh_0_0 fl_X10_33 rfl dX10_wouldTear_69 ?_
      refine k_get (v := .int (u 10 0 4)) X hU (sW_0 k_isW_10) fl_X10_165 rfl dX10_wouldTear_72 ?_
      obtain ⟨r75, hr75, hf⟩ := k_bdE hf
      refine k_backi X hS (k_runV (As := [.long r55, .int (u 10 0 5), .int (u 10 0 4)]) (rest := []) X hS hU (k_sC k_isW_10 hi26) (by decide) rfl vl_X10_343 (c_X0_linesThatTear X.2.2.2.2.2.2.1 k_isW_10 rfl hi26 hr75) rfl rfl rfl hl.1 ⟨Nat.le_of_ble_eq_true rfl, Nat.le_of_ble_eq_true rfl⟩ (Nat.le_of_ble_eq_true rfl) dX10_wouldTear_75 ⟨Nat.zero_le _, Nat.zero_le _⟩) (fun H locs hU hS => ?_)
      exact absurd hf k_ninr0
    · replace hf := k_ifN hf c35
      refine lv_iconst (v := 0) X.1 X.2.1 dX10_wouldTear_38 (by decide) ?_
      exact absurd hf k_ninr0
  · replace hf := k_ifP hf c8
    have hz := k_injr0 hf
    subst hz
    exact k_thrS X hlT hU hS (i := 36) rfl xw_238 (by decide +kernel) rfl hl.1 dX10_wouldTear_11 dX10_wouldTear_14 dX10_wouldTear_15 dX10_wouldTear_17 dX10_wouldTear_20 hex (Nat.le_of_ble_eq_true rfl) (Nat.le_of_ble_eq_true rfl) ⟨Nat.le_of_ble_eq_true rfl, Nat.le_of_ble_eq_true rfl⟩ hlk ⟨Nat.le_of_ble_eq_true rfl, Nat.le_of_ble_eq_true rfl⟩
def rm_X10_foretellLanding : Room := { frames := 5, cells := 0, slots := 0, locals := 136 }
set_option maxRecDepth 100000 in
set_option maxHeartbeats 4000000 in
theorem c_X10_foretellLanding {l : Launch} {D : va_G} {G : Nat → ClassId} {ad : Nat → Nat → Nat} {u : k_U} (hI : k_ok ad) {sz : Nat} {r : (k_U × Int32)} (hf : f_X10_foretellLanding u = some r) : Met l yX10_foretellLanding (.code yX10_foretellLanding cX10_foretellLanding 1 (some .int) :: lw_g) rm_X10_foretellLanding (k_Pre D G ad u sz [.ref (ad 0 0)]) (k_Qi D G ad r.1 r.2 sz) 0 0 (k_A ad sz) := by
  refine k_ofW (by decide +kernel) hI (Nat.le_of_ble_eq_true rfl) ?_
  intro p e s m args below meth c X hr hlk hU hS ls hl
  have hl : lv_has ls 1 [(0, .ref (ad 0 0))] := hl
  unfold f_X10_foretellLanding at hf
  refine lv_aload_n X.1 X.2.1 dX10_foretellLanding_0 rfl (lv_at hl 0 rfl) ?_
  refine k_get (v := .ref (ad 11 0)) X hU sh_0_0 fl_X10_37 rfl dX10_foretellLanding_1 ?_
  refine lv_aload_n X.1 X.2.1 dX10_foretellLanding_4 rfl (lv_at hl 0 rfl) ?_
  refine k_get (v := .ref (ad 10 0)) X hU sh_0_0 fl_X10_33 rfl dX10_foretellLanding_5 ?_
  obtain ⟨r8, hr8, hf⟩ := k_bdE hf
  refine k_backv X hS (k_runV (As := [.ref (ad 10 0)]) (rest := []) X hS hU (sW_0 k_isW_11) (by decide) rfl vl_X10_103 (c_X9_copyFrom X.2.2.2.2.2.2.1 k_isW_11 k_isW_10 (by decide) rfl rfl hr8) rfl rfl rfl hl.1 ⟨Nat.le_of_ble_eq_true rfl, Nat.le_of_ble_eq_true rfl⟩ (Nat.le_of_ble_eq_true rfl) dX10_foretellLanding_8 ⟨Nat.zero_le _, Nat.zero_le _⟩) (fun H locs hU hS => ?_)
  obtain ⟨u8, e8, hf⟩ := k_ltE hf
  rw [← e8] at hU
  refine lv_aload_n X.1 X.2.1 dX10_foretellLanding_11 rfl (lv_at hl 0 rfl) ?_
  refine k_get (v := .ref (ad 11 0)) X hU sh_0_0 fl_X10_37 rfl dX10_foretellLanding_12 ?_
  refine lv_iconst (v := 0) X.1 X.2.1 dX10_foretellLanding_15 (by decide) ?_
  refine lv_sipush (v := 3000) X.1 X.2.1 dX10_foretellLanding_16 (by decide) ?_
  obtain ⟨r19, hr19, hf⟩ := k_bdE hf
  refine k_backi X hS (k_runV (As := [.int 0, .int 3000]) (rest := []) X hS hU (sW_0 k_isW_11) (by decide) rfl vl_X10_387 (c_X9_passUntil X.2.2.2.2.2.2.1 k_isW_11 rfl hr19) rfl rfl rfl hl.1 ⟨Nat.le_of_ble_eq_true rfl, Nat.le_of_ble_eq_true rfl⟩ (Nat.le_of_ble_eq_true rfl) dX10_foretellLanding_19 ⟨Nat.zero_le _, Nat.zero_le _⟩) (fun H locs hU hS => ?_)
  obtain ⟨u19, e19, hf⟩ := k_ltE hf
  rw [← e19] at hU
  have hz := Option.some.inj hf
  subst hz
  exact k_iret (v := r19.2) X hU hS hr hlk rfl rfl dX10_foretellLanding_22
def rm_X10_landIn : Room := { frames := 6, cells := 0, slots := 0, locals := 156 }
set_option maxRecDepth 100000 in
set_option maxHeartbeats 4000000 in
theorem c_X10_landIn {l : Launch} {D : va_G} {G : Nat → ClassId} {ad : Nat → Nat → Nat} {u : k_U} (hI : k_ok ad) {sz : Nat} {r : (k_U × Int32)} (hf : f_X10_landIn u = some r) : Met l yX10_landIn (.code yX10_landIn cX10_landIn 2 (some .int) :: lw_g) rm_X10_landIn (k_Pre D G ad u sz [.ref (ad 0 0)]) (k_Qi D G ad r.1 r.2 sz) 0 0 (k_A ad sz) := by
  refine k_ofW (by decide +kernel) hI (Nat.le_of_ble_eq_true rfl) ?_
  intro p e s m args below meth c X hr hlk hU hS ls hl
  have hl : lv_has ls 2 [(0, .ref (ad 0 0))] := hl
  unfold f_X10_landIn at hf
  refine lv_aload_n X.1 X.2.1 dX10_landIn_0 rfl (lv_at hl 0 rfl) ?_
  obtain ⟨r1, hr1, hf⟩ := k_bdE hf
  refine k_backi X hS (k_runV (As := []) (rest := []) X hS hU sh_0_0 (by decide) rfl vl_X10_347 (c_X10_foretellLanding X.2.2.2.2.2.2.1 hr1) rfl rfl rfl hl.1 ⟨Nat.le_of_ble_eq_true rfl, Nat.le_of_ble_eq_true rfl⟩ (Nat.le_of_ble_eq_true rfl) dX10_landIn_1 ⟨Nat.zero_le _, Nat.zero_le _⟩) (fun H locs hU hS => ?_)
  refine lv_istore_n (lv' := [(1, .int r1.2), (0, .ref (ad 0 0))]) X.1 X.2.1 dX10_landIn_4 rfl hl (by decide) rfl (fun ls hl => ?_)
  refine lv_aload_n X.1 X.2.1 dX10_landIn_5 rfl (lv_at hl 1 rfl) ?_
  refine k_get (v := .ref (ad 11 0)) X hU sh_0_0 fl_X10_37 rfl dX10_landIn_6 ?_
  obtain ⟨r9, hr9, hf⟩ := k_bdE hf
  refine k_backi X hS (k_runV (As := []) (rest := []) X hS hU (sW_0 k_isW_11) (by decide) rfl vl_X10_350 (c_X9_hasLanded X.2.2.2.2.2.2.1 k_isW_11 rfl hr9) rfl rfl rfl hl.1 ⟨Nat.le_of_ble_eq_true rfl, Nat.le_of_ble_eq_true rfl⟩ (Nat.le_of_ble_eq_true rfl) dX10_landIn_9 ⟨Nat.zero_le _, Nat.zero_le _⟩) (fun H locs hU hS => ?_)
  refine lv_if_eq (tgt := 19) X.1 X.2.1 dX10_landIn_12 (by decide) (fun c12 => ?_) (fun c12 => ?_)
  · replace hf := k_ifP hf c12
    refine lv_iconst (v := (-1)) X.1 X.2.1 dX10_landIn_19 (by decide) ?_
    have hz := Option.some.inj hf
    subst hz
    exact k_iret (v := (-1)) X hU hS hr hlk rfl rfl dX10_landIn_20
  · replace hf := k_ifN hf c12
    refine lv_iload_n X.1 X.2.1 dX10_landIn_15 rfl (lv_at hl 0 rfl) ?_
    refine lv_goto (tgt := 20) X.1 X.2.1 dX10_landIn_16 (by decide) ?_
    have hz := Option.some.inj hf
    subst hz
    exact k_iret (v := r1.2) X hU hS hr hlk rfl rfl dX10_landIn_20
def rm_X10_landAt : Room := { frames := 6, cells := 0, slots := 0, locals := 156 }
set_option maxRecDepth 100000 in
set_option maxHeartbeats 4000000 in
theorem c_X10_landAt {l : Launch} {D : va_G} {G : Nat → ClassId} {ad : Nat → Nat → Nat} {u : k_U} (hI : k_ok ad) {sz : Nat} {r1 : k_U} {r2 : Int32} (hf : f_X10_landAt u = some (r1, Sum.inl r2)) : Met l yX10_landAt (.code yX10_landAt cX10_landAt 1 (some .int) :: lw_g) rm_X10_landAt (k_Pre D G ad u sz [.ref (ad 0 0)]) (k_Qi D G ad r1 r2 sz) 0 0 (k_A ad sz) := by
  refine k_ofW (by decide +kernel) hI (Nat.le_of_ble_eq_true rfl) ?_
  intro p e s m args below meth c X hr hlk hU hS ls hl
  have hl : lv_has ls 1 [(0, .ref (ad 0 0))] := hl
  unfold f_X10_landAt at hf
  refine lv_aload_n X.1 X.2.1 dX10_landAt_0 rfl (lv_at hl 0 rfl) ?_
  obtain ⟨r1, hr1, hf⟩ := k_bdE hf
  refine k_backi X hS (k_runV (As := []) (rest := []) X hS hU sh_0_0 (by decide) rfl vl_X10_347 (c_X10_foretellLanding X.2.2.2.2.2.2.1 hr1) rfl rfl rfl hl.1 ⟨Nat.le_of_ble_eq_true rfl, Nat.le_of_ble_eq_true rfl⟩ (Nat.le_of_ble_eq_true rfl) dX10_landAt_1 ⟨Nat.zero_le _, Nat.zero_le _⟩) (fun H locs hU hS => ?_)
  refine lv_pop X.1 X.2.1 dX10_landAt_4 rfl ?_
  refine lv_aload_n X.1 X.2.1 dX10_landAt_5 rfl (lv_at hl 0 rfl) ?_
  refine k_get (v := .ref (ad 11 0)) X hU sh_0_0 fl_X10_37 rfl dX10_landAt_6 ?_
  obtain ⟨r9, hr9, hf⟩ := k_bdE hf
  refine k_backi X hS (k_runV (As := []) (rest := []) X hS hU (sW_0 k_isW_11) (by decide) rfl vl_X10_350 (c_X9_hasLanded X.2.2.2.2.2.2.1 k_isW_11 rfl hr9) rfl rfl rfl hl.1 ⟨Nat.le_of_ble_eq_true rfl, Nat.le_of_ble_eq_true rfl⟩ (Nat.le_of_ble_eq_true rfl) dX10_landAt_9 ⟨Nat.zero_le _, Nat.zero_le _⟩) (fun H locs hU hS => ?_)
  refine lv_if_ne (tgt := 26) X.1 X.2.1 dX10_landAt_12 (by decide) (fun c12 => ?_) (fun c12 => ?_)
  · replace hf := k_ifN hf c12
    refine lv_aload_n X.1 X.2.1 dX10_landAt_26 rfl (lv_at hl 0 rfl) ?_
    refine k_get (v := .ref (ad 11 0)) X hU sh_0_0 fl_X10_37 rfl dX10_landAt_27 ?_
    refine k_get (v := .int (r1.1 11 0 2)) X hU (sW_0 k_isW_11) fl_X10_159 rfl dX10_landAt_30 ?_
    obtain ⟨hz1, hz2⟩ := k_injl hf
    subst hz1
    subst hz2
    exact k_iret (v := r1.1 11 0 2) X hU hS hr hlk rfl rfl dX10_landAt_33
  · replace hf := k_ifP hf c12
    exact absurd hf k_ninl
def rx_X10_landAt : Room := { frames := 6, cells := 1, slots := 6, locals := 156 }
set_option maxRecDepth 100000 in
set_option maxHeartbeats 4000000 in
theorem x_X10_landAt {l : Launch} {D : va_G} {G : Nat → ClassId} {ad : Nat → Nat → Nat} {u : k_U} (hI : k_ok ad) (hlT : l.stackTraces = false) {sz : Nat} {r1 : k_U} {j : Nat} (hf : f_X10_landAt u = some (r1, Sum.inr j)) : vx_Met l yX10_landAt (.code yX10_landAt cX10_landAt 1 (some .int) :: lw_g) rx_X10_landAt (k_Pre D G ad u sz [.ref (ad 0 0)]) (k_Qn ad sz) (k_XC D G ad r1 j sz) 1 6 (k_A ad sz) := by
  refine k_xofW (by decide +kernel) hI (Nat.le_of_ble_eq_true rfl) ?_
  intro p e s m args below meth c X hr hlk hex hU hS ls hl
  have hl : lv_has ls 1 [(0, .ref (ad 0 0))] := hl
  unfold f_X10_landAt at hf
  refine lv_aload_n X.1 X.2.1 dX10_landAt_0 rfl (lv_at hl 0 rfl) ?_
  obtain ⟨r1, hr1, hf⟩ := k_bdE hf
  refine k_backi X hS (k_runV (As := []) (rest := []) X hS hU sh_0_0 (by decide) rfl vl_X10_347 (c_X10_foretellLanding X.2.2.2.2.2.2.1 hr1) rfl rfl rfl hl.1 ⟨Nat.le_of_ble_eq_true rfl, Nat.le_of_ble_eq_true rfl⟩ (Nat.le_of_ble_eq_true rfl) dX10_landAt_1 ⟨Nat.zero_le _, Nat.zero_le _⟩) (fun H locs hU hS => ?_)
  refine lv_pop X.1 X.2.1 dX10_landAt_4 rfl ?_
  refine lv_aload_n X.1 X.2.1 dX10_landAt_5 rfl (lv_at hl 0 rfl) ?_
  refine k_get (v := .ref (ad 11 0)) X hU sh_0_0 fl_X10_37 rfl dX10_landAt_6 ?_
  obtain ⟨r9, hr9, hf⟩ := k_bdE hf
  refine k_backi X hS (k_runV (As := []) (rest := []) X hS hU (sW_0 k_isW_11) (by decide) rfl vl_X10_350 (c_X9_hasLanded X.2.2.2.2.2.2.1 k_isW_11 rfl hr9) rfl rfl rfl hl.1 ⟨Nat.le_of_ble_eq_true rfl, Nat.le_of_ble_eq_true rfl⟩ (Nat.le_of_ble_eq_true rfl) dX10_landAt_9 ⟨Nat.zero_le _, Nat.zero_le _⟩) (fun H locs hU hS => ?_)
  refine lv_if_ne (tgt := 26) X.1 X.2.1 dX10_landAt_12 (by decide) (fun c12 => ?_) (fun c12 => ?_)
  · replace hf := k_ifN hf c12
    refine lv_aload_n X.1 X.2.1 dX10_landAt_26 rfl (lv_at hl 0 rfl) ?_
    refine k_get (v := .ref (ad 11 0)) X hU sh_0_0 fl_X10_37 rfl dX10_landAt_27 ?_
    refine k_get (v := .int (r1.1 11 0 2)) X hU (sW_0 k_isW_11) fl_X10_159 rfl dX10_landAt_30 ?_
    exact absurd hf k_ninr
  · replace hf := k_ifP hf c12
    obtain ⟨hz1, hz2⟩ := k_injr hf
    subst hz1
    subst hz2
    exact k_thrNW X hlT hU hS (i := 46) rfl ⟨rfl, rfl, rfl⟩ hl.1 dX10_landAt_15 dX10_landAt_18 dX10_landAt_19 dX10_landAt_22 dX10_landAt_25 hex (Nat.le_of_ble_eq_true rfl) (Nat.le_of_ble_eq_true rfl) ⟨Nat.le_of_ble_eq_true rfl, Nat.le_of_ble_eq_true rfl⟩ hlk ⟨Nat.le_of_ble_eq_true rfl, Nat.le_of_ble_eq_true rfl⟩
def rm_X10_landSpeed : Room := { frames := 6, cells := 0, slots := 0, locals := 156 }
set_option maxRecDepth 100000 in
set_option maxHeartbeats 4000000 in
theorem c_X10_landSpeed {l : Launch} {D : va_G} {G : Nat → ClassId} {ad : Nat → Nat → Nat} {u : k_U} (hI : k_ok ad) {sz : Nat} {r : (k_U × Int32)} (hf : f_X10_landSpeed u = some r) : Met l yX10_landSpeed (.code yX10_landSpeed cX10_landSpeed 1 (some .int) :: lw_g) rm_X10_landSpeed (k_Pre D G ad u sz [.ref (ad 0 0)]) (k_Qi D G ad r.1 r.2 sz) 0 0 (k_A ad sz) := by
  refine k_ofW (by decide +kernel) hI (Nat.le_of_ble_eq_true rfl) ?_
  intro p e s m args below meth c X hr hlk hU hS ls hl
  have hl : lv_has ls 1 [(0, .ref (ad 0 0))] := hl
  unfold f_X10_landSpeed at hf
  refine lv_aload_n X.1 X.2.1 dX10_landSpeed_0 rfl (lv_at hl 0 rfl) ?_
  obtain ⟨r1, hr1, hf⟩ := k_bdE hf
  refine k_backi X hS (k_runV (As := []) (rest := []) X hS hU sh_0_0 (by decide) rfl vl_X10_347 (c_X10_foretellLanding X.2.2.2.2.2.2.1 hr1) rfl rfl rfl hl.1 ⟨Nat.le_of_ble_eq_true rfl, Nat.le_of_ble_eq_true rfl⟩ (Nat.le_of_ble_eq_true rfl) dX10_landSpeed_1 ⟨Nat.zero_le _, Nat.zero_le _⟩) (fun H locs hU hS => ?_)
  refine lv_pop X.1 X.2.1 dX10_landSpeed_4 rfl ?_
  refine lv_aload_n X.1 X.2.1 dX10_landSpeed_5 rfl (lv_at hl 0 rfl) ?_
  refine k_get (v := .ref (ad 11 0)) X hU sh_0_0 fl_X10_37 rfl dX10_landSpeed_6 ?_
  obtain ⟨r9, hr9, hf⟩ := k_bdE hf
  refine k_backi X hS (k_runV (As := []) (rest := []) X hS hU (sW_0 k_isW_11) (by decide) rfl vl_X10_350 (c_X9_hasLanded X.2.2.2.2.2.2.1 k_isW_11 rfl hr9) rfl rfl rfl hl.1 ⟨Nat.le_of_ble_eq_true rfl, Nat.le_of_ble_eq_true rfl⟩ (Nat.le_of_ble_eq_true rfl) dX10_landSpeed_9 ⟨Nat.zero_le _, Nat.zero_le _⟩) (fun H locs hU hS => ?_)
  refine lv_if_eq (tgt := 25) X.1 X.2.1 dX10_landSpeed_12 (by decide) (fun c12 => ?_) (fun c12 => ?_)
  · replace hf := k_ifP hf c12
    refine lv_iconst (v := (-1)) X.1 X.2.1 dX10_landSpeed_25 (by decide) ?_
    have hz := Option.some.inj hf
    subst hz
    exact k_iret (v := (-1)) X hU hS hr hlk rfl rfl dX10_landSpeed_26
  · replace hf := k_ifN hf c12
    refine lv_aload_n X.1 X.2.1 dX10_landSpeed_15 rfl (lv_at hl 0 rfl) ?_
    refine k_get (v := .ref (ad 11 0)) X hU sh_0_0 fl_X10_37 rfl dX10_landSpeed_16 ?_
    refine k_get (v := .int (r1.1 11 0 1)) X hU (sW_0 k_isW_11) fl_X10_156 rfl dX10_landSpeed_19 ?_
    refine lv_goto (tgt := 26) X.1 X.2.1 dX10_landSpeed_22 (by decide) ?_
    have hz := Option.some.inj hf
    subst hz
    exact k_iret (v := r1.1 11 0 1) X hU hS hr hlk rfl rfl dX10_landSpeed_26
def rm_X10_landResult : Room := { frames := 6, cells := 0, slots := 0, locals := 156 }
set_option maxRecDepth 100000 in
set_option maxHeartbeats 4000000 in
theorem c_X10_landResult {l : Launch} {D : va_G} {G : Nat → ClassId} {ad : Nat → Nat → Nat} {u : k_U} (hI : k_ok ad) {sz : Nat} {r : (k_U × Int32)} (hf : f_X10_landResult u = some r) : Met l yX10_landResult (.code yX10_landResult cX10_landResult 1 (some .int) :: lw_g) rm_X10_landResult (k_Pre D G ad u sz [.ref (ad 0 0)]) (k_Qi D G ad r.1 r.2 sz) 0 0 (k_A ad sz) := by
  refine k_ofW (by decide +kernel) hI (Nat.le_of_ble_eq_true rfl) ?_
  intro p e s m args below meth c X hr hlk hU hS ls hl
  have hl : lv_has ls 1 [(0, .ref (ad 0 0))] := hl
  unfold f_X10_landResult at hf
  refine lv_aload_n X.1 X.2.1 dX10_landResult_0 rfl (lv_at hl 0 rfl) ?_
  obtain ⟨r1, hr1, hf⟩ := k_bdE hf
  refine k_backi X hS (k_runV (As := []) (rest := []) X hS hU sh_0_0 (by decide) rfl vl_X10_347 (c_X10_foretellLanding X.2.2.2.2.2.2.1 hr1) rfl rfl rfl hl.1 ⟨Nat.le_of_ble_eq_true rfl, Nat.le_of_ble_eq_true rfl⟩ (Nat.le_of_ble_eq_true rfl) dX10_landResult_1 ⟨Nat.zero_le _, Nat.zero_le _⟩) (fun H locs hU hS => ?_)
  refine lv_pop X.1 X.2.1 dX10_landResult_4 rfl ?_
  refine lv_aload_n X.1 X.2.1 dX10_landResult_5 rfl (lv_at hl 0 rfl) ?_
  refine k_get (v := .ref (ad 11 0)) X hU sh_0_0 fl_X10_37 rfl dX10_landResult_6 ?_
  obtain ⟨r9, hr9, hf⟩ := k_bdE hf
  refine k_backi X hS (k_runV (As := []) (rest := []) X hS hU (sW_0 k_isW_11) (by decide) rfl vl_X10_350 (c_X9_hasLanded X.2.2.2.2.2.2.1 k_isW_11 rfl hr9) rfl rfl rfl hl.1 ⟨Nat.le_of_ble_eq_true rfl, Nat.le_of_ble_eq_true rfl⟩ (Nat.le_of_ble_eq_true rfl) dX10_landResult_9 ⟨Nat.zero_le _, Nat.zero_le _⟩) (fun H locs hU hS => ?_)
  refine lv_if_eq (tgt := 25) X.1 X.2.1 dX10_landResult_12 (by decide) (fun c12 => ?_) (fun c12 => ?_)
  · replace hf := k_ifP hf c12
    refine lv_iconst (v := (-1)) X.1 X.2.1 dX10_landResult_25 (by decide) ?_
    have hz := Option.some.inj hf
    subst hz
    exact k_iret (v := (-1)) X hU hS hr hlk rfl rfl dX10_landResult_26
  · replace hf := k_ifN hf c12
    refine lv_aload_n X.1 X.2.1 dX10_landResult_15 rfl (lv_at hl 0 rfl) ?_
    refine k_get (v := .ref (ad 11 0)) X hU sh_0_0 fl_X10_37 rfl dX10_landResult_16 ?_
    obtain ⟨r19, hr19, hf⟩ := k_bdE hf
    refine k_backi X hS (k_runV (As := []) (rest := []) X hS hU (sW_0 k_isW_11) (by decide) rfl vl_X10_177 (c_X9_landingResult X.2.2.2.2.2.2.1 k_isW_11 rfl hr19) rfl rfl rfl hl.1 ⟨Nat.le_of_ble_eq_true rfl, Nat.le_of_ble_eq_true rfl⟩ (Nat.le_of_ble_eq_true rfl) dX10_landResult_19 ⟨Nat.zero_le _, Nat.zero_le _⟩) (fun H locs hU hS => ?_)
    refine lv_goto (tgt := 26) X.1 X.2.1 dX10_landResult_22 (by decide) ?_
    have hz := Option.some.inj hf
    subst hz
    exact k_iret (v := r19) X hU hS hr hlk rfl rfl dX10_landResult_26
def rm_X10_failsIn : Room := { frames := 4, cells := 0, slots := 0, locals := 113 }
set_option maxRecDepth 100000 in
set_option maxHeartbeats 4000000 in
theorem c_X10_failsIn {l : Launch} {D : va_G} {G : Nat → ClassId} {ad : Nat → Nat → Nat} {u : k_U} (hI : k_ok ad) {a1 : Int32} {sz : Nat} {r1 : k_U} {r2 : Int32} (hf : f_X10_failsIn u a1 = some (r1, Sum.inl r2)) : Met l yX10_failsIn (.code yX10_failsIn cX10_failsIn 4 (some .int) :: lw_g) rm_X10_failsIn (k_Pre D G ad u sz [.ref (ad 0 0), .int a1]) (k_Qi D G ad r1 r2 sz) 0 0 (k_A ad sz) := by
  refine k_ofW (by decide +kernel) hI (Nat.le_of_ble_eq_true rfl) ?_
  intro p e s m args below meth c X hr hlk hU hS ls hl
  have hl : lv_has ls 4 [(0, .ref (ad 0 0)), (1, .int a1)] := hl
  have J80 : ∀ (H : Heap) (locs : List Loc) (ls : Array Slot) (u : k_U) (q2 : Nat) (a3 : Int32), k_isC q2 → k_Uv D G ad u H → va_S (k_A ad sz) s.heap H locs → lv_has ls 4 [(2, .ref (ad 11 q2)), (3, .int a3)] → f_X10_failsIn_80 u a1 q2 a3 = some (r1, Sum.inl r2) → W p l e rm_X10_failsIn s m args below meth c H locs 0 0 (MQ below (k_Qi D G ad r1 r2 sz) args s 0 0 (k_A ad sz)) (F0 m 80 ls []) := by
    intro H locs ls u q2 a3 hq2 hU hS hl hf
    unfold f_X10_failsIn_80 at hf
    refine lv_aload_n X.1 X.2.1 dX10_failsIn_80 rfl (lv_at hl 0 rfl) ?_
    obtain ⟨r81, hr81, hf⟩ := k_bdE hf
    refine k_backi X hS (k_runV (As := []) (rest := []) X hS hU (k_sC k_isW_11 hq2) (by decide) rfl vl_X10_355 (c_X0_hasFailed X.2.2.2.2.2.2.1 k_isW_11 rfl hq2 hr81) rfl rfl rfl hl.1 ⟨Nat.le_of_ble_eq_true rfl, Nat.le_of_ble_eq_true rfl⟩ (Nat.le_of_ble_eq_true rfl) dX10_failsIn_81 ⟨Nat.zero_le _, Nat.zero_le _⟩) (fun H locs hU hS => ?_)
    refine lv_if_eq (tgt := 91) X.1 X.2.1 dX10_failsIn_84 (by decide) (fun c84 => ?_) (fun c84 => ?_)
    · replace hf := k_ifP hf c84
      refine lv_iconst (v := (-1)) X.1 X.2.1 dX10_failsIn_91 (by decide) ?_
      obtain ⟨hz1, hz2⟩ := k_injl hf
      subst hz1
      subst hz2
      exact k_iret (v := (-1)) X hU hS hr hlk rfl rfl dX10_failsIn_92
    · replace hf := k_ifN hf c84
      refine lv_iload_n X.1 X.2.1 dX10_failsIn_87 rfl (lv_at hl 1 rfl) ?_
      refine lv_goto (tgt := 92) X.1 X.2.1 dX10_failsIn_88 (by decide) ?_
      obtain ⟨hz1, hz2⟩ := k_injl hf
      subst hz1
      subst hz2
      exact k_iret (v := a3) X hU hS hr hlk rfl rfl dX10_failsIn_92
  have L43 : ∀ (n43 : Nat) (H : Heap) (locs : List Loc) (ls : Array Slot) (u : k_U) (q2 : Nat) (a3 : Int32), k_isC q2 → k_Uv D G ad u H → va_S (k_A ad sz) s.heap H locs → lv_has ls 4 [(0, .ref (ad 0 0)), (2, .ref (ad 11 q2)), (3, .int a3)] → f_X10_failsIn_43 n43 u a1 q2 a3 = some (r1, Sum.inl r2) → W p l e rm_X10_failsIn s m args below meth c H locs 0 0 (MQ below (k_Qi D G ad r1 r2 sz) args s 0 0 (k_A ad sz)) (F0 m 43 ls []) := by
    intro n43
    induction n43 with
    | zero =>
      intro H locs ls u q2 a3 hq2 hU hS hl hf
      cases (show none = some (r1, Sum.inl r2) from hf)
    | succ n43 ih43 =>
      intro H locs ls u q2 a3 hq2 hU hS hl hf
      replace hf : f_X10_failsIn_43_b (f_X10_failsIn_43 n43) u a1 q2 a3 = some (r1, Sum.inl r2) := hf
      unfold f_X10_failsIn_43_b at hf
      refine lv_aload_n X.1 X.2.1 dX10_failsIn_43 rfl (lv_at hl 1 rfl) ?_
      obtain ⟨r44, hr44, hf⟩ := k_bdE hf
      refine k_backi X hS (k_runV (As := []) (rest := []) X hS hU (k_sC k_isW_11 hq2) (by decide) rfl vl_X10_355 (c_X0_hasFailed X.2.2.2.2.2.2.1 k_isW_11 rfl hq2 hr44) rfl rfl rfl hl.1 ⟨Nat.le_of_ble_eq_true rfl, Nat.le_of_ble_eq_true rfl⟩ (Nat.le_of_ble_eq_true rfl) dX10_failsIn_44 ⟨Nat.zero_le _, Nat.zero_le _⟩) (fun H locs hU hS => ?_)
      refine lv_if_ne (tgt := 80) X.1 X.2.1 dX10_failsIn_47 (by decide) (fun c47 => ?_) (fun c47 => ?_)
      · replace hf := k_ifN hf c47
        exact J80 _ _ _ u q2 a3 (hq2) hU hS (lv_sub hl [1, 2] rfl) hf
      · replace hf := k_ifP hf c47
        refine lv_aload_n X.1 X.2.1 dX10_failsIn_50 rfl (lv_at hl 0 rfl) ?_
        refine k_get (v := .ref (ad 11 0)) X hU sh_0_0 fl_X10_37 rfl dX10_failsIn_51 ?_
        obtain ⟨r54, hr54, hf⟩ := k_bdE hf
        refine k_backi X hS (k_runV (As := []) (rest := []) X hS hU (sW_0 k_isW_11) (by decide) rfl vl_X10_350 (c_X9_hasLanded X.2.2.2.2.2.2.1 k_isW_11 rfl hr54) rfl rfl rfl hl.1 ⟨Nat.le_of_ble_eq_true rfl, Nat.le_of_ble_eq_true rfl⟩ (Nat.le_of_ble_eq_true rfl) dX10_failsIn_54 ⟨Nat.zero_le _, Nat.zero_le _⟩) (fun H locs hU hS => ?_)
        refine lv_if_ne (tgt := 80) X.1 X.2.1 dX10_failsIn_57 (by decide) (fun c57 => ?_) (fun c57 => ?_)
        · replace hf := k_ifN hf c57
          exact J80 _ _ _ u q2 a3 (hq2) hU hS (lv_sub hl [1, 2] rfl) hf
        · replace hf := k_ifP hf c57
          refine lv_iload_n X.1 X.2.1 dX10_failsIn_60 rfl (lv_at hl 2 rfl) ?_
          refine lv_sipush (v := 3000) X.1 X.2.1 dX10_failsIn_61 (by decide) ?_
          refine lv_icmp_ge (tgt := 80) X.1 X.2.1 dX10_failsIn_64 (by decide) (fun c64 => ?_) (fun c64 => ?_)
          · replace hf := k_ifP hf c64
            exact J80 _ _ _ u q2 a3 (hq2) hU hS (lv_sub hl [1, 2] rfl) hf
          · replace hf := k_ifN hf c64
            refine lv_aload_n X.1 X.2.1 dX10_failsIn_67 rfl (lv_at hl 0 rfl) ?_
            refine k_get (v := .ref (ad 11 0)) X hU sh_0_0 fl_X10_37 rfl dX10_failsIn_68 ?_
            obtain ⟨r71, hr71, hf⟩ := k_bdE hf
            refine k_backv X hS (k_runV (As := []) (rest := []) X hS hU (sW_0 k_isW_11) (by decide) rfl vl_X10_358 (c_X9_passSecond X.2.2.2.2.2.2.1 k_isW_11 rfl hr71) rfl rfl rfl hl.1 ⟨Nat.le_of_ble_eq_true rfl, Nat.le_of_ble_eq_true rfl⟩ (Nat.le_of_ble_eq_true rfl) dX10_failsIn_71 ⟨Nat.zero_le _, Nat.zero_le _⟩) (fun H locs hU hS => ?_)
            obtain ⟨u71, e71, hf⟩ := k_ltE hf
            rw [← e71] at hU
            obtain ⟨x74, e74, hf⟩ := k_ltE hf
            refine lv_iinc (v := x74) (lv' := [(3, .int x74), (0, .ref (ad 0 0)), (2, .ref (ad 11 q2))]) X.1 X.2.1 dX10_failsIn_74 hl (k := 2) rfl (by rw [e74]; rfl) (by decide) rfl (fun ls hl => ?_)
            refine lv_goto (tgt := 43) X.1 X.2.1 dX10_failsIn_77 (by decide) ?_
            exact ih43 _ _ _ u71 q2 x74 (hq2) hU hS (lv_sub hl [1, 2, 0] rfl) hf
  unfold f_X10_failsIn at hf
  refine lv_aload_n X.1 X.2.1 dX10_failsIn_0 rfl (lv_at hl 0 rfl) ?_
  refine k_get (v := .ref (ad 10 0)) X hU sh_0_0 fl_X10_33 rfl dX10_failsIn_1 ?_
  refine lv_iload_n X.1 X.2.1 dX10_failsIn_4 rfl (lv_at hl 1 rfl) ?_
  obtain ⟨r5, hr5, hf⟩ := k_bdE hf
  refine k_backi X hS (k_runV (As := [.int a1]) (rest := []) X hS hU (sW_0 k_isW_10) (by decide) rfl vl_X10_234 (c_X9_hasChute X.2.2.2.2.2.2.1 k_isW_10 rfl hr5) rfl rfl rfl hl.1 ⟨Nat.le_of_ble_eq_true rfl, Nat.le_of_ble_eq_true rfl⟩ (Nat.le_of_ble_eq_true rfl) dX10_failsIn_5 ⟨Nat.zero_le _, Nat.zero_le _⟩) (fun H locs hU hS => ?_)
  refine lv_if_ne (tgt := 21) X.1 X.2.1 dX10_failsIn_8 (by decide) (fun c8 => ?_) (fun c8 => ?_)
  · replace hf := k_ifN hf c8
    refine lv_aload_n X.1 X.2.1 dX10_failsIn_21 rfl (lv_at hl 0 rfl) ?_
    refine k_get (v := .ref (ad 11 0)) X hU sh_0_0 fl_X10_37 rfl dX10_failsIn_22 ?_
    refine lv_aload_n X.1 X.2.1 dX10_failsIn_25 rfl (lv_at hl 0 rfl) ?_
    refine k_get (v := .ref (ad 10 0)) X hU sh_0_0 fl_X10_33 rfl dX10_failsIn_26 ?_
    obtain ⟨r29, hr29, hf⟩ := k_bdE hf
    refine k_backv X hS (k_runV (As := [.ref (ad 10 0)]) (rest := []) X hS hU (sW_0 k_isW_11) (by decide) rfl vl_X10_103 (c_X9_copyFrom X.2.2.2.2.2.2.1 k_isW_11 k_isW_10 (by decide) rfl rfl hr29) rfl rfl rfl hl.1 ⟨Nat.le_of_ble_eq_true rfl, Nat.le_of_ble_eq_true rfl⟩ (Nat.le_of_ble_eq_true rfl) dX10_failsIn_29 ⟨Nat.zero_le _, Nat.zero_le _⟩) (fun H locs hU hS => ?_)
    obtain ⟨u29, e29, hf⟩ := k_ltE hf
    rw [← e29] at hU
    refine lv_aload_n X.1 X.2.1 dX10_failsIn_32 rfl (lv_at hl 0 rfl) ?_
    refine k_get (v := .ref (ad 11 0)) X hU sh_0_0 fl_X10_37 rfl dX10_failsIn_33 ?_
    refine lv_iload_n X.1 X.2.1 dX10_failsIn_36 rfl (lv_at hl 1 rfl) ?_
    obtain ⟨r37, hr37, hf⟩ := k_bdE hf
    refine k_backr X hS (k_runV (As := [.int a1]) (rest := []) X hS hU (sW_0 k_isW_11) (by decide) rfl vl_X10_243 (c_X9_chuteAt X.2.2.2.2.2.2.1 k_isW_11 rfl hr37) rfl rfl rfl hl.1 ⟨Nat.le_of_ble_eq_true rfl, Nat.le_of_ble_eq_true rfl⟩ (Nat.le_of_ble_eq_true rfl) dX10_failsIn_37 ⟨Nat.zero_le _, Nat.zero_le _⟩) (fun H locs hU hS => ?_)
    obtain ⟨hi37, hf⟩ := k_ckE hf
    refine lv_astore_n (lv' := [(2, .ref (ad 11 r37)), (0, .ref (ad 0 0)), (1, .int a1)]) X.1 X.2.1 dX10_failsIn_40 rfl hl (by decide) rfl (fun ls hl => ?_)
    refine lv_iconst (v := 0) X.1 X.2.1 dX10_failsIn_41 (by decide) ?_
    refine lv_istore_n (lv' := [(3, .int 0), (2, .ref (ad 11 r37)), (0, .ref (ad 0 0)), (1, .int a1)]) X.1 X.2.1 dX10_failsIn_42 rfl hl (by decide) rfl (fun ls hl => ?_)
    exact L43 k_N _ _ _ u29 r37 0 (hi37) hU hS (lv_sub hl [2, 1, 0] rfl) hf
  · replace hf := k_ifP hf c8
    exact absurd hf k_ninl
def rx_X10_failsIn : Room := { frames := 6, cells := 1, slots := 6, locals := 113 }
set_option maxRecDepth 100000 in
set_option maxHeartbeats 4000000 in
theorem x_X10_failsIn {l : Launch} {D : va_G} {G : Nat → ClassId} {ad : Nat → Nat → Nat} {u : k_U} (hI : k_ok ad) (hlT : l.stackTraces = false) {a1 : Int32} {sz : Nat} {r1 : k_U} {j : Nat} (hf : f_X10_failsIn u a1 = some (r1, Sum.inr j)) : vx_Met l yX10_failsIn (.code yX10_failsIn cX10_failsIn 4 (some .int) :: lw_g) rx_X10_failsIn (k_Pre D G ad u sz [.ref (ad 0 0), .int a1]) (k_Qn ad sz) (k_XC D G ad r1 j sz) 1 6 (k_A ad sz) := by
  refine k_xofW (by decide +kernel) hI (Nat.le_of_ble_eq_true rfl) ?_
  intro p e s m args below meth c X hr hlk hex hU hS ls hl
  have hl : lv_has ls 4 [(0, .ref (ad 0 0)), (1, .int a1)] := hl
  have J80 : ∀ (H : Heap) (locs : List Loc) (ls : Array Slot) (u : k_U) (q2 : Nat) (a3 : Int32), k_isC q2 → k_Uv D G ad u H → va_S (k_A ad sz) s.heap H locs → lv_has ls 4 [(2, .ref (ad 11 q2)), (3, .int a3)] → f_X10_failsIn_80 u a1 q2 a3 = some (r1, Sum.inr j) → W p l e rx_X10_failsIn s m args below meth c H locs 0 0 (vx_MQ below (k_Qn ad sz) (k_XC D G ad r1 j sz) args s 1 6 (k_A ad sz)) (F0 m 80 ls []) := by
    intro H locs ls u q2 a3 hq2 hU hS hl hf
    unfold f_X10_failsIn_80 at hf
    refine lv_aload_n X.1 X.2.1 dX10_failsIn_80 rfl (lv_at hl 0 rfl) ?_
    obtain ⟨r81, hr81, hf⟩ := k_bdE hf
    refine k_backi X hS (k_runV (As := []) (rest := []) X hS hU (k_sC k_isW_11 hq2) (by decide) rfl vl_X10_355 (c_X0_hasFailed X.2.2.2.2.2.2.1 k_isW_11 rfl hq2 hr81) rfl rfl rfl hl.1 ⟨Nat.le_of_ble_eq_true rfl, Nat.le_of_ble_eq_true rfl⟩ (Nat.le_of_ble_eq_true rfl) dX10_failsIn_81 ⟨Nat.zero_le _, Nat.zero_le _⟩) (fun H locs hU hS => ?_)
    refine lv_if_eq (tgt := 91) X.1 X.2.1 dX10_failsIn_84 (by decide) (fun c84 => ?_) (fun c84 => ?_)
    · replace hf := k_ifP hf c84
      refine lv_iconst (v := (-1)) X.1 X.2.1 dX10_failsIn_91 (by decide) ?_
      exact absurd hf k_ninr
    · replace hf := k_ifN hf c84
      refine lv_iload_n X.1 X.2.1 dX10_failsIn_87 rfl (lv_at hl 1 rfl) ?_
      refine lv_goto (tgt := 92) X.1 X.2.1 dX10_failsIn_88 (by decide) ?_
      exact absurd hf k_ninr
  have L43 : ∀ (n43 : Nat) (H : Heap) (locs : List Loc) (ls : Array Slot) (u : k_U) (q2 : Nat) (a3 : Int32), k_isC q2 → k_Uv D G ad u H → va_S (k_A ad sz) s.heap H locs → lv_has ls 4 [(0, .ref (ad 0 0)), (2, .ref (ad 11 q2)), (3, .int a3)] → f_X10_failsIn_43 n43 u a1 q2 a3 = some (r1, Sum.inr j) → W p l e rx_X10_failsIn s m args below meth c H locs 0 0 (vx_MQ below (k_Qn ad sz) (k_XC D G ad r1 j sz) args s 1 6 (k_A ad sz)) (F0 m 43 ls []) := by
    intro n43
    induction n43 with
    | zero =>
      intro H locs ls u q2 a3 hq2 hU hS hl hf
      cases (show none = some (r1, Sum.inr j) from hf)
    | succ n43 ih43 =>
      intro H locs ls u q2 a3 hq2 hU hS hl hf
      replace hf : f_X10_failsIn_43_b (f_X10_failsIn_43 n43) u a1 q2 a3 = some (r1, Sum.inr j) := hf
      unfold f_X10_failsIn_43_b at hf
      refine lv_aload_n X.1 X.2.1 dX10_failsIn_43 rfl (lv_at hl 1 rfl) ?_
      obtain ⟨r44, hr44, hf⟩ := k_bdE hf
      refine k_backi X hS (k_runV (As := []) (rest := []) X hS hU (k_sC k_isW_11 hq2) (by decide) rfl vl_X10_355 (c_X0_hasFailed X.2.2.2.2.2.2.1 k_isW_11 rfl hq2 hr44) rfl rfl rfl hl.1 ⟨Nat.le_of_ble_eq_true rfl, Nat.le_of_ble_eq_true rfl⟩ (Nat.le_of_ble_eq_true rfl) dX10_failsIn_44 ⟨Nat.zero_le _, Nat.zero_le _⟩) (fun H locs hU hS => ?_)
      refine lv_if_ne (tgt := 80) X.1 X.2.1 dX10_failsIn_47 (by decide) (fun c47 => ?_) (fun c47 => ?_)
      · replace hf := k_ifN hf c47
        exact J80 _ _ _ u q2 a3 (hq2) hU hS (lv_sub hl [1, 2] rfl) hf
      · replace hf := k_ifP hf c47
        refine lv_aload_n X.1 X.2.1 dX10_failsIn_50 rfl (lv_at hl 0 rfl) ?_
        refine k_get (v := .ref (ad 11 0)) X hU sh_0_0 fl_X10_37 rfl dX10_failsIn_51 ?_
        obtain ⟨r54, hr54, hf⟩ := k_bdE hf
        refine k_backi X hS (k_runV (As := []) (rest := []) X hS hU (sW_0 k_isW_11) (by decide) rfl vl_X10_350 (c_X9_hasLanded X.2.2.2.2.2.2.1 k_isW_11 rfl hr54) rfl rfl rfl hl.1 ⟨Nat.le_of_ble_eq_true rfl, Nat.le_of_ble_eq_true rfl⟩ (Nat.le_of_ble_eq_true rfl) dX10_failsIn_54 ⟨Nat.zero_le _, Nat.zero_le _⟩) (fun H locs hU hS => ?_)
        refine lv_if_ne (tgt := 80) X.1 X.2.1 dX10_failsIn_57 (by decide) (fun c57 => ?_) (fun c57 => ?_)
        · replace hf := k_ifN hf c57
          exact J80 _ _ _ u q2 a3 (hq2) hU hS (lv_sub hl [1, 2] rfl) hf
        · replace hf := k_ifP hf c57
          refine lv_iload_n X.1 X.2.1 dX10_failsIn_60 rfl (lv_at hl 2 rfl) ?_
          refine lv_sipush (v := 3000) X.1 X.2.1 dX10_failsIn_61 (by decide) ?_
          refine lv_icmp_ge (tgt := 80) X.1 X.2.1 dX10_failsIn_64 (by decide) (fun c64 => ?_) (fun c64 => ?_)
          · replace hf := k_ifP hf c64
            exact J80 _ _ _ u q2 a3 (hq2) hU hS (lv_sub hl [1, 2] rfl) hf
          · replace hf := k_ifN hf c64
            refine lv_aload_n X.1 X.2.1 dX10_failsIn_67 rfl (lv_at hl 0 rfl) ?_
            refine k_get (v := .ref (ad 11 0)) X hU sh_0_0 fl_X10_37 rfl dX10_failsIn_68 ?_
            obtain ⟨r71, hr71, hf⟩ := k_bdE hf
            refine k_backv X hS (k_runV (As := []) (rest := []) X hS hU (sW_0 k_isW_11) (by decide) rfl vl_X10_358 (c_X9_passSecond X.2.2.2.2.2.2.1 k_isW_11 rfl hr71) rfl rfl rfl hl.1 ⟨Nat.le_of_ble_eq_true rfl, Nat.le_of_ble_eq_true rfl⟩ (Nat.le_of_ble_eq_true rfl) dX10_failsIn_71 ⟨Nat.zero_le _, Nat.zero_le _⟩) (fun H locs hU hS => ?_)
            obtain ⟨u71, e71, hf⟩ := k_ltE hf
            rw [← e71] at hU
            obtain ⟨x74, e74, hf⟩ := k_ltE hf
            refine lv_iinc (v := x74) (lv' := [(3, .int x74), (0, .ref (ad 0 0)), (2, .ref (ad 11 q2))]) X.1 X.2.1 dX10_failsIn_74 hl (k := 2) rfl (by rw [e74]; rfl) (by decide) rfl (fun ls hl => ?_)
            refine lv_goto (tgt := 43) X.1 X.2.1 dX10_failsIn_77 (by decide) ?_
            exact ih43 _ _ _ u71 q2 x74 (hq2) hU hS (lv_sub hl [1, 2, 0] rfl) hf
  unfold f_X10_failsIn at hf
  refine lv_aload_n X.1 X.2.1 dX10_failsIn_0 rfl (lv_at hl 0 rfl) ?_
  refine k_get (v := .ref (ad 10 0)) X hU sh_0_0 fl_X10_33 rfl dX10_failsIn_1 ?_
  refine lv_iload_n X.1 X.2.1 dX10_failsIn_4 rfl (lv_at hl 1 rfl) ?_
  obtain ⟨r5, hr5, hf⟩ := k_bdE hf
  refine k_backi X hS (k_runV (As := [.int a1]) (rest := []) X hS hU (sW_0 k_isW_10) (by decide) rfl vl_X10_234 (c_X9_hasChute X.2.2.2.2.2.2.1 k_isW_10 rfl hr5) rfl rfl rfl hl.1 ⟨Nat.le_of_ble_eq_true rfl, Nat.le_of_ble_eq_true rfl⟩ (Nat.le_of_ble_eq_true rfl) dX10_failsIn_5 ⟨Nat.zero_le _, Nat.zero_le _⟩) (fun H locs hU hS => ?_)
  refine lv_if_ne (tgt := 21) X.1 X.2.1 dX10_failsIn_8 (by decide) (fun c8 => ?_) (fun c8 => ?_)
  · replace hf := k_ifN hf c8
    refine lv_aload_n X.1 X.2.1 dX10_failsIn_21 rfl (lv_at hl 0 rfl) ?_
    refine k_get (v := .ref (ad 11 0)) X hU sh_0_0 fl_X10_37 rfl dX10_failsIn_22 ?_
    refine lv_aload_n X.1 X.2.1 dX10_failsIn_25 rfl (lv_at hl 0 rfl) ?_
    refine k_get (v := .ref (ad 10 0)) X hU sh_0_0 fl_X10_33 rfl dX10_failsIn_26 ?_
    obtain ⟨r29, hr29, hf⟩ := k_bdE hf
    refine k_backv X hS (k_runV (As := [.ref (ad 10 0)]) (rest := []) X hS hU (sW_0 k_isW_11) (by decide) rfl vl_X10_103 (c_X9_copyFrom X.2.2.2.2.2.2.1 k_isW_11 k_isW_10 (by decide) rfl rfl hr29) rfl rfl rfl hl.1 ⟨Nat.le_of_ble_eq_true rfl, Nat.le_of_ble_eq_true rfl⟩ (Nat.le_of_ble_eq_true rfl) dX10_failsIn_29 ⟨Nat.zero_le _, Nat.zero_le _⟩) (fun H locs hU hS => ?_)
    obtain ⟨u29, e29, hf⟩ := k_ltE hf
    rw [← e29] at hU
    refine lv_aload_n X.1 X.2.1 dX10_failsIn_32 rfl (lv_at hl 0 rfl) ?_
    refine k_get (v := .ref (ad 11 0)) X hU sh_0_0 fl_X10_37 rfl dX10_failsIn_33 ?_
    refine lv_iload_n X.1 X.2.1 dX10_failsIn_36 rfl (lv_at hl 1 rfl) ?_
    obtain ⟨r37, hr37, hf⟩ := k_bdE hf
    refine k_backr X hS (k_runV (As := [.int a1]) (rest := []) X hS hU (sW_0 k_isW_11) (by decide) rfl vl_X10_243 (c_X9_chuteAt X.2.2.2.2.2.2.1 k_isW_11 rfl hr37) rfl rfl rfl hl.1 ⟨Nat.le_of_ble_eq_true rfl, Nat.le_of_ble_eq_true rfl⟩ (Nat.le_of_ble_eq_true rfl) dX10_failsIn_37 ⟨Nat.zero_le _, Nat.zero_le _⟩) (fun H locs hU hS => ?_)
    obtain ⟨hi37, hf⟩ := k_ckE hf
    refine lv_astore_n (lv' := [(2, .ref (ad 11 r37)), (0, .ref (ad 0 0)), (1, .int a1)]) X.1 X.2.1 dX10_failsIn_40 rfl hl (by decide) rfl (fun ls hl => ?_)
    refine lv_iconst (v := 0) X.1 X.2.1 dX10_failsIn_41 (by decide) ?_
    refine lv_istore_n (lv' := [(3, .int 0), (2, .ref (ad 11 r37)), (0, .ref (ad 0 0)), (1, .int a1)]) X.1 X.2.1 dX10_failsIn_42 rfl hl (by decide) rfl (fun ls hl => ?_)
    exact L43 k_N _ _ _ u29 r37 0 (hi37) hU hS (lv_sub hl [2, 1, 0] rfl) hf
  · replace hf := k_ifP hf c8
    obtain ⟨hz1, hz2⟩ := k_injr hf
    subst hz1
    subst hz2
    exact k_thrS X hlT hU hS (i := 36) rfl xw_238 (by decide +kernel) rfl hl.1 dX10_failsIn_11 dX10_failsIn_14 dX10_failsIn_15 dX10_failsIn_17 dX10_failsIn_20 hex (Nat.le_of_ble_eq_true rfl) (Nat.le_of_ble_eq_true rfl) ⟨Nat.le_of_ble_eq_true rfl, Nat.le_of_ble_eq_true rfl⟩ hlk ⟨Nat.le_of_ble_eq_true rfl, Nat.le_of_ble_eq_true rfl⟩
def rm_X10_reserveIn : Room := { frames := 4, cells := 0, slots := 0, locals := 113 }
set_option maxRecDepth 100000 in
set_option maxHeartbeats 4000000 in
theorem c_X10_reserveIn {l : Launch} {D : va_G} {G : Nat → ClassId} {ad : Nat → Nat → Nat} {u : k_U} (hI : k_ok ad) {sz : Nat} {r : (k_U × Int32)} (hf : f_X10_reserveIn u = some r) : Met l yX10_reserveIn (.code yX10_reserveIn cX10_reserveIn 3 (some .int) :: lw_g) rm_X10_reserveIn (k_Pre D G ad u sz [.ref (ad 0 0)]) (k_Qi D G ad r.1 r.2 sz) 0 0 (k_A ad sz) := by
  refine k_ofW (by decide +kernel) hI (Nat.le_of_ble_eq_true rfl) ?_
  intro p e s m args below meth c X hr hlk hU hS ls hl
  have hl : lv_has ls 3 [(0, .ref (ad 0 0))] := hl
  have J71 : ∀ (H : Heap) (locs : List Loc) (ls : Array Slot) (u : k_U) (a2 : Int32), k_Uv D G ad u H → va_S (k_A ad sz) s.heap H locs → lv_has ls 3 [(1, .ref (ad 11 2)), (2, .int a2)] → f_X10_reserveIn_71 u a2 = some r → W p l e rm_X10_reserveIn s m args below meth c H locs 0 0 (MQ below (k_Qi D G ad r.1 r.2 sz) args s 0 0 (k_A ad sz)) (F0 m 71 ls []) := by
    intro H locs ls u a2 hU hS hl hf
    unfold f_X10_reserveIn_71 at hf
    refine lv_aload_n X.1 X.2.1 dX10_reserveIn_71 rfl (lv_at hl 0 rfl) ?_
    refine k_get (v := .int (u 11 2 5)) X hU (k_sC k_isW_11 k_isC_2) fl_X10_264 rfl dX10_reserveIn_72 ?_
    refine lv_iconst (v := 1) X.1 X.2.1 dX10_reserveIn_75 (by decide) ?_
    refine lv_icmp_ne (tgt := 83) X.1 X.2.1 dX10_reserveIn_76 (by decide) (fun c76 => ?_) (fun c76 => ?_)
    · replace hf := k_ifN hf c76
      refine lv_iconst (v := (-1)) X.1 X.2.1 dX10_reserveIn_83 (by decide) ?_
      have hz := Option.some.inj hf
      subst hz
      exact k_iret (v := (-1)) X hU hS hr hlk rfl rfl dX10_reserveIn_84
    · replace hf := k_ifP hf c76
      refine lv_iload_n X.1 X.2.1 dX10_reserveIn_79 rfl (lv_at hl 1 rfl) ?_
      refine lv_goto (tgt := 84) X.1 X.2.1 dX10_reserveIn_80 (by decide) ?_
      have hz := Option.some.inj hf
      subst hz
      exact k_iret (v := a2) X hU hS hr hlk rfl rfl dX10_reserveIn_84
  have L33 : ∀ (n33 : Nat) (H : Heap) (locs : List Loc) (ls : Array Slot) (u : k_U) (a2 : Int32), k_Uv D G ad u H → va_S (k_A ad sz) s.heap H locs → lv_has ls 3 [(0, .ref (ad 0 0)), (1, .ref (ad 11 2)), (2, .int a2)] → f_X10_reserveIn_33 n33 u a2 = some r → W p l e rm_X10_reserveIn s m args below meth c H locs 0 0 (MQ below (k_Qi D G ad r.1 r.2 sz) args s 0 0 (k_A ad sz)) (F0 m 33 ls []) := by
    intro n33
    induction n33 with
    | zero =>
      intro H locs ls u a2 hU hS hl hf
      cases (show none = some r from hf)
    | succ n33 ih33 =>
      intro H locs ls u a2 hU hS hl hf
      replace hf : f_X10_reserveIn_33_b (f_X10_reserveIn_33 n33) u a2 = some r := hf
      unfold f_X10_reserveIn_33_b at hf
      refine lv_aload_n X.1 X.2.1 dX10_reserveIn_33 rfl (lv_at hl 1 rfl) ?_
      refine k_get (v := .int (u 11 2 5)) X hU (k_sC k_isW_11 k_isC_2) fl_X10_264 rfl dX10_reserveIn_34 ?_
      refine lv_iconst (v := 1) X.1 X.2.1 dX10_reserveIn_37 (by decide) ?_
      refine lv_icmp_eq (tgt := 71) X.1 X.2.1 dX10_reserveIn_38 (by decide) (fun c38 => ?_) (fun c38 => ?_)
      · replace hf := k_ifP hf c38
        exact J71 _ _ _ u a2 hU hS (lv_sub hl [1, 2] rfl) hf
      · replace hf := k_ifN hf c38
        refine lv_aload_n X.1 X.2.1 dX10_reserveIn_41 rfl (lv_at hl 0 rfl) ?_
        refine k_get (v := .ref (ad 11 0)) X hU sh_0_0 fl_X10_37 rfl dX10_reserveIn_42 ?_
        obtain ⟨r45, hr45, hf⟩ := k_bdE hf
        refine k_backi X hS (k_runV (As := []) (rest := []) X hS hU (sW_0 k_isW_11) (by decide) rfl vl_X10_350 (c_X9_hasLanded X.2.2.2.2.2.2.1 k_isW_11 rfl hr45) rfl rfl rfl hl.1 ⟨Nat.le_of_ble_eq_true rfl, Nat.le_of_ble_eq_true rfl⟩ (Nat.le_of_ble_eq_true rfl) dX10_reserveIn_45 ⟨Nat.zero_le _, Nat.zero_le _⟩) (fun H locs hU hS => ?_)
        refine lv_if_ne (tgt := 71) X.1 X.2.1 dX10_reserveIn_48 (by decide) (fun c48 => ?_) (fun c48 => ?_)
        · replace hf := k_ifN hf c48
          exact J71 _ _ _ u a2 hU hS (lv_sub hl [1, 2] rfl) hf
        · replace hf := k_ifP hf c48
          refine lv_iload_n X.1 X.2.1 dX10_reserveIn_51 rfl (lv_at hl 2 rfl) ?_
          refine lv_sipush (v := 3000) X.1 X.2.1 dX10_reserveIn_52 (by decide) ?_
          refine lv_icmp_ge (tgt := 71) X.1 X.2.1 dX10_reserveIn_55 (by decide) (fun c55 => ?_) (fun c55 => ?_)
          · replace hf := k_ifP hf c55
            exact J71 _ _ _ u a2 hU hS (lv_sub hl [1, 2] rfl) hf
          · replace hf := k_ifN hf c55
            refine lv_aload_n X.1 X.2.1 dX10_reserveIn_58 rfl (lv_at hl 0 rfl) ?_
            refine k_get (v := .ref (ad 11 0)) X hU sh_0_0 fl_X10_37 rfl dX10_reserveIn_59 ?_
            obtain ⟨r62, hr62, hf⟩ := k_bdE hf
            refine k_backv X hS (k_runV (As := []) (rest := []) X hS hU (sW_0 k_isW_11) (by decide) rfl vl_X10_358 (c_X9_passSecond X.2.2.2.2.2.2.1 k_isW_11 rfl hr62) rfl rfl rfl hl.1 ⟨Nat.le_of_ble_eq_true rfl, Nat.le_of_ble_eq_true rfl⟩ (Nat.le_of_ble_eq_true rfl) dX10_reserveIn_62 ⟨Nat.zero_le _, Nat.zero_le _⟩) (fun H locs hU hS => ?_)
            obtain ⟨u62, e62, hf⟩ := k_ltE hf
            rw [← e62] at hU
            obtain ⟨x65, e65, hf⟩ := k_ltE hf
            refine lv_iinc (v := x65) (lv' := [(2, .int x65), (0, .ref (ad 0 0)), (1, .ref (ad 11 2))]) X.1 X.2.1 dX10_reserveIn_65 hl (k := 2) rfl (by rw [e65]; rfl) (by decide) rfl (fun ls hl => ?_)
            refine lv_goto (tgt := 33) X.1 X.2.1 dX10_reserveIn_68 (by decide) ?_
            exact ih33 _ _ _ u62 x65 hU hS (lv_sub hl [1, 2, 0] rfl) hf
  unfold f_X10_reserveIn at hf
  refine lv_aload_n X.1 X.2.1 dX10_reserveIn_0 rfl (lv_at hl 0 rfl) ?_
  refine k_get (v := .ref (ad 10 0)) X hU sh_0_0 fl_X10_33 rfl dX10_reserveIn_1 ?_
  refine k_get (v := .int (u 10 0 11)) X hU (sW_0 k_isW_10) fl_X10_187 rfl dX10_reserveIn_4 ?_
  refine lv_if_ne (tgt := 12) X.1 X.2.1 dX10_reserveIn_7 (by decide) (fun c7 => ?_) (fun c7 => ?_)
  · replace hf := k_ifN hf c7
    refine lv_aload_n X.1 X.2.1 dX10_reserveIn_12 rfl (lv_at hl 0 rfl) ?_
    refine k_get (v := .ref (ad 11 0)) X hU sh_0_0 fl_X10_37 rfl dX10_reserveIn_13 ?_
    refine lv_aload_n X.1 X.2.1 dX10_reserveIn_16 rfl (lv_at hl 0 rfl) ?_
    refine k_get (v := .ref (ad 10 0)) X hU sh_0_0 fl_X10_33 rfl dX10_reserveIn_17 ?_
    obtain ⟨r20, hr20, hf⟩ := k_bdE hf
    refine k_backv X hS (k_runV (As := [.ref (ad 10 0)]) (rest := []) X hS hU (sW_0 k_isW_11) (by decide) rfl vl_X10_103 (c_X9_copyFrom X.2.2.2.2.2.2.1 k_isW_11 k_isW_10 (by decide) rfl rfl hr20) rfl rfl rfl hl.1 ⟨Nat.le_of_ble_eq_true rfl, Nat.le_of_ble_eq_true rfl⟩ (Nat.le_of_ble_eq_true rfl) dX10_reserveIn_20 ⟨Nat.zero_le _, Nat.zero_le _⟩) (fun H locs hU hS => ?_)
    obtain ⟨u20, e20, hf⟩ := k_ltE hf
    rw [← e20] at hU
    refine lv_aload_n X.1 X.2.1 dX10_reserveIn_23 rfl (lv_at hl 0 rfl) ?_
    refine k_get (v := .ref (ad 11 0)) X hU sh_0_0 fl_X10_37 rfl dX10_reserveIn_24 ?_
    refine k_get (v := .ref (ad 11 2)) X hU (sW_0 k_isW_11) fl_X10_361 rfl dX10_reserveIn_27 ?_
    refine lv_astore_n (lv' := [(1, .ref (ad 11 2)), (0, .ref (ad 0 0))]) X.1 X.2.1 dX10_reserveIn_30 rfl hl (by decide) rfl (fun ls hl => ?_)
    refine lv_iconst (v := 0) X.1 X.2.1 dX10_reserveIn_31 (by decide) ?_
    refine lv_istore_n (lv' := [(2, .int 0), (1, .ref (ad 11 2)), (0, .ref (ad 0 0))]) X.1 X.2.1 dX10_reserveIn_32 rfl hl (by decide) rfl (fun ls hl => ?_)
    exact L33 k_N _ _ _ u20 0 hU hS (lv_sub hl [2, 1, 0] rfl) hf
  · replace hf := k_ifP hf c7
    refine lv_iconst (v := (-1)) X.1 X.2.1 dX10_reserveIn_10 (by decide) ?_
    have hz := Option.some.inj hf
    subst hz
    exact k_iret (v := (-1)) X hU hS hr hlk rfl rfl dX10_reserveIn_11
def rm_X10_hottest : Room := { frames := 4, cells := 0, slots := 0, locals := 113 }
set_option maxRecDepth 100000 in
set_option maxHeartbeats 4000000 in
theorem c_X10_hottest {l : Launch} {D : va_G} {G : Nat → ClassId} {ad : Nat → Nat → Nat} {u : k_U} (hI : k_ok ad) {sz : Nat} {r : (k_U × Int32)} (hf : f_X10_hottest u = some r) : Met l yX10_hottest (.code yX10_hottest cX10_hottest 3 (some .int) :: lw_g) rm_X10_hottest (k_Pre D G ad u sz [.ref (ad 0 0)]) (k_Qi D G ad r.1 r.2 sz) 0 0 (k_A ad sz) := by
  refine k_ofW (by decide +kernel) hI (Nat.le_of_ble_eq_true rfl) ?_
  intro p e s m args below meth c X hr hlk hU hS ls hl
  have hl : lv_has ls 3 [(0, .ref (ad 0 0))] := hl
  have L21 : ∀ (n21 : Nat) (H : Heap) (locs : List Loc) (ls : Array Slot) (u : k_U) (a1 : Int32) (a2 : Int32), k_Uv D G ad u H → va_S (k_A ad sz) s.heap H locs → lv_has ls 3 [(0, .ref (ad 0 0)), (1, .int a1), (2, .int a2)] → f_X10_hottest_21 n21 u a1 a2 = some r → W p l e rm_X10_hottest s m args below meth c H locs 0 0 (MQ below (k_Qi D G ad r.1 r.2 sz) args s 0 0 (k_A ad sz)) (F0 m 21 ls []) := by
    intro n21
    induction n21 with
    | zero =>
      intro H locs ls u a1 a2 hU hS hl hf
      cases (show none = some r from hf)
    | succ n21 ih21 =>
      intro H locs ls u a1 a2 hU hS hl hf
      replace hf : f_X10_hottest_21_b (f_X10_hottest_21 n21) u a1 a2 = some r := hf
      unfold f_X10_hottest_21_b at hf
      refine lv_iload_n X.1 X.2.1 dX10_hottest_21 rfl (lv_at hl 2 rfl) ?_
      refine lv_sipush (v := 3000) X.1 X.2.1 dX10_hottest_22 (by decide) ?_
      refine lv_icmp_ge (tgt := 63) X.1 X.2.1 dX10_hottest_25 (by decide) (fun c25 => ?_) (fun c25 => ?_)
      · replace hf := k_ifP hf c25
        refine lv_iload_n X.1 X.2.1 dX10_hottest_63 rfl (lv_at hl 1 rfl) ?_
        have hz := Option.some.inj hf
        subst hz
        exact k_iret (v := a1) X hU hS hr hlk rfl rfl dX10_hottest_64
      · replace hf := k_ifN hf c25
        refine lv_aload_n X.1 X.2.1 dX10_hottest_28 rfl (lv_at hl 0 rfl) ?_
        refine k_get (v := .ref (ad 11 0)) X hU sh_0_0 fl_X10_37 rfl dX10_hottest_29 ?_
        obtain ⟨r32, hr32, hf⟩ := k_bdE hf
        refine k_backi X hS (k_runV (As := []) (rest := []) X hS hU (sW_0 k_isW_11) (by decide) rfl vl_X10_350 (c_X9_hasLanded X.2.2.2.2.2.2.1 k_isW_11 rfl hr32) rfl rfl rfl hl.1 ⟨Nat.le_of_ble_eq_true rfl, Nat.le_of_ble_eq_true rfl⟩ (Nat.le_of_ble_eq_true rfl) dX10_hottest_32 ⟨Nat.zero_le _, Nat.zero_le _⟩) (fun H locs hU hS => ?_)
        refine lv_if_ne (tgt := 63) X.1 X.2.1 dX10_hottest_35 (by decide) (fun c35 => ?_) (fun c35 => ?_)
        · replace hf := k_ifN hf c35
          refine lv_iload_n X.1 X.2.1 dX10_hottest_63 rfl (lv_at hl 1 rfl) ?_
          have hz := Option.some.inj hf
          subst hz
          exact k_iret (v := a1) X hU hS hr hlk rfl rfl dX10_hottest_64
        · replace hf := k_ifP hf c35
          refine lv_aload_n X.1 X.2.1 dX10_hottest_38 rfl (lv_at hl 0 rfl) ?_
          refine k_get (v := .ref (ad 11 0)) X hU sh_0_0 fl_X10_37 rfl dX10_hottest_39 ?_
          obtain ⟨r42, hr42, hf⟩ := k_bdE hf
          refine k_backv X hS (k_runV (As := []) (rest := []) X hS hU (sW_0 k_isW_11) (by decide) rfl vl_X10_358 (c_X9_passSecond X.2.2.2.2.2.2.1 k_isW_11 rfl hr42) rfl rfl rfl hl.1 ⟨Nat.le_of_ble_eq_true rfl, Nat.le_of_ble_eq_true rfl⟩ (Nat.le_of_ble_eq_true rfl) dX10_hottest_42 ⟨Nat.zero_le _, Nat.zero_le _⟩) (fun H locs hU hS => ?_)
          obtain ⟨u42, e42, hf⟩ := k_ltE hf
          rw [← e42] at hU
          refine lv_iload_n X.1 X.2.1 dX10_hottest_45 rfl (lv_at hl 1 rfl) ?_
          refine lv_aload_n X.1 X.2.1 dX10_hottest_46 rfl (lv_at hl 0 rfl) ?_
          refine k_get (v := .ref (ad 11 0)) X hU sh_0_0 fl_X10_37 rfl dX10_hottest_47 ?_
          refine k_get (v := .int (u42 11 0 4)) X hU (sW_0 k_isW_11) fl_X10_165 rfl dX10_hottest_50 ?_
          refine k_maxi_r X (mX10_365) hl.1 (Nat.le_of_ble_eq_true rfl) (Nat.le_of_ble_eq_true rfl) ⟨Nat.zero_le _, Nat.zero_le _⟩ dX10_hottest_53 ?_
          obtain ⟨x56, e56, hf⟩ := k_ltE hf
          refine k_nmi e56 ?_
          refine lv_istore_n (lv' := [(1, .int x56), (0, .ref (ad 0 0)), (2, .int a2)]) X.1 X.2.1 dX10_hottest_56 rfl hl (by decide) rfl (fun ls hl => ?_)
          obtain ⟨x57, e57, hf⟩ := k_ltE hf
          refine lv_iinc (v := x57) (lv' := [(2, .int x57), (1, .int x56), (0, .ref (ad 0 0))]) X.1 X.2.1 dX10_hottest_57 hl (k := 2) rfl (by rw [e57]; rfl) (by decide) rfl (fun ls hl => ?_)
          refine lv_goto (tgt := 21) X.1 X.2.1 dX10_hottest_60 (by decide) ?_
          exact ih21 _ _ _ u42 x56 x57 hU hS (lv_sub hl [2, 1, 0] rfl) hf
  unfold f_X10_hottest at hf
  refine lv_aload_n X.1 X.2.1 dX10_hottest_0 rfl (lv_at hl 0 rfl) ?_
  refine k_get (v := .ref (ad 11 0)) X hU sh_0_0 fl_X10_37 rfl dX10_hottest_1 ?_
  refine lv_aload_n X.1 X.2.1 dX10_hottest_4 rfl (lv_at hl 0 rfl) ?_
  refine k_get (v := .ref (ad 10 0)) X hU sh_0_0 fl_X10_33 rfl dX10_hottest_5 ?_
  obtain ⟨r8, hr8, hf⟩ := k_bdE hf
  refine k_backv X hS (k_runV (As := [.ref (ad 10 0)]) (rest := []) X hS hU (sW_0 k_isW_11) (by decide) rfl vl_X10_103 (c_X9_copyFrom X.2.2.2.2.2.2.1 k_isW_11 k_isW_10 (by decide) rfl rfl hr8) rfl rfl rfl hl.1 ⟨Nat.le_of_ble_eq_true rfl, Nat.le_of_ble_eq_true rfl⟩ (Nat.le_of_ble_eq_true rfl) dX10_hottest_8 ⟨Nat.zero_le _, Nat.zero_le _⟩) (fun H locs hU hS => ?_)
  obtain ⟨u8, e8, hf⟩ := k_ltE hf
  rw [← e8] at hU
  refine lv_aload_n X.1 X.2.1 dX10_hottest_11 rfl (lv_at hl 0 rfl) ?_
  refine k_get (v := .ref (ad 11 0)) X hU sh_0_0 fl_X10_37 rfl dX10_hottest_12 ?_
  refine k_get (v := .int (u8 11 0 4)) X hU (sW_0 k_isW_11) fl_X10_165 rfl dX10_hottest_15 ?_
  obtain ⟨x18, e18, hf⟩ := k_ltE hf
  refine k_nmi e18 ?_
  refine lv_istore_n (lv' := [(1, .int x18), (0, .ref (ad 0 0))]) X.1 X.2.1 dX10_hottest_18 rfl hl (by decide) rfl (fun ls hl => ?_)
  refine lv_iconst (v := 0) X.1 X.2.1 dX10_hottest_19 (by decide) ?_
  refine lv_istore_n (lv' := [(2, .int 0), (1, .int x18), (0, .ref (ad 0 0))]) X.1 X.2.1 dX10_hottest_20 rfl hl (by decide) rfl (fun ls hl => ?_)
  exact L21 k_N _ _ _ u8 x18 0 hU hS (lv_sub hl [2, 1, 0] rfl) hf
def rm_X10_foretellLandingWithSlip : Room := { frames := 5, cells := 0, slots := 0, locals := 136 }
set_option maxRecDepth 100000 in
set_option maxHeartbeats 4000000 in
theorem c_X10_foretellLandingWithSlip {l : Launch} {D : va_G} {G : Nat → ClassId} {ad : Nat → Nat → Nat} {u : k_U} (hI : k_ok ad) {a1 : Int32} {sz : Nat} {r : k_U} (hf : f_X10_foretellLandingWithSlip u a1 = some r) : Met l yX10_foretellLandingWithSlip (.code yX10_foretellLandingWithSlip cX10_foretellLandingWithSlip 2 none :: lw_g) rm_X10_foretellLandingWithSlip (k_Pre D G ad u sz [.ref (ad 0 0), .int a1]) (k_Qv D G ad r sz) 0 0 (k_A ad sz) := by
  refine k_ofW (by decide +kernel) hI (Nat.le_of_ble_eq_true rfl) ?_
  intro p e s m args below meth c X hr hlk hU hS ls hl
  have hl : lv_has ls 2 [(0, .ref (ad 0 0)), (1, .int a1)] := hl
  unfold f_X10_foretellLandingWithSlip at hf
  refine lv_aload_n X.1 X.2.1 dX10_foretellLandingWithSlip_0 rfl (lv_at hl 0 rfl) ?_
  refine k_get (v := .ref (ad 11 0)) X hU sh_0_0 fl_X10_37 rfl dX10_foretellLandingWithSlip_1 ?_
  refine lv_aload_n X.1 X.2.1 dX10_foretellLandingWithSlip_4 rfl (lv_at hl 0 rfl) ?_
  refine k_get (v := .ref (ad 10 0)) X hU sh_0_0 fl_X10_33 rfl dX10_foretellLandingWithSlip_5 ?_
  obtain ⟨r8, hr8, hf⟩ := k_bdE hf
  refine k_backv X hS (k_runV (As := [.ref (ad 10 0)]) (rest := []) X hS hU (sW_0 k_isW_11) (by decide) rfl vl_X10_103 (c_X9_copyFrom X.2.2.2.2.2.2.1 k_isW_11 k_isW_10 (by decide) rfl rfl hr8) rfl rfl rfl hl.1 ⟨Nat.le_of_ble_eq_true rfl, Nat.le_of_ble_eq_true rfl⟩ (Nat.le_of_ble_eq_true rfl) dX10_foretellLandingWithSlip_8 ⟨Nat.zero_le _, Nat.zero_le _⟩) (fun H locs hU hS => ?_)
  obtain ⟨u8, e8, hf⟩ := k_ltE hf
  rw [← e8] at hU
  refine lv_aload_n X.1 X.2.1 dX10_foretellLandingWithSlip_11 rfl (lv_at hl 0 rfl) ?_
  refine k_get (v := .ref (ad 11 0)) X hU sh_0_0 fl_X10_37 rfl dX10_foretellLandingWithSlip_12 ?_
  refine lv_iload_n X.1 X.2.1 dX10_foretellLandingWithSlip_15 rfl (lv_at hl 1 rfl) ?_
  obtain ⟨u16, e16, hf⟩ := k_ltE hf
  refine k_put X hU hS (sW_0 k_isW_11) fp_X10_168 rfl rfl rfl rfl dX10_foretellLandingWithSlip_16 (fun H locs hU hS => ?_)
  rw [← e16] at hU
  refine lv_aload_n X.1 X.2.1 dX10_foretellLandingWithSlip_19 rfl (lv_at hl 0 rfl) ?_
  refine k_get (v := .ref (ad 11 0)) X hU sh_0_0 fl_X10_37 rfl dX10_foretellLandingWithSlip_20 ?_
  refine lv_iconst (v := 0) X.1 X.2.1 dX10_foretellLandingWithSlip_23 (by decide) ?_
  refine lv_sipush (v := 3000) X.1 X.2.1 dX10_foretellLandingWithSlip_24 (by decide) ?_
  obtain ⟨r27, hr27, hf⟩ := k_bdE hf
  refine k_backi X hS (k_runV (As := [.int 0, .int 3000]) (rest := []) X hS hU (sW_0 k_isW_11) (by decide) rfl vl_X10_387 (c_X9_passUntil X.2.2.2.2.2.2.1 k_isW_11 rfl hr27) rfl rfl rfl hl.1 ⟨Nat.le_of_ble_eq_true rfl, Nat.le_of_ble_eq_true rfl⟩ (Nat.le_of_ble_eq_true rfl) dX10_foretellLandingWithSlip_27 ⟨Nat.zero_le _, Nat.zero_le _⟩) (fun H locs hU hS => ?_)
  obtain ⟨u27, e27, hf⟩ := k_ltE hf
  rw [← e27] at hU
  refine lv_pop X.1 X.2.1 dX10_foretellLandingWithSlip_30 rfl ?_
  have hz := Option.some.inj hf
  subst hz
  exact k_vret X hU hS hr hlk dX10_foretellLandingWithSlip_31
def rm_X10_bestSlip : Room := { frames := 6, cells := 0, slots := 0, locals := 157 }
set_option maxRecDepth 100000 in
set_option maxHeartbeats 4000000 in
theorem c_X10_bestSlip {l : Launch} {D : va_G} {G : Nat → ClassId} {ad : Nat → Nat → Nat} {u : k_U} (hI : k_ok ad) {a1 : Int32} {sz : Nat} {r1 : k_U} {r2 : Int32} (hf : f_X10_bestSlip u a1 = some (r1, Sum.inl r2)) : Met l yX10_bestSlip (.code yX10_bestSlip cX10_bestSlip 7 (some .int) :: lw_g) rm_X10_bestSlip (k_Pre D G ad u sz [.ref (ad 0 0), .int a1]) (k_Qi D G ad r1 r2 sz) 0 0 (k_A ad sz) := by
  refine k_ofW (by decide +kernel) hI (Nat.le_of_ble_eq_true rfl) ?_
  intro p e s m args below meth c X hr hlk hU hS ls hl
  have hl : lv_has ls 7 [(0, .ref (ad 0 0)), (1, .int a1)] := hl
  have L32 : ∀ (n32 : Nat) (H : Heap) (locs : List Loc) (ls : Array Slot) (u : k_U) (a1 : Int32) (a2 : Int32) (a3 : Int32) (a4 : Int32), k_Uv D G ad u H → va_S (k_A ad sz) s.heap H locs → lv_has ls 7 [(0, .ref (ad 0 0)), (1, .int a1), (2, .int a2), (3, .int a3), (4, .int a4)] → f_X10_bestSlip_32 n32 u a1 a2 a3 a4 = some (r1, Sum.inl r2) → W p l e rm_X10_bestSlip s m args below meth c H locs 0 0 (MQ below (k_Qi D G ad r1 r2 sz) args s 0 0 (k_A ad sz)) (F0 m 32 ls []) := by
    intro n32
    induction n32 with
    | zero =>
      intro H locs ls u a1 a2 a3 a4 hU hS hl hf
      cases (show none = some (r1, Sum.inl r2) from hf)
    | succ n32 ih32 =>
      have J118 : ∀ (H : Heap) (locs : List Loc) (ls : Array Slot) (u : k_U) (a1 : Int32) (a2 : Int32) (a3 : Int32) (a4 : Int32), k_Uv D G ad u H → va_S (k_A ad sz) s.heap H locs → lv_has ls 7 [(0, .ref (ad 0 0)), (1, .int a1), (2, .int a2), (3, .int a3), (4, .int a4)] → f_X10_bestSlip_118 (f_X10_bestSlip_32 n32) u a1 a2 a3 a4 = some (r1, Sum.inl r2) → W p l e rm_X10_bestSlip s m args below meth c H locs 0 0 (MQ below (k_Qi D G ad r1 r2 sz) args s 0 0 (k_A ad sz)) (F0 m 118 ls []) := by
        intro H locs ls u a1 a2 a3 a4 hU hS hl hf
        unfold f_X10_bestSlip_118 at hf
        obtain ⟨x118, e118, hf⟩ := k_ltE hf
        refine lv_iinc (v := x118) (lv' := [(4, .int x118), (0, .ref (ad 0 0)), (1, .int a1), (2, .int a2), (3, .int a3)]) X.1 X.2.1 dX10_bestSlip_118 hl (k := 4) rfl (by rw [e118]; rfl) (by decide) rfl (fun ls hl => ?_)
        refine lv_goto (tgt := 32) X.1 X.2.1 dX10_bestSlip_121 (by decide) ?_
        exact ih32 _ _ _ u a1 a2 a3 x118 hU hS (lv_sub hl [1, 2, 3, 4, 0] rfl) hf
      have J109 : ∀ (H : Heap) (locs : List Loc) (ls : Array Slot) (u : k_U) (a1 : Int32) (a4 : Int32) (a5 : Int32) (a6 : Int32), k_Uv D G ad u H → va_S (k_A ad sz) s.heap H locs → lv_has ls 7 [(0, .ref (ad 0 0)), (1, .int a1), (4, .int a4), (5, .int a5), (6, .int a6)] → f_X10_bestSlip_109 (f_X10_bestSlip_32 n32) u a1 a4 a5 a6 = some (r1, Sum.inl r2) → W p l e rm_X10_bestSlip s m args below meth c H locs 0 0 (MQ below (k_Qi D G ad r1 r2 sz) args s 0 0 (k_A ad sz)) (F0 m 109 ls []) := by
        intro H locs ls u a1 a4 a5 a6 hU hS hl hf
        unfold f_X10_bestSlip_109 at hf
        refine lv_iload X.1 X.2.1 dX10_bestSlip_109 (lv_at hl 3 rfl) ?_
        refine lv_bipush (v := 9) X.1 X.2.1 dX10_bestSlip_111 (by decide) ?_
        refine lv_iadd X.1 X.2.1 dX10_bestSlip_113 ?_
        obtain ⟨x114, e114, hf⟩ := k_ltE hf
        refine k_nmi e114 ?_
        refine lv_istore_n (lv' := [(2, .int x114), (0, .ref (ad 0 0)), (1, .int a1), (4, .int a4), (5, .int a5), (6, .int a6)]) X.1 X.2.1 dX10_bestSlip_114 rfl hl (by decide) rfl (fun ls hl => ?_)
        refine lv_iload X.1 X.2.1 dX10_bestSlip_115 (lv_at hl 5 rfl) ?_
        refine lv_istore_n (lv' := [(3, .int a6), (2, .int x114), (0, .ref (ad 0 0)), (1, .int a1), (4, .int a4), (5, .int a5), (6, .int a6)]) X.1 X.2.1 dX10_bestSlip_117 rfl hl (by decide) rfl (fun ls hl => ?_)
        exact J118 _ _ _ u a1 x114 a6 a4 hU hS (lv_sub hl [2, 3, 1, 0, 4] rfl) hf
      have J60 : ∀ (H : Heap) (locs : List Loc) (ls : Array Slot) (u : k_U) (a1 : Int32) (a2 : Int32) (a3 : Int32) (a4 : Int32) (as0 : Int32), k_Uv D G ad u H → va_S (k_A ad sz) s.heap H locs → lv_has ls 7 [(0, .ref (ad 0 0)), (1, .int a1), (2, .int a2), (3, .int a3), (4, .int a4)] → f_X10_bestSlip_60 (f_X10_bestSlip_32 n32) u a1 a2 a3 a4 as0 = some (r1, Sum.inl r2) → W p l e rm_X10_bestSlip s m args below meth c H locs 0 0 (MQ below (k_Qi D G ad r1 r2 sz) args s 0 0 (k_A ad sz)) (F0 m 60 ls [.int as0]) := by
        intro H locs ls u a1 a2 a3 a4 as0 hU hS hl hf
        unfold f_X10_bestSlip_60 at hf
        refine lv_istore (lv' := [(5, .int as0), (0, .ref (ad 0 0)), (1, .int a1), (2, .int a2), (3, .int a3), (4, .int a4)]) X.1 X.2.1 dX10_bestSlip_60 hl (by decide) rfl (fun ls hl => ?_)
        refine lv_aload_n X.1 X.2.1 dX10_bestSlip_62 rfl (lv_at hl 1 rfl) ?_
        refine lv_iload X.1 X.2.1 dX10_bestSlip_63 (lv_at hl 0 rfl) ?_
        obtain ⟨r65, hr65, hf⟩ := k_bdE hf
        refine k_backv X hS (k_runV (As := [.int as0]) (rest := []) X hS hU sh_0_0 (by decide) rfl vl_X10_370 (c_X10_foretellLandingWithSlip X.2.2.2.2.2.2.1 hr65) rfl rfl rfl hl.1 ⟨Nat.le_of_ble_eq_true rfl, Nat.le_of_ble_eq_true rfl⟩ (Nat.le_of_ble_eq_true rfl) dX10_bestSlip_65 ⟨Nat.zero_le _, Nat.zero_le _⟩) (fun H locs hU hS => ?_)
        refine lv_aload_n X.1 X.2.1 dX10_bestSlip_68 rfl (lv_at hl 1 rfl) ?_
        refine k_get (v := .ref (ad 10 0)) X hU sh_0_0 fl_X10_33 rfl dX10_bestSlip_69 ?_
        refine k_get (v := .ref (ad 10 9)) X hU (sW_0 k_isW_10) fl_X10_201 rfl dX10_bestSlip_72 ?_
        refine lv_iload_n X.1 X.2.1 dX10_bestSlip_75 rfl (lv_at hl 2 rfl) ?_
        refine lv_aload_n X.1 X.2.1 dX10_bestSlip_76 rfl (lv_at hl 1 rfl) ?_
        refine k_get (v := .ref (ad 11 0)) X hU sh_0_0 fl_X10_37 rfl dX10_bestSlip_77 ?_
        refine k_get (v := .int (r65 11 0 2)) X hU (sW_0 k_isW_11) fl_X10_159 rfl dX10_bestSlip_80 ?_
        obtain ⟨r83, hr83, hf⟩ := k_bdE hf
        refine k_backi X hS (k_runV (As := [.int a1, .int (r65 11 0 2)]) (rest := []) X hS hU (sW_9 k_isW_10) (by decide) rfl vl_X10_373 (c_X8_distanceTo X.2.2.2.2.2.2.1 k_isW_10 rfl hr83) rfl rfl rfl hl.1 ⟨Nat.le_of_ble_eq_true rfl, Nat.le_of_ble_eq_true rfl⟩ (Nat.le_of_ble_eq_true rfl) dX10_bestSlip_83 ⟨Nat.zero_le _, Nat.zero_le _⟩) (fun H locs hU hS => ?_)
        refine lv_istore (lv' := [(6, .int r83), (5, .int as0), (0, .ref (ad 0 0)), (1, .int a1), (2, .int a2), (3, .int a3), (4, .int a4)]) X.1 X.2.1 dX10_bestSlip_86 hl (by decide) rfl (fun ls hl => ?_)
        refine lv_aload_n X.1 X.2.1 dX10_bestSlip_88 rfl (lv_at hl 2 rfl) ?_
        refine k_get (v := .ref (ad 11 0)) X hU sh_0_0 fl_X10_37 rfl dX10_bestSlip_89 ?_
        obtain ⟨r92, hr92, hf⟩ := k_bdE hf
        refine k_backi X hS (k_runV (As := []) (rest := []) X hS hU (sW_0 k_isW_11) (by decide) rfl vl_X10_350 (c_X9_hasLanded X.2.2.2.2.2.2.1 k_isW_11 rfl hr92) rfl rfl rfl hl.1 ⟨Nat.le_of_ble_eq_true rfl, Nat.le_of_ble_eq_true rfl⟩ (Nat.le_of_ble_eq_true rfl) dX10_bestSlip_92 ⟨Nat.zero_le _, Nat.zero_le _⟩) (fun H locs hU hS => ?_)
        refine lv_if_eq (tgt := 118) X.1 X.2.1 dX10_bestSlip_95 (by decide) (fun c95 => ?_) (fun c95 => ?_)
        · replace hf := k_ifP hf c95
          exact J118 _ _ _ r65 a1 a2 a3 a4 hU hS (lv_sub hl [2, 3, 4, 5, 6] rfl) hf
        · replace hf := k_ifN hf c95
          refine lv_iload_n X.1 X.2.1 dX10_bestSlip_98 rfl (lv_at hl 4 rfl) ?_
          refine lv_iconst (v := (-1)) X.1 X.2.1 dX10_bestSlip_99 (by decide) ?_
          refine lv_icmp_eq (tgt := 109) X.1 X.2.1 dX10_bestSlip_100 (by decide) (fun c100 => ?_) (fun c100 => ?_)
          · replace hf := k_ifP hf c100
            exact J109 _ _ _ r65 a1 a4 as0 r83 hU hS (lv_sub hl [2, 3, 6, 1, 0] rfl) hf
          · replace hf := k_ifN hf c100
            refine lv_iload X.1 X.2.1 dX10_bestSlip_103 (lv_at hl 0 rfl) ?_
            refine lv_iload_n X.1 X.2.1 dX10_bestSlip_105 rfl (lv_at hl 5 rfl) ?_
            refine lv_icmp_ge (tgt := 118) X.1 X.2.1 dX10_bestSlip_106 (by decide) (fun c106 => ?_) (fun c106 => ?_)
            · replace hf := k_ifP hf c106
              exact J118 _ _ _ r65 a1 a2 a3 a4 hU hS (lv_sub hl [2, 3, 4, 5, 6] rfl) hf
            · replace hf := k_ifN hf c106
              exact J109 _ _ _ r65 a1 a4 as0 r83 hU hS (lv_sub hl [2, 3, 6, 1, 0] rfl) hf
      intro H locs ls u a1 a2 a3 a4 hU hS hl hf
      replace hf : f_X10_bestSlip_32_b (f_X10_bestSlip_32 n32) u a1 a2 a3 a4 = some (r1, Sum.inl r2) := hf
      unfold f_X10_bestSlip_32_b at hf
      refine lv_iload X.1 X.2.1 dX10_bestSlip_32 (lv_at hl 4 rfl) ?_
      refine lv_bipush (v := 18) X.1 X.2.1 dX10_bestSlip_34 (by decide) ?_
      refine lv_icmp_gt (tgt := 124) X.1 X.2.1 dX10_bestSlip_36 (by decide) (fun c36 => ?_) (fun c36 => ?_)
      · replace hf := k_ifP hf c36
        refine lv_iload_n X.1 X.2.1 dX10_bestSlip_124 rfl (lv_at hl 2 rfl) ?_
        obtain ⟨hz1, hz2⟩ := k_injl hf
        subst hz1
        subst hz2
        exact k_iret (v := a2) X hU hS hr hlk rfl rfl dX10_bestSlip_125
      · replace hf := k_ifN hf c36
        refine lv_iload X.1 X.2.1 dX10_bestSlip_39 (lv_at hl 4 rfl) ?_
        refine lv_iconst (v := 2) X.1 X.2.1 dX10_bestSlip_41 (by decide) ?_
        refine lv_irem X.1 X.2.1 dX10_bestSlip_42 (by decide) ?_
        refine lv_if_ne (tgt := 53) X.1 X.2.1 dX10_bestSlip_43 (by decide) (fun c43 => ?_) (fun c43 => ?_)
        · replace hf := k_ifN hf c43
          refine lv_iload X.1 X.2.1 dX10_bestSlip_53 (lv_at hl 4 rfl) ?_
          refine lv_iconst (v := 1) X.1 X.2.1 dX10_bestSlip_55 (by decide) ?_
          refine lv_iadd X.1 X.2.1 dX10_bestSlip_56 ?_
          refine lv_ineg X.1 X.2.1 dX10_bestSlip_57 ?_
          refine lv_iconst (v := 2) X.1 X.2.1 dX10_bestSlip_58 (by decide) ?_
          refine lv_idiv X.1 X.2.1 dX10_bestSlip_59 (by decide) ?_
          exact J60 _ _ _ u a1 a2 a3 a4 ((-(a4 + 1)) / 2) hU hS (lv_sub hl [0, 1, 2, 3, 4] rfl) hf
        · replace hf := k_ifP hf c43
          refine lv_iload X.1 X.2.1 dX10_bestSlip_46 (lv_at hl 4 rfl) ?_
          refine lv_iconst (v := 2) X.1 X.2.1 dX10_bestSlip_48 (by decide) ?_
          refine lv_idiv X.1 X.2.1 dX10_bestSlip_49 (by decide) ?_
          refine lv_goto (tgt := 60) X.1 X.2.1 dX10_bestSlip_50 (by decide) ?_
          exact J60 _ _ _ u a1 a2 a3 a4 (a4 / 2) hU hS (lv_sub hl [0, 1, 2, 3, 4] rfl) hf
  unfold f_X10_bestSlip at hf
  refine lv_aload_n X.1 X.2.1 dX10_bestSlip_0 rfl (lv_at hl 0 rfl) ?_
  refine k_get (v := .ref (ad 10 0)) X hU sh_0_0 fl_X10_33 rfl dX10_bestSlip_1 ?_
  refine k_get (v := .ref (ad 10 9)) X hU (sW_0 k_isW_10) fl_X10_201 rfl dX10_bestSlip_4 ?_
  refine lv_iload_n X.1 X.2.1 dX10_bestSlip_7 rfl (lv_at hl 1 rfl) ?_
  obtain ⟨r8, hr8, hf⟩ := k_bdE hf
  refine k_backi X hS (k_runV (As := [.int a1]) (rest := []) X hS hU (sW_9 k_isW_10) (by decide) rfl vl_X10_292 (c_X8_has X.2.2.2.2.2.2.1 k_isW_10 rfl hr8) rfl rfl rfl hl.1 ⟨Nat.le_of_ble_eq_true rfl, Nat.le_of_ble_eq_true rfl⟩ (Nat.le_of_ble_eq_true rfl) dX10_bestSlip_8 ⟨Nat.zero_le _, Nat.zero_le _⟩) (fun H locs hU hS => ?_)
  refine lv_if_ne (tgt := 25) X.1 X.2.1 dX10_bestSlip_11 (by decide) (fun c11 => ?_) (fun c11 => ?_)
  · replace hf := k_ifN hf c11
    refine lv_iconst (v := (-1)) X.1 X.2.1 dX10_bestSlip_25 (by decide) ?_
    refine lv_istore_n (lv' := [(2, .int (-1)), (0, .ref (ad 0 0)), (1, .int a1)]) X.1 X.2.1 dX10_bestSlip_26 rfl hl (by decide) rfl (fun ls hl => ?_)
    refine lv_iconst (v := 0) X.1 X.2.1 dX10_bestSlip_27 (by decide) ?_
    refine lv_istore_n (lv' := [(3, .int 0), (2, .int (-1)), (0, .ref (ad 0 0)), (1, .int a1)]) X.1 X.2.1 dX10_bestSlip_28 rfl hl (by decide) rfl (fun ls hl => ?_)
    refine lv_iconst (v := 0) X.1 X.2.1 dX10_bestSlip_29 (by decide) ?_
    refine lv_istore (lv' := [(4, .int 0), (3, .int 0), (2, .int (-1)), (0, .ref (ad 0 0)), (1, .int a1)]) X.1 X.2.1 dX10_bestSlip_30 hl (by decide) rfl (fun ls hl => ?_)
    exact L32 k_N _ _ _ u a1 (-1) 0 0 hU hS (lv_sub hl [3, 4, 2, 1, 0] rfl) hf
  · replace hf := k_ifP hf c11
    exact absurd hf k_ninl
def rx_X10_bestSlip : Room := { frames := 6, cells := 1, slots := 6, locals := 157 }
set_option maxRecDepth 100000 in
set_option maxHeartbeats 4000000 in
theorem x_X10_bestSlip {l : Launch} {D : va_G} {G : Nat → ClassId} {ad : Nat → Nat → Nat} {u : k_U} (hI : k_ok ad) (hlT : l.stackTraces = false) {a1 : Int32} {sz : Nat} {r1 : k_U} {j : Nat} (hf : f_X10_bestSlip u a1 = some (r1, Sum.inr j)) : vx_Met l yX10_bestSlip (.code yX10_bestSlip cX10_bestSlip 7 (some .int) :: lw_g) rx_X10_bestSlip (k_Pre D G ad u sz [.ref (ad 0 0), .int a1]) (k_Qn ad sz) (k_XC D G ad r1 j sz) 1 6 (k_A ad sz) := by
  refine k_xofW (by decide +kernel) hI (Nat.le_of_ble_eq_true rfl) ?_
  intro p e s m args below meth c X hr hlk hex hU hS ls hl
  have hl : lv_has ls 7 [(0, .ref (ad 0 0)), (1, .int a1)] := hl
  have L32 : ∀ (n32 : Nat) (H : Heap) (locs : List Loc) (ls : Array Slot) (u : k_U) (a1 : Int32) (a2 : Int32) (a3 : Int32) (a4 : Int32), k_Uv D G ad u H → va_S (k_A ad sz) s.heap H locs → lv_has ls 7 [(0, .ref (ad 0 0)), (1, .int a1), (2, .int a2), (3, .int a3), (4, .int a4)] → f_X10_bestSlip_32 n32 u a1 a2 a3 a4 = some (r1, Sum.inr j) → W p l e rx_X10_bestSlip s m args below meth c H locs 0 0 (vx_MQ below (k_Qn ad sz) (k_XC D G ad r1 j sz) args s 1 6 (k_A ad sz)) (F0 m 32 ls []) := by
    intro n32
    induction n32 with
    | zero =>
      intro H locs ls u a1 a2 a3 a4 hU hS hl hf
      cases (show none = some (r1, Sum.inr j) from hf)
    | succ n32 ih32 =>
      have J118 : ∀ (H : Heap) (locs : List Loc) (ls : Array Slot) (u : k_U) (a1 : Int32) (a2 : Int32) (a3 : Int32) (a4 : Int32), k_Uv D G ad u H → va_S (k_A ad sz) s.heap H locs → lv_has ls 7 [(0, .ref (ad 0 0)), (1, .int a1), (2, .int a2), (3, .int a3), (4, .int a4)] → f_X10_bestSlip_118 (f_X10_bestSlip_32 n32) u a1 a2 a3 a4 = some (r1, Sum.inr j) → W p l e rx_X10_bestSlip s m args below meth c H locs 0 0 (vx_MQ below (k_Qn ad sz) (k_XC D G ad r1 j sz) args s 1 6 (k_A ad sz)) (F0 m 118 ls []) := by
        intro H locs ls u a1 a2 a3 a4 hU hS hl hf
        unfold f_X10_bestSlip_118 at hf
        obtain ⟨x118, e118, hf⟩ := k_ltE hf
        refine lv_iinc (v := x118) (lv' := [(4, .int x118), (0, .ref (ad 0 0)), (1, .int a1), (2, .int a2), (3, .int a3)]) X.1 X.2.1 dX10_bestSlip_118 hl (k := 4) rfl (by rw [e118]; rfl) (by decide) rfl (fun ls hl => ?_)
        refine lv_goto (tgt := 32) X.1 X.2.1 dX10_bestSlip_121 (by decide) ?_
        exact ih32 _ _ _ u a1 a2 a3 x118 hU hS (lv_sub hl [1, 2, 3, 4, 0] rfl) hf
      have J109 : ∀ (H : Heap) (locs : List Loc) (ls : Array Slot) (u : k_U) (a1 : Int32) (a4 : Int32) (a5 : Int32) (a6 : Int32), k_Uv D G ad u H → va_S (k_A ad sz) s.heap H locs → lv_has ls 7 [(0, .ref (ad 0 0)), (1, .int a1), (4, .int a4), (5, .int a5), (6, .int a6)] → f_X10_bestSlip_109 (f_X10_bestSlip_32 n32) u a1 a4 a5 a6 = some (r1, Sum.inr j) → W p l e rx_X10_bestSlip s m args below meth c H locs 0 0 (vx_MQ below (k_Qn ad sz) (k_XC D G ad r1 j sz) args s 1 6 (k_A ad sz)) (F0 m 109 ls []) := by
        intro H locs ls u a1 a4 a5 a6 hU hS hl hf
        unfold f_X10_bestSlip_109 at hf
        refine lv_iload X.1 X.2.1 dX10_bestSlip_109 (lv_at hl 3 rfl) ?_
        refine lv_bipush (v := 9) X.1 X.2.1 dX10_bestSlip_111 (by decide) ?_
        refine lv_iadd X.1 X.2.1 dX10_bestSlip_113 ?_
        obtain ⟨x114, e114, hf⟩ := k_ltE hf
        refine k_nmi e114 ?_
        refine lv_istore_n (lv' := [(2, .int x114), (0, .ref (ad 0 0)), (1, .int a1), (4, .int a4), (5, .int a5), (6, .int a6)]) X.1 X.2.1 dX10_bestSlip_114 rfl hl (by decide) rfl (fun ls hl => ?_)
        refine lv_iload X.1 X.2.1 dX10_bestSlip_115 (lv_at hl 5 rfl) ?_
        refine lv_istore_n (lv' := [(3, .int a6), (2, .int x114), (0, .ref (ad 0 0)), (1, .int a1), (4, .int a4), (5, .int a5), (6, .int a6)]) X.1 X.2.1 dX10_bestSlip_117 rfl hl (by decide) rfl (fun ls hl => ?_)
        exact J118 _ _ _ u a1 x114 a6 a4 hU hS (lv_sub hl [2, 3, 1, 0, 4] rfl) hf
      have J60 : ∀ (H : Heap) (locs : List Loc) (ls : Array Slot) (u : k_U) (a1 : Int32) (a2 : Int32) (a3 : Int32) (a4 : Int32) (as0 : Int32), k_Uv D G ad u H → va_S (k_A ad sz) s.heap H locs → lv_has ls 7 [(0, .ref (ad 0 0)), (1, .int a1), (2, .int a2), (3, .int a3), (4, .int a4)] → f_X10_bestSlip_60 (f_X10_bestSlip_32 n32) u a1 a2 a3 a4 as0 = some (r1, Sum.inr j) → W p l e rx_X10_bestSlip s m args below meth c H locs 0 0 (vx_MQ below (k_Qn ad sz) (k_XC D G ad r1 j sz) args s 1 6 (k_A ad sz)) (F0 m 60 ls [.int as0]) := by
        intro H locs ls u a1 a2 a3 a4 as0 hU hS hl hf
        unfold f_X10_bestSlip_60 at hf
        refine lv_istore (lv' := [(5, .int as0), (0, .ref (ad 0 0)), (1, .int a1), (2, .int a2), (3, .int a3), (4, .int a4)]) X.1 X.2.1 dX10_bestSlip_60 hl (by decide) rfl (fun ls hl => ?_)
        refine lv_aload_n X.1 X.2.1 dX10_bestSlip_62 rfl (lv_at hl 1 rfl) ?_
        refine lv_iload X.1 X.2.1 dX10_bestSlip_63 (lv_at hl 0 rfl) ?_
        obtain ⟨r65, hr65, hf⟩ := k_bdE hf
        refine k_backv X hS (k_runV (As := [.int as0]) (rest := []) X hS hU sh_0_0 (by decide) rfl vl_X10_370 (c_X10_foretellLandingWithSlip X.2.2.2.2.2.2.1 hr65) rfl rfl rfl hl.1 ⟨Nat.le_of_ble_eq_true rfl, Nat.le_of_ble_eq_true rfl⟩ (Nat.le_of_ble_eq_true rfl) dX10_bestSlip_65 ⟨Nat.zero_le _, Nat.zero_le _⟩) (fun H locs hU hS => ?_)
        refine lv_aload_n X.1 X.2.1 dX10_bestSlip_68 rfl (lv_at hl 1 rfl) ?_
        refine k_get (v := .ref (ad 10 0)) X hU sh_0_0 fl_X10_33 rfl dX10_bestSlip_69 ?_
        refine k_get (v := .ref (ad 10 9)) X hU (sW_0 k_isW_10) fl_X10_201 rfl dX10_bestSlip_72 ?_
        refine lv_iload_n X.1 X.2.1 dX10_bestSlip_75 rfl (lv_at hl 2 rfl) ?_
        refine lv_aload_n X.1 X.2.1 dX10_bestSlip_76 rfl (lv_at hl 1 rfl) ?_
        refine k_get (v := .ref (ad 11 0)) X hU sh_0_0 fl_X10_37 rfl dX10_bestSlip_77 ?_
        refine k_get (v := .int (r65 11 0 2)) X hU (sW_0 k_isW_11) fl_X10_159 rfl dX10_bestSlip_80 ?_
        obtain ⟨r83, hr83, hf⟩ := k_bdE hf
        refine k_backi X hS (k_runV (As := [.int a1, .int (r65 11 0 2)]) (rest := []) X hS hU (sW_9 k_isW_10) (by decide) rfl vl_X10_373 (c_X8_distanceTo X.2.2.2.2.2.2.1 k_isW_10 rfl hr83) rfl rfl rfl hl.1 ⟨Nat.le_of_ble_eq_true rfl, Nat.le_of_ble_eq_true rfl⟩ (Nat.le_of_ble_eq_true rfl) dX10_bestSlip_83 ⟨Nat.zero_le _, Nat.zero_le _⟩) (fun H locs hU hS => ?_)
        refine lv_istore (lv' := [(6, .int r83), (5, .int as0), (0, .ref (ad 0 0)), (1, .int a1), (2, .int a2), (3, .int a3), (4, .int a4)]) X.1 X.2.1 dX10_bestSlip_86 hl (by decide) rfl (fun ls hl => ?_)
        refine lv_aload_n X.1 X.2.1 dX10_bestSlip_88 rfl (lv_at hl 2 rfl) ?_
        refine k_get (v := .ref (ad 11 0)) X hU sh_0_0 fl_X10_37 rfl dX10_bestSlip_89 ?_
        obtain ⟨r92, hr92, hf⟩ := k_bdE hf
        refine k_backi X hS (k_runV (As := []) (rest := []) X hS hU (sW_0 k_isW_11) (by decide) rfl vl_X10_350 (c_X9_hasLanded X.2.2.2.2.2.2.1 k_isW_11 rfl hr92) rfl rfl rfl hl.1 ⟨Nat.le_of_ble_eq_true rfl, Nat.le_of_ble_eq_true rfl⟩ (Nat.le_of_ble_eq_true rfl) dX10_bestSlip_92 ⟨Nat.zero_le _, Nat.zero_le _⟩) (fun H locs hU hS => ?_)
        refine lv_if_eq (tgt := 118) X.1 X.2.1 dX10_bestSlip_95 (by decide) (fun c95 => ?_) (fun c95 => ?_)
        · replace hf := k_ifP hf c95
          exact J118 _ _ _ r65 a1 a2 a3 a4 hU hS (lv_sub hl [2, 3, 4, 5, 6] rfl) hf
        · replace hf := k_ifN hf c95
          refine lv_iload_n X.1 X.2.1 dX10_bestSlip_98 rfl (lv_at hl 4 rfl) ?_
          refine lv_iconst (v := (-1)) X.1 X.2.1 dX10_bestSlip_99 (by decide) ?_
          refine lv_icmp_eq (tgt := 109) X.1 X.2.1 dX10_bestSlip_100 (by decide) (fun c100 => ?_) (fun c100 => ?_)
          · replace hf := k_ifP hf c100
            exact J109 _ _ _ r65 a1 a4 as0 r83 hU hS (lv_sub hl [2, 3, 6, 1, 0] rfl) hf
          · replace hf := k_ifN hf c100
            refine lv_iload X.1 X.2.1 dX10_bestSlip_103 (lv_at hl 0 rfl) ?_
            refine lv_iload_n X.1 X.2.1 dX10_bestSlip_105 rfl (lv_at hl 5 rfl) ?_
            refine lv_icmp_ge (tgt := 118) X.1 X.2.1 dX10_bestSlip_106 (by decide) (fun c106 => ?_) (fun c106 => ?_)
            · replace hf := k_ifP hf c106
              exact J118 _ _ _ r65 a1 a2 a3 a4 hU hS (lv_sub hl [2, 3, 4, 5, 6] rfl) hf
            · replace hf := k_ifN hf c106
              exact J109 _ _ _ r65 a1 a4 as0 r83 hU hS (lv_sub hl [2, 3, 6, 1, 0] rfl) hf
      intro H locs ls u a1 a2 a3 a4 hU hS hl hf
      replace hf : f_X10_bestSlip_32_b (f_X10_bestSlip_32 n32) u a1 a2 a3 a4 = some (r1, Sum.inr j) := hf
      unfold f_X10_bestSlip_32_b at hf
      refine lv_iload X.1 X.2.1 dX10_bestSlip_32 (lv_at hl 4 rfl) ?_
      refine lv_bipush (v := 18) X.1 X.2.1 dX10_bestSlip_34 (by decide) ?_
      refine lv_icmp_gt (tgt := 124) X.1 X.2.1 dX10_bestSlip_36 (by decide) (fun c36 => ?_) (fun c36 => ?_)
      · replace hf := k_ifP hf c36
        refine lv_iload_n X.1 X.2.1 dX10_bestSlip_124 rfl (lv_at hl 2 rfl) ?_
        exact absurd hf k_ninr
      · replace hf := k_ifN hf c36
        refine lv_iload X.1 X.2.1 dX10_bestSlip_39 (lv_at hl 4 rfl) ?_
        refine lv_iconst (v := 2) X.1 X.2.1 dX10_bestSlip_41 (by decide) ?_
        refine lv_irem X.1 X.2.1 dX10_bestSlip_42 (by decide) ?_
        refine lv_if_ne (tgt := 53) X.1 X.2.1 dX10_bestSlip_43 (by decide) (fun c43 => ?_) (fun c43 => ?_)
        · replace hf := k_ifN hf c43
          refine lv_iload X.1 X.2.1 dX10_bestSlip_53 (lv_at hl 4 rfl) ?_
          refine lv_iconst (v := 1) X.1 X.2.1 dX10_bestSlip_55 (by decide) ?_
          refine lv_iadd X.1 X.2.1 dX10_bestSlip_56 ?_
          refine lv_ineg X.1 X.2.1 dX10_bestSlip_57 ?_
          refine lv_iconst (v := 2) X.1 X.2.1 dX10_bestSlip_58 (by decide) ?_
          refine lv_idiv X.1 X.2.1 dX10_bestSlip_59 (by decide) ?_
          exact J60 _ _ _ u a1 a2 a3 a4 ((-(a4 + 1)) / 2) hU hS (lv_sub hl [0, 1, 2, 3, 4] rfl) hf
        · replace hf := k_ifP hf c43
          refine lv_iload X.1 X.2.1 dX10_bestSlip_46 (lv_at hl 4 rfl) ?_
          refine lv_iconst (v := 2) X.1 X.2.1 dX10_bestSlip_48 (by decide) ?_
          refine lv_idiv X.1 X.2.1 dX10_bestSlip_49 (by decide) ?_
          refine lv_goto (tgt := 60) X.1 X.2.1 dX10_bestSlip_50 (by decide) ?_
          exact J60 _ _ _ u a1 a2 a3 a4 (a4 / 2) hU hS (lv_sub hl [0, 1, 2, 3, 4] rfl) hf
  unfold f_X10_bestSlip at hf
  refine lv_aload_n X.1 X.2.1 dX10_bestSlip_0 rfl (lv_at hl 0 rfl) ?_
  refine k_get (v := .ref (ad 10 0)) X hU sh_0_0 fl_X10_33 rfl dX10_bestSlip_1 ?_
  refine k_get (v := .ref (ad 10 9)) X hU (sW_0 k_isW_10) fl_X10_201 rfl dX10_bestSlip_4 ?_
  refine lv_iload_n X.1 X.2.1 dX10_bestSlip_7 rfl (lv_at hl 1 rfl) ?_
  obtain ⟨r8, hr8, hf⟩ := k_bdE hf
  refine k_backi X hS (k_runV (As := [.int a1]) (rest := []) X hS hU (sW_9 k_isW_10) (by decide) rfl vl_X10_292 (c_X8_has X.2.2.2.2.2.2.1 k_isW_10 rfl hr8) rfl rfl rfl hl.1 ⟨Nat.le_of_ble_eq_true rfl, Nat.le_of_ble_eq_true rfl⟩ (Nat.le_of_ble_eq_true rfl) dX10_bestSlip_8 ⟨Nat.zero_le _, Nat.zero_le _⟩) (fun H locs hU hS => ?_)
  refine lv_if_ne (tgt := 25) X.1 X.2.1 dX10_bestSlip_11 (by decide) (fun c11 => ?_) (fun c11 => ?_)
  · replace hf := k_ifN hf c11
    refine lv_iconst (v := (-1)) X.1 X.2.1 dX10_bestSlip_25 (by decide) ?_
    refine lv_istore_n (lv' := [(2, .int (-1)), (0, .ref (ad 0 0)), (1, .int a1)]) X.1 X.2.1 dX10_bestSlip_26 rfl hl (by decide) rfl (fun ls hl => ?_)
    refine lv_iconst (v := 0) X.1 X.2.1 dX10_bestSlip_27 (by decide) ?_
    refine lv_istore_n (lv' := [(3, .int 0), (2, .int (-1)), (0, .ref (ad 0 0)), (1, .int a1)]) X.1 X.2.1 dX10_bestSlip_28 rfl hl (by decide) rfl (fun ls hl => ?_)
    refine lv_iconst (v := 0) X.1 X.2.1 dX10_bestSlip_29 (by decide) ?_
    refine lv_istore (lv' := [(4, .int 0), (3, .int 0), (2, .int (-1)), (0, .ref (ad 0 0)), (1, .int a1)]) X.1 X.2.1 dX10_bestSlip_30 hl (by decide) rfl (fun ls hl => ?_)
    exact L32 k_N _ _ _ u a1 (-1) 0 0 hU hS (lv_sub hl [3, 4, 2, 1, 0] rfl) hf
  · replace hf := k_ifP hf c11
    obtain ⟨hz1, hz2⟩ := k_injr hf
    subst hz1
    subst hz2
    exact k_thrSW X hlT hU hS (i := 40) rfl xw_238 (by decide +kernel) rfl hl.1 dX10_bestSlip_14 dX10_bestSlip_17 dX10_bestSlip_18 dX10_bestSlip_21 dX10_bestSlip_24 hex (Nat.le_of_ble_eq_true rfl) (Nat.le_of_ble_eq_true rfl) ⟨Nat.le_of_ble_eq_true rfl, Nat.le_of_ble_eq_true rfl⟩ hlk ⟨Nat.le_of_ble_eq_true rfl, Nat.le_of_ble_eq_true rfl⟩
def rm_X8_allWith : Room := { frames := 1, cells := 0, slots := 0, locals := 22 }
set_option maxRecDepth 100000 in
set_option maxHeartbeats 4000000 in
theorem c_X8_allWith {l : Launch} {D : va_G} {G : Nat → ClassId} {ad : Nat → Nat → Nat} {u : k_U} (hI : k_ok ad) {k : Nat} (hk : k_isW k) {w : k_M} (hw : u k = w) {a1 : Int32} {sz : Nat} {r : Int32} (hf : f_X8_allWith w a1 = some r) : Met l yX8_allWith (.code yX8_allWith cX8_allWith 4 (some .int) :: lw_g) rm_X8_allWith (k_Pre D G ad u sz [.ref (ad k 9), .int a1]) (k_Qi D G ad u r sz) 0 0 (k_A ad sz) := by
  refine k_ofW (by decide +kernel) hI (Nat.le_of_ble_eq_true rfl) ?_
  intro p e s m args below meth c X hr hlk hU hS ls hl
  have hl : lv_has ls 4 [(0, .ref (ad k 9)), (1, .int a1)] := hl
  have hU : k_Uv D G ad (k_uc u k w) s.heap := by rw [← hw, k_uc_id]; exact hU
  have L4 : ∀ (n4 : Nat) (H : Heap) (locs : List Loc) (ls : Array Slot) (a1 : Int32) (a2 : Int32) (a3 : Int32), k_Uv D G ad (k_uc u k w) H → va_S (k_A ad sz) s.heap H locs → lv_has ls 4 [(0, .ref (ad k 9)), (1, .int a1), (2, .int a2), (3, .int a3)] → f_X8_allWith_4 n4 w a1 a2 a3 = some r → W p l e rm_X8_allWith s m args below meth c H locs 0 0 (MQ below (k_Qi D G ad u r sz) args s 0 0 (k_A ad sz)) (F0 m 4 ls []) := by
    intro n4
    induction n4 with
    | zero =>
      intro H locs ls a1 a2 a3 hU hS hl hf
      cases (show none = some r from hf)
    | succ n4 ih4 =>
      have J27 : ∀ (H : Heap) (locs : List Loc) (ls : Array Slot) (a1 : Int32) (a2 : Int32) (a3 : Int32), k_Uv D G ad (k_uc u k w) H → va_S (k_A ad sz) s.heap H locs → lv_has ls 4 [(0, .ref (ad k 9)), (1, .int a1), (2, .int a2), (3, .int a3)] → f_X8_allWith_27 (f_X8_allWith_4 n4) w a1 a2 a3 = some r → W p l e rm_X8_allWith s m args below meth c H locs 0 0 (MQ below (k_Qi D G ad u r sz) args s 0 0 (k_A ad sz)) (F0 m 27 ls []) := by
        intro H locs ls a1 a2 a3 hU hS hl hf
        unfold f_X8_allWith_27 at hf
        obtain ⟨x27, e27, hf⟩ := k_ltE hf
        refine lv_iinc (v := x27) (lv' := [(3, .int x27), (0, .ref (ad k 9)), (1, .int a1), (2, .int a2)]) X.1 X.2.1 dX8_allWith_27 hl (k := 3) rfl (by rw [e27]; rfl) (by decide) rfl (fun ls hl => ?_)
        refine lv_goto (tgt := 4) X.1 X.2.1 dX8_allWith_30 (by decide) ?_
        exact ih4 _ _ _ a1 a2 x27 hU hS (lv_sub hl [1, 2, 3, 0] rfl) hf
      intro H locs ls a1 a2 a3 hU hS hl hf
      replace hf : f_X8_allWith_4_b (f_X8_allWith_4 n4) w a1 a2 a3 = some r := hf
      unfold f_X8_allWith_4_b at hf
      refine lv_iload_n X.1 X.2.1 dX8_allWith_4 rfl (lv_at hl 3 rfl) ?_
      refine lv_aload_n X.1 X.2.1 dX8_allWith_5 rfl (lv_at hl 0 rfl) ?_
      refine k_getw (v := .int (w 9 3)) X hU (sW_9 hk) fl_X8_27 rfl dX8_allWith_6 ?_
      refine lv_icmp_ge (tgt := 33) X.1 X.2.1 dX8_allWith_9 (by decide) (fun c9 => ?_) (fun c9 => ?_)
      · replace hf := k_ifP hf c9
        refine lv_iload_n X.1 X.2.1 dX8_allWith_33 rfl (lv_at hl 2 rfl) ?_
        rw [← hw, k_uc_id] at hU
        have hz := Option.some.inj hf
        subst hz
        exact k_iret (v := a2) X hU hS hr hlk rfl rfl dX8_allWith_34
      · replace hf := k_ifN hf c9
        refine lv_aload_n X.1 X.2.1 dX8_allWith_12 rfl (lv_at hl 0 rfl) ?_
        refine lv_iload_n X.1 X.2.1 dX8_allWith_13 rfl (lv_at hl 3 rfl) ?_
        refine lv_iload_n X.1 X.2.1 dX8_allWith_14 rfl (lv_at hl 1 rfl) ?_
        obtain ⟨r15, hr15, hf⟩ := k_bdE hf
        refine k_backi X hS (k_runV (As := [.int a3, .int a1]) (rest := []) X hS hU (sW_9 hk) (by decide) rfl vl_X8_31 (c_X8_distanceTo X.2.2.2.2.2.2.1 hk (k_uc_s _ _ _) hr15) rfl rfl rfl hl.1 ⟨Nat.le_of_ble_eq_true rfl, Nat.le_of_ble_eq_true rfl⟩ (Nat.le_of_ble_eq_true rfl) dX8_allWith_15 ⟨Nat.zero_le _, Nat.zero_le _⟩) (fun H locs hU hS => ?_)
        refine lv_if_ne (tgt := 27) X.1 X.2.1 dX8_allWith_18 (by decide) (fun c18 => ?_) (fun c18 => ?_)
        · replace hf := k_ifN hf c18
          exact J27 _ _ _ a1 a2 a3 hU hS (lv_sub hl [0, 1, 2, 3] rfl) hf
        · replace hf := k_ifP hf c18
          refine lv_iload_n X.1 X.2.1 dX8_allWith_21 rfl (lv_at hl 2 rfl) ?_
          refine lv_iconst (v := 1) X.1 X.2.1 dX8_allWith_22 (by decide) ?_
          refine lv_iload_n X.1 X.2.1 dX8_allWith_23 rfl (lv_at hl 3 rfl) ?_
          refine lv_ishl X.1 X.2.1 dX8_allWith_24 ?_
          refine lv_ior X.1 X.2.1 dX8_allWith_25 ?_
          obtain ⟨x26, e26, hf⟩ := k_ltE hf
          refine k_nmi e26 ?_
          refine lv_istore_n (lv' := [(2, .int x26), (0, .ref (ad k 9)), (1, .int a1), (3, .int a3)]) X.1 X.2.1 dX8_allWith_26 rfl hl (by decide) rfl (fun ls hl => ?_)
          exact J27 _ _ _ a1 x26 a3 hU hS (lv_sub hl [1, 2, 0, 3] rfl) hf
  unfold f_X8_allWith at hf
  refine lv_iconst (v := 0) X.1 X.2.1 dX8_allWith_0 (by decide) ?_
  refine lv_istore_n (lv' := [(2, .int 0), (0, .ref (ad k 9)), (1, .int a1)]) X.1 X.2.1 dX8_allWith_1 rfl hl (by decide) rfl (fun ls hl => ?_)
  refine lv_iconst (v := 0) X.1 X.2.1 dX8_allWith_2 (by decide) ?_
  refine lv_istore_n (lv' := [(3, .int 0), (2, .int 0), (0, .ref (ad k 9)), (1, .int a1)]) X.1 X.2.1 dX8_allWith_3 rfl hl (by decide) rfl (fun ls hl => ?_)
  exact L4 k_N _ _ _ a1 0 0 hU hS (lv_sub hl [2, 3, 1, 0] rfl) hf
def rm_X10_reachable : Room := { frames := 6, cells := 0, slots := 0, locals := 157 }
set_option maxRecDepth 100000 in
set_option maxHeartbeats 4000000 in
theorem c_X10_reachable {l : Launch} {D : va_G} {G : Nat → ClassId} {ad : Nat → Nat → Nat} {u : k_U} (hI : k_ok ad) {sz : Nat} {r : (k_U × Int32)} (hf : f_X10_reachable u = some r) : Met l yX10_reachable (.code yX10_reachable cX10_reachable 3 (some .int) :: lw_g) rm_X10_reachable (k_Pre D G ad u sz [.ref (ad 0 0)]) (k_Qi D G ad r.1 r.2 sz) 0 0 (k_A ad sz) := by
  refine k_ofW (by decide +kernel) hI (Nat.le_of_ble_eq_true rfl) ?_
  intro p e s m args below meth c X hr hlk hU hS ls hl
  have hl : lv_has ls 3 [(0, .ref (ad 0 0))] := hl
  have L5 : ∀ (n5 : Nat) (H : Heap) (locs : List Loc) (ls : Array Slot) (u : k_U) (a1 : Int32) (a2 : Int32), k_Uv D G ad u H → va_S (k_A ad sz) s.heap H locs → lv_has ls 3 [(0, .ref (ad 0 0)), (1, .int a1), (2, .int a2)] → f_X10_reachable_5 n5 u a1 a2 = some r → W p l e rm_X10_reachable s m args below meth c H locs 0 0 (MQ below (k_Qi D G ad r.1 r.2 sz) args s 0 0 (k_A ad sz)) (F0 m 5 ls []) := by
    intro n5
    induction n5 with
    | zero =>
      intro H locs ls u a1 a2 hU hS hl hf
      cases (show none = some r from hf)
    | succ n5 ih5 =>
      have J46 : ∀ (H : Heap) (locs : List Loc) (ls : Array Slot) (u : k_U) (a1 : Int32) (a2 : Int32), k_Uv D G ad u H → va_S (k_A ad sz) s.heap H locs → lv_has ls 3 [(0, .ref (ad 0 0)), (1, .int a1), (2, .int a2)] → f_X10_reachable_46 (f_X10_reachable_5 n5) u a1 a2 = some r → W p l e rm_X10_reachable s m args below meth c H locs 0 0 (MQ below (k_Qi D G ad r.1 r.2 sz) args s 0 0 (k_A ad sz)) (F0 m 46 ls []) := by
        intro H locs ls u a1 a2 hU hS hl hf
        unfold f_X10_reachable_46 at hf
        obtain ⟨x46, e46, hf⟩ := k_ltE hf
        refine lv_iinc (v := x46) (lv' := [(2, .int x46), (0, .ref (ad 0 0)), (1, .int a1)]) X.1 X.2.1 dX10_reachable_46 hl (k := 2) rfl (by rw [e46]; rfl) (by decide) rfl (fun ls hl => ?_)
        refine lv_goto (tgt := 5) X.1 X.2.1 dX10_reachable_49 (by decide) ?_
        exact ih5 _ _ _ u a1 x46 hU hS (lv_sub hl [1, 2, 0] rfl) hf
      intro H locs ls u a1 a2 hU hS hl hf
      replace hf : f_X10_reachable_5_b (f_X10_reachable_5 n5) u a1 a2 = some r := hf
      unfold f_X10_reachable_5_b at hf
      refine lv_iload_n X.1 X.2.1 dX10_reachable_5 rfl (lv_at hl 2 rfl) ?_
      refine lv_bipush (v := 9) X.1 X.2.1 dX10_reachable_6 (by decide) ?_
      refine lv_icmp_gt (tgt := 52) X.1 X.2.1 dX10_reachable_8 (by decide) (fun c8 => ?_) (fun c8 => ?_)
      · replace hf := k_ifP hf c8
        refine lv_iload_n X.1 X.2.1 dX10_reachable_52 rfl (lv_at hl 1 rfl) ?_
        have hz := Option.some.inj hf
        subst hz
        exact k_iret (v := a1) X hU hS hr hlk rfl rfl dX10_reachable_53
      · replace hf := k_ifN hf c8
        refine lv_aload_n X.1 X.2.1 dX10_reachable_11 rfl (lv_at hl 0 rfl) ?_
        refine lv_iload_n X.1 X.2.1 dX10_reachable_12 rfl (lv_at hl 2 rfl) ?_
        obtain ⟨r13, hr13, hf⟩ := k_bdE hf
        refine k_backv X hS (k_runV (As := [.int a2]) (rest := []) X hS hU sh_0_0 (by decide) rfl vl_X10_370 (c_X10_foretellLandingWithSlip X.2.2.2.2.2.2.1 hr13) rfl rfl rfl hl.1 ⟨Nat.le_of_ble_eq_true rfl, Nat.le_of_ble_eq_true rfl⟩ (Nat.le_of_ble_eq_true rfl) dX10_reachable_13 ⟨Nat.zero_le _, Nat.zero_le _⟩) (fun H locs hU hS => ?_)
        refine lv_aload_n X.1 X.2.1 dX10_reachable_16 rfl (lv_at hl 0 rfl) ?_
        refine k_get (v := .ref (ad 11 0)) X hU sh_0_0 fl_X10_37 rfl dX10_reachable_17 ?_
        obtain ⟨r20, hr20, hf⟩ := k_bdE hf
        refine k_backi X hS (k_runV (As := []) (rest := []) X hS hU (sW_0 k_isW_11) (by decide) rfl vl_X10_350 (c_X9_hasLanded X.2.2.2.2.2.2.1 k_isW_11 rfl hr20) rfl rfl rfl hl.1 ⟨Nat.le_of_ble_eq_true rfl, Nat.le_of_ble_eq_true rfl⟩ (Nat.le_of_ble_eq_true rfl) dX10_reachable_20 ⟨Nat.zero_le _, Nat.zero_le _⟩) (fun H locs hU hS => ?_)
        refine lv_if_eq (tgt := 46) X.1 X.2.1 dX10_reachable_23 (by decide) (fun c23 => ?_) (fun c23 => ?_)
        · replace hf := k_ifP hf c23
          exact J46 _ _ _ r13 a1 a2 hU hS (lv_sub hl [0, 1, 2] rfl) hf
        · replace hf := k_ifN hf c23
          refine lv_iload_n X.1 X.2.1 dX10_reachable_26 rfl (lv_at hl 1 rfl) ?_
          refine lv_aload_n X.1 X.2.1 dX10_reachable_27 rfl (lv_at hl 0 rfl) ?_
          refine k_get (v := .ref (ad 10 0)) X hU sh_0_0 fl_X10_33 rfl dX10_reachable_28 ?_
          refine k_get (v := .ref (ad 10 9)) X hU (sW_0 k_isW_10) fl_X10_201 rfl dX10_reachable_31 ?_
          refine lv_aload_n X.1 X.2.1 dX10_reachable_34 rfl (lv_at hl 0 rfl) ?_
          refine k_get (v := .ref (ad 11 0)) X hU sh_0_0 fl_X10_37 rfl dX10_reachable_35 ?_
          refine k_get (v := .int (r13 11 0 2)) X hU (sW_0 k_isW_11) fl_X10_159 rfl dX10_reachable_38 ?_
          obtain ⟨r41, hr41, hf⟩ := k_bdE hf
          refine k_backi X hS (k_runV (As := [.int (r13 11 0 2)]) (rest := [.int a1]) X hS hU (sW_9 k_isW_10) (by decide) rfl vl_X10_376 (c_X8_allWith X.2.2.2.2.2.2.1 k_isW_10 rfl hr41) rfl rfl rfl hl.1 ⟨Nat.le_of_ble_eq_true rfl, Nat.le_of_ble_eq_true rfl⟩ (Nat.le_of_ble_eq_true rfl) dX10_reachable_41 ⟨Nat.zero_le _, Nat.zero_le _⟩) (fun H locs hU hS => ?_)
          refine lv_ior X.1 X.2.1 dX10_reachable_44 ?_
          obtain ⟨x45, e45, hf⟩ := k_ltE hf
          refine k_nmi e45 ?_
          refine lv_istore_n (lv' := [(1, .int x45), (0, .ref (ad 0 0)), (2, .int a2)]) X.1 X.2.1 dX10_reachable_45 rfl hl (by decide) rfl (fun ls hl => ?_)
          exact J46 _ _ _ r13 x45 a2 hU hS (lv_sub hl [1, 0, 2] rfl) hf
  unfold f_X10_reachable at hf
  refine lv_iconst (v := 0) X.1 X.2.1 dX10_reachable_0 (by decide) ?_
  refine lv_istore_n (lv' := [(1, .int 0), (0, .ref (ad 0 0))]) X.1 X.2.1 dX10_reachable_1 rfl hl (by decide) rfl (fun ls hl => ?_)
  refine lv_bipush (v := (-9)) X.1 X.2.1 dX10_reachable_2 (by decide) ?_
  refine lv_istore_n (lv' := [(2, .int (-9)), (1, .int 0), (0, .ref (ad 0 0))]) X.1 X.2.1 dX10_reachable_4 rfl hl (by decide) rfl (fun ls hl => ?_)
  exact L5 k_N _ _ _ u 0 (-9) hU hS (lv_sub hl [2, 1, 0] rfl) hf
def rm_X2_hasPlaceFor : Room := { frames := 1, cells := 0, slots := 0, locals := 22 }
set_option maxRecDepth 100000 in
set_option maxHeartbeats 4000000 in
theorem c_X2_hasPlaceFor {l : Launch} {D : va_G} {G : Nat → ClassId} {ad : Nat → Nat → Nat} {u : k_U} (hI : k_ok ad) {k : Nat} (hk : k_isW k) {w : k_M} (hw : u k = w) {tc : Nat} {a1 : Int32} (hc : k_isT tc) {sz : Nat} {r : Int32} (hf : f_X2_hasPlaceFor w tc a1 = some r) : Met l yX2_hasPlaceFor (.code yX2_hasPlaceFor cX2_hasPlaceFor 2 (some .boolean) :: lw_g) rm_X2_hasPlaceFor (k_Pre D G ad u sz [.ref (ad k tc), .int a1]) (k_Qi D G ad u r sz) 0 0 (k_A ad sz) := by
  refine k_ofW (by decide +kernel) hI (Nat.le_of_ble_eq_true rfl) ?_
  intro p e s m args below meth c X hr hlk hU hS ls hl
  have hl : lv_has ls 2 [(0, .ref (ad k tc)), (1, .int a1)] := hl
  have hU : k_Uv D G ad (k_uc u k w) s.heap := by rw [← hw, k_uc_id]; exact hU
  unfold f_X2_hasPlaceFor at hf
  refine lv_aload_n X.1 X.2.1 dX2_hasPlaceFor_0 rfl (lv_at hl 0 rfl) ?_
  refine k_getw (v := .int (w tc 2)) X hU (k_sT hk hc) fl_X2_24 rfl dX2_hasPlaceFor_1 ?_
  refine lv_bipush (v := 8) X.1 X.2.1 dX2_hasPlaceFor_4 (by decide) ?_
  refine lv_icmp_lt (tgt := 18) X.1 X.2.1 dX2_hasPlaceFor_6 (by decide) (fun c6 => ?_) (fun c6 => ?_)
  · replace hf := k_ifP hf c6
    refine lv_iconst (v := 1) X.1 X.2.1 dX2_hasPlaceFor_18 (by decide) ?_
    refine lv_goto (tgt := 23) X.1 X.2.1 dX2_hasPlaceFor_19 (by decide) ?_
    rw [← hw, k_uc_id] at hU
    have hz := Option.some.inj hf
    subst hz
    exact k_iret (v := 1) X hU hS hr hlk rfl rfl dX2_hasPlaceFor_23
  · replace hf := k_ifN hf c6
    refine lv_aload_n X.1 X.2.1 dX2_hasPlaceFor_9 rfl (lv_at hl 0 rfl) ?_
    refine lv_iload_n X.1 X.2.1 dX2_hasPlaceFor_10 rfl (lv_at hl 1 rfl) ?_
    obtain ⟨r11, hr11, hf⟩ := k_bdE hf
    refine k_backi X hS (k_runV (As := [.int a1]) (rest := []) X hS hU (k_sT hk hc) (by decide) rfl vl_X2_28 (c_X2_placeOf X.2.2.2.2.2.2.1 hk (k_uc_s _ _ _) hc hr11) rfl rfl rfl hl.1 ⟨Nat.le_of_ble_eq_true rfl, Nat.le_of_ble_eq_true rfl⟩ (Nat.le_of_ble_eq_true rfl) dX2_hasPlaceFor_11 ⟨Nat.zero_le _, Nat.zero_le _⟩) (fun H locs hU hS => ?_)
    refine lv_iconst (v := (-1)) X.1 X.2.1 dX2_hasPlaceFor_14 (by decide) ?_
    refine lv_icmp_eq (tgt := 22) X.1 X.2.1 dX2_hasPlaceFor_15 (by decide) (fun c15 => ?_) (fun c15 => ?_)
    · replace hf := k_ifP hf c15
      refine lv_iconst (v := 0) X.1 X.2.1 dX2_hasPlaceFor_22 (by decide) ?_
      rw [← hw, k_uc_id] at hU
      have hz := Option.some.inj hf
      subst hz
      exact k_iret (v := 0) X hU hS hr hlk rfl rfl dX2_hasPlaceFor_23
    · replace hf := k_ifN hf c15
      refine lv_iconst (v := 1) X.1 X.2.1 dX2_hasPlaceFor_18 (by decide) ?_
      refine lv_goto (tgt := 23) X.1 X.2.1 dX2_hasPlaceFor_19 (by decide) ?_
      rw [← hw, k_uc_id] at hU
      have hz := Option.some.inj hf
      subst hz
      exact k_iret (v := 1) X hU hS hr hlk rfl rfl dX2_hasPlaceFor_23
def rm_X10_setTarget : Room := { frames := 5, cells := 0, slots := 0, locals := 108 }
set_option maxRecDepth 100000 in
set_option maxHeartbeats 4000000 in
theorem c_X10_setTarget {l : Launch} {D : va_G} {G : Nat → ClassId} {ad : Nat → Nat → Nat} {u : k_U} (hI : k_ok ad) {a1 : Int32} {a2 : Int32} {sz : Nat} {r1 : k_U} {r2 : Int32} (hf : f_X10_setTarget u a1 a2 = some (r1, Sum.inl r2)) : Met l yX10_setTarget (.code yX10_setTarget cX10_setTarget 3 (some .int) :: lw_g) rm_X10_setTarget (k_Pre D G ad u sz [.ref (ad 0 0), .int a1, .int a2]) (k_Qi D G ad r1 r2 sz) 0 0 (k_A ad sz) := by
  refine k_ofW (by decide +kernel) hI (Nat.le_of_ble_eq_true rfl) ?_
  intro p e s m args below meth c X hr hlk hU hS ls hl
  have hl : lv_has ls 3 [(0, .ref (ad 0 0)), (1, .int a1), (2, .int a2)] := hl
  have J35 : ∀ (H : Heap) (locs : List Loc) (ls : Array Slot) (u : k_U), k_Uv D G ad u H → va_S (k_A ad sz) s.heap H locs → lv_has ls 3 [] → f_X10_setTarget_35 u a1 a2 = some (r1, Sum.inl r2) → W p l e rm_X10_setTarget s m args below meth c H locs 0 0 (MQ below (k_Qi D G ad r1 r2 sz) args s 0 0 (k_A ad sz)) (F0 m 35 ls []) := by
    intro H locs ls u hU hS hl hf
    unfold f_X10_setTarget_35 at hf
    exact absurd hf k_ninl
  have J12 : ∀ (H : Heap) (locs : List Loc) (ls : Array Slot) (u : k_U), k_Uv D G ad u H → va_S (k_A ad sz) s.heap H locs → lv_has ls 3 [] → f_X10_setTarget_12 u a1 a2 = some (r1, Sum.inl r2) → W p l e rm_X10_setTarget s m args below meth c H locs 0 0 (MQ below (k_Qi D G ad r1 r2 sz) args s 0 0 (k_A ad sz)) (F0 m 12 ls []) := by
    intro H locs ls u hU hS hl hf
    unfold f_X10_setTarget_12 at hf
    exact absurd hf k_ninl
  unfold f_X10_setTarget at hf
  refine lv_iload_n X.1 X.2.1 dX10_setTarget_0 rfl (lv_at hl 1 rfl) ?_
  refine lv_iconst (v := 1) X.1 X.2.1 dX10_setTarget_1 (by decide) ?_
  refine lv_icmp_lt (tgt := 12) X.1 X.2.1 dX10_setTarget_2 (by decide) (fun c2 => ?_) (fun c2 => ?_)
  · replace hf := k_ifP hf c2
    exact J12 _ _ _ u hU hS (lv_sub hl [] rfl) hf
  · replace hf := k_ifN hf c2
    refine lv_iload_n X.1 X.2.1 dX10_setTarget_5 rfl (lv_at hl 1 rfl) ?_
    refine lv_sipush (v := 30000) X.1 X.2.1 dX10_setTarget_6 (by decide) ?_
    refine lv_icmp_le (tgt := 23) X.1 X.2.1 dX10_setTarget_9 (by decide) (fun c9 => ?_) (fun c9 => ?_)
    · replace hf := k_ifP hf c9
      refine lv_iload_n X.1 X.2.1 dX10_setTarget_23 rfl (lv_at hl 2 rfl) ?_
      refine lv_iconst (v := 1) X.1 X.2.1 dX10_setTarget_24 (by decide) ?_
      refine lv_icmp_lt (tgt := 35) X.1 X.2.1 dX10_setTarget_25 (by decide) (fun c25 => ?_) (fun c25 => ?_)
      · replace hf := k_ifP hf c25
        exact J35 _ _ _ u hU hS (lv_sub hl [] rfl) hf
      · replace hf := k_ifN hf c25
        refine lv_iload_n X.1 X.2.1 dX10_setTarget_28 rfl (lv_at hl 2 rfl) ?_
        refine lv_sipush (v := 400) X.1 X.2.1 dX10_setTarget_29 (by decide) ?_
        refine lv_icmp_le (tgt := 46) X.1 X.2.1 dX10_setTarget_32 (by decide) (fun c32 => ?_) (fun c32 => ?_)
        · replace hf := k_ifP hf c32
          refine lv_aload_n X.1 X.2.1 dX10_setTarget_46 rfl (lv_at hl 0 rfl) ?_
          refine k_get (v := .ref (ad 10 0)) X hU sh_0_0 fl_X10_33 rfl dX10_setTarget_47 ?_
          refine k_get (v := .ref (ad 10 3)) X hU (sW_0 k_isW_10) fl_X10_191 rfl dX10_setTarget_50 ?_
          refine lv_iload_n X.1 X.2.1 dX10_setTarget_53 rfl (lv_at hl 1 rfl) ?_
          obtain ⟨r54, hr54, hf⟩ := k_bdE hf
          refine k_backi X hS (k_runV (As := [.int a1]) (rest := []) X hS hU (k_sT k_isW_10 k_isT_3) (by decide) rfl vl_X10_408 (c_X2_hasPlaceFor X.2.2.2.2.2.2.1 k_isW_10 rfl k_isT_3 hr54) rfl rfl rfl hl.1 ⟨Nat.le_of_ble_eq_true rfl, Nat.le_of_ble_eq_true rfl⟩ (Nat.le_of_ble_eq_true rfl) dX10_setTarget_54 ⟨Nat.zero_le _, Nat.zero_le _⟩) (fun H locs hU hS => ?_)
          refine lv_if_ne (tgt := 67) X.1 X.2.1 dX10_setTarget_57 (by decide) (fun c57 => ?_) (fun c57 => ?_)
          · replace hf := k_ifN hf c57
            refine lv_aload_n X.1 X.2.1 dX10_setTarget_67 rfl (lv_at hl 0 rfl) ?_
            obtain ⟨r68, hr68, hf⟩ := k_bdE hf
            refine k_backv X hS (k_runV (As := []) (rest := []) X hS hU sh_0_0 (by decide) rfl vl_X10_384 (c_X10_beginAct X.2.2.2.2.2.2.1 hr68) rfl rfl rfl hl.1 ⟨Nat.le_of_ble_eq_true rfl, Nat.le_of_ble_eq_true rfl⟩ (Nat.le_of_ble_eq_true rfl) dX10_setTarget_68 ⟨Nat.zero_le _, Nat.zero_le _⟩) (fun H locs hU hS => ?_)
            refine lv_aload_n X.1 X.2.1 dX10_setTarget_71 rfl (lv_at hl 0 rfl) ?_
            refine k_get (v := .ref (ad 10 0)) X hU sh_0_0 fl_X10_33 rfl dX10_setTarget_72 ?_
            refine k_get (v := .ref (ad 10 3)) X hU (sW_0 k_isW_10) fl_X10_191 rfl dX10_setTarget_75 ?_
            refine lv_iload_n X.1 X.2.1 dX10_setTarget_78 rfl (lv_at hl 1 rfl) ?_
            refine lv_iload_n X.1 X.2.1 dX10_setTarget_79 rfl (lv_at hl 2 rfl) ?_
            obtain ⟨r80, hr80, hf⟩ := k_bdE hf
            refine k_backv X hS (k_runV (As := [.int a1, .int a2]) (rest := []) X hS hU (k_sT k_isW_10 k_isT_3) (by decide) rfl vl_X10_411 (c_X2_put X.2.2.2.2.2.2.1 k_isW_10 rfl k_isT_3 hr80) rfl rfl rfl hl.1 ⟨Nat.le_of_ble_eq_true rfl, Nat.le_of_ble_eq_true rfl⟩ (Nat.le_of_ble_eq_true rfl) dX10_setTarget_80 ⟨Nat.zero_le _, Nat.zero_le _⟩) (fun H locs hU hS => ?_)
            obtain ⟨u80, e80, hf⟩ := k_ltE hf
            rw [← e80] at hU
            refine lv_aload_n X.1 X.2.1 dX10_setTarget_83 rfl (lv_at hl 0 rfl) ?_
            refine k_get (v := .ref (ad 10 0)) X hU sh_0_0 fl_X10_33 rfl dX10_setTarget_84 ?_
            refine k_get (v := .ref (ad 10 3)) X hU (sW_0 k_isW_10) fl_X10_191 rfl dX10_setTarget_87 ?_
            refine k_get (v := .int (u80 10 3 2)) X hU (k_sT k_isW_10 k_isT_3) fl_X10_195 rfl dX10_setTarget_90 ?_
            obtain ⟨hz1, hz2⟩ := k_injl hf
            subst hz1
            subst hz2
            exact k_iret (v := u80 10 3 2) X hU hS hr hlk rfl rfl dX10_setTarget_93
          · replace hf := k_ifP hf c57
            refine lv_aload_n X.1 X.2.1 dX10_setTarget_60 rfl (lv_at hl 0 rfl) ?_
            refine lv_bipush (v := 9) X.1 X.2.1 dX10_setTarget_61 (by decide) ?_
            obtain ⟨r63, hr63, hf⟩ := k_bdE hf
            refine k_backi X hS (k_runV (As := [.int 9]) (rest := []) X hS hU sh_0_0 (by decide) rfl vl_X10_381 (c_X10_refuse X.2.2.2.2.2.2.1 hr63) rfl rfl rfl hl.1 ⟨Nat.le_of_ble_eq_true rfl, Nat.le_of_ble_eq_true rfl⟩ (Nat.le_of_ble_eq_true rfl) dX10_setTarget_63 ⟨Nat.zero_le _, Nat.zero_le _⟩) (fun H locs hU hS => ?_)
            obtain ⟨hz1, hz2⟩ := k_injl hf
            subst hz1
            subst hz2
            exact k_iret (v := r63.2) X hU hS hr hlk rfl rfl dX10_setTarget_66
        · replace hf := k_ifN hf c32
          exact J35 _ _ _ u hU hS (lv_sub hl [] rfl) hf
    · replace hf := k_ifN hf c9
      exact J12 _ _ _ u hU hS (lv_sub hl [] rfl) hf
def rx_X10_setTarget : Room := { frames := 6, cells := 1, slots := 6, locals := 108 }
set_option maxRecDepth 100000 in
set_option maxHeartbeats 4000000 in
theorem x_X10_setTarget {l : Launch} {D : va_G} {G : Nat → ClassId} {ad : Nat → Nat → Nat} {u : k_U} (hI : k_ok ad) (hlT : l.stackTraces = false) {a1 : Int32} {a2 : Int32} {sz : Nat} {r1 : k_U} {j : Nat} (hf : f_X10_setTarget u a1 a2 = some (r1, Sum.inr j)) : vx_Met l yX10_setTarget (.code yX10_setTarget cX10_setTarget 3 (some .int) :: lw_g) rx_X10_setTarget (k_Pre D G ad u sz [.ref (ad 0 0), .int a1, .int a2]) (k_Qn ad sz) (k_XC D G ad r1 j sz) 1 6 (k_A ad sz) := by
  refine k_xofW (by decide +kernel) hI (Nat.le_of_ble_eq_true rfl) ?_
  intro p e s m args below meth c X hr hlk hex hU hS ls hl
  have hl : lv_has ls 3 [(0, .ref (ad 0 0)), (1, .int a1), (2, .int a2)] := hl
  have J35 : ∀ (H : Heap) (locs : List Loc) (ls : Array Slot) (u : k_U), k_Uv D G ad u H → va_S (k_A ad sz) s.heap H locs → lv_has ls 3 [] → f_X10_setTarget_35 u a1 a2 = some (r1, Sum.inr j) → W p l e rx_X10_setTarget s m args below meth c H locs 0 0 (vx_MQ below (k_Qn ad sz) (k_XC D G ad r1 j sz) args s 1 6 (k_A ad sz)) (F0 m 35 ls []) := by
    intro H locs ls u hU hS hl hf
    unfold f_X10_setTarget_35 at hf
    obtain ⟨hz1, hz2⟩ := k_injr hf
    subst hz1
    subst hz2
    exact k_thrSW X hlT hU hS (i := 50) rfl xw_180 (by decide +kernel) rfl hl.1 dX10_setTarget_35 dX10_setTarget_38 dX10_setTarget_39 dX10_setTarget_42 dX10_setTarget_45 hex (Nat.le_of_ble_eq_true rfl) (Nat.le_of_ble_eq_true rfl) ⟨Nat.le_of_ble_eq_true rfl, Nat.le_of_ble_eq_true rfl⟩ hlk ⟨Nat.le_of_ble_eq_true rfl, Nat.le_of_ble_eq_true rfl⟩
  have J12 : ∀ (H : Heap) (locs : List Loc) (ls : Array Slot) (u : k_U), k_Uv D G ad u H → va_S (k_A ad sz) s.heap H locs → lv_has ls 3 [] → f_X10_setTarget_12 u a1 a2 = some (r1, Sum.inr j) → W p l e rx_X10_setTarget s m args below meth c H locs 0 0 (vx_MQ below (k_Qn ad sz) (k_XC D G ad r1 j sz) args s 1 6 (k_A ad sz)) (F0 m 12 ls []) := by
    intro H locs ls u hU hS hl hf
    unfold f_X10_setTarget_12 at hf
    obtain ⟨hz1, hz2⟩ := k_injr hf
    subst hz1
    subst hz2
    exact k_thrSW X hlT hU hS (i := 49) rfl xw_180 (by decide +kernel) rfl hl.1 dX10_setTarget_12 dX10_setTarget_15 dX10_setTarget_16 dX10_setTarget_19 dX10_setTarget_22 hex (Nat.le_of_ble_eq_true rfl) (Nat.le_of_ble_eq_true rfl) ⟨Nat.le_of_ble_eq_true rfl, Nat.le_of_ble_eq_true rfl⟩ hlk ⟨Nat.le_of_ble_eq_true rfl, Nat.le_of_ble_eq_true rfl⟩
  unfold f_X10_setTarget at hf
  refine lv_iload_n X.1 X.2.1 dX10_setTarget_0 rfl (lv_at hl 1 rfl) ?_
  refine lv_iconst (v := 1) X.1 X.2.1 dX10_setTarget_1 (by decide) ?_
  refine lv_icmp_lt (tgt := 12) X.1 X.2.1 dX10_setTarget_2 (by decide) (fun c2 => ?_) (fun c2 => ?_)
  · replace hf := k_ifP hf c2
    exact J12 _ _ _ u hU hS (lv_sub hl [] rfl) hf
  · replace hf := k_ifN hf c2
    refine lv_iload_n X.1 X.2.1 dX10_setTarget_5 rfl (lv_at hl 1 rfl) ?_
    refine lv_sipush (v := 30000) X.1 X.2.1 dX10_setTarget_6 (by decide) ?_
    refine lv_icmp_le (tgt := 23) X.1 X.2.1 dX10_setTarget_9 (by decide) (fun c9 => ?_) (fun c9 => ?_)
    · replace hf := k_ifP hf c9
      refine lv_iload_n X.1 X.2.1 dX10_setTarget_23 rfl (lv_at hl 2 rfl) ?_
      refine lv_iconst (v := 1) X.1 X.2.1 dX10_setTarget_24 (by decide) ?_
      refine lv_icmp_lt (tgt := 35) X.1 X.2.1 dX10_setTarget_25 (by decide) (fun c25 => ?_) (fun c25 => ?_)
      · replace hf := k_ifP hf c25
        exact J35 _ _ _ u hU hS (lv_sub hl [] rfl) hf
      · replace hf := k_ifN hf c25
        refine lv_iload_n X.1 X.2.1 dX10_setTarget_28 rfl (lv_at hl 2 rfl) ?_
        refine lv_sipush (v := 400) X.1 X.2.1 dX10_setTarget_29 (by decide) ?_
        refine lv_icmp_le (tgt := 46) X.1 X.2.1 dX10_setTarget_32 (by decide) (fun c32 => ?_) (fun c32 => ?_)
        · replace hf := k_ifP hf c32
          refine lv_aload_n X.1 X.2.1 dX10_setTarget_46 rfl (lv_at hl 0 rfl) ?_
          refine k_get (v := .ref (ad 10 0)) X hU sh_0_0 fl_X10_33 rfl dX10_setTarget_47 ?_
          refine k_get (v := .ref (ad 10 3)) X hU (sW_0 k_isW_10) fl_X10_191 rfl dX10_setTarget_50 ?_
          refine lv_iload_n X.1 X.2.1 dX10_setTarget_53 rfl (lv_at hl 1 rfl) ?_
          obtain ⟨r54, hr54, hf⟩ := k_bdE hf
          refine k_backi X hS (k_runV (As := [.int a1]) (rest := []) X hS hU (k_sT k_isW_10 k_isT_3) (by decide) rfl vl_X10_408 (c_X2_hasPlaceFor X.2.2.2.2.2.2.1 k_isW_10 rfl k_isT_3 hr54) rfl rfl rfl hl.1 ⟨Nat.le_of_ble_eq_true rfl, Nat.le_of_ble_eq_true rfl⟩ (Nat.le_of_ble_eq_true rfl) dX10_setTarget_54 ⟨Nat.zero_le _, Nat.zero_le _⟩) (fun H locs hU hS => ?_)
          refine lv_if_ne (tgt := 67) X.1 X.2.1 dX10_setTarget_57 (by decide) (fun c57 => ?_) (fun c57 => ?_)
          · replace hf := k_ifN hf c57
            refine lv_aload_n X.1 X.2.1 dX10_setTarget_67 rfl (lv_at hl 0 rfl) ?_
            obtain ⟨r68, hr68, hf⟩ := k_bdE hf
            refine k_backv X hS (k_runV (As := []) (rest := []) X hS hU sh_0_0 (by decide) rfl vl_X10_384 (c_X10_beginAct X.2.2.2.2.2.2.1 hr68) rfl rfl rfl hl.1 ⟨Nat.le_of_ble_eq_true rfl, Nat.le_of_ble_eq_true rfl⟩ (Nat.le_of_ble_eq_true rfl) dX10_setTarget_68 ⟨Nat.zero_le _, Nat.zero_le _⟩) (fun H locs hU hS => ?_)
            refine lv_aload_n X.1 X.2.1 dX10_setTarget_71 rfl (lv_at hl 0 rfl) ?_
            refine k_get (v := .ref (ad 10 0)) X hU sh_0_0 fl_X10_33 rfl dX10_setTarget_72 ?_
            refine k_get (v := .ref (ad 10 3)) X hU (sW_0 k_isW_10) fl_X10_191 rfl dX10_setTarget_75 ?_
            refine lv_iload_n X.1 X.2.1 dX10_setTarget_78 rfl (lv_at hl 1 rfl) ?_
            refine lv_iload_n X.1 X.2.1 dX10_setTarget_79 rfl (lv_at hl 2 rfl) ?_
            obtain ⟨r80, hr80, hf⟩ := k_bdE hf
            refine k_backv X hS (k_runV (As := [.int a1, .int a2]) (rest := []) X hS hU (k_sT k_isW_10 k_isT_3) (by decide) rfl vl_X10_411 (c_X2_put X.2.2.2.2.2.2.1 k_isW_10 rfl k_isT_3 hr80) rfl rfl rfl hl.1 ⟨Nat.le_of_ble_eq_true rfl, Nat.le_of_ble_eq_true rfl⟩ (Nat.le_of_ble_eq_true rfl) dX10_setTarget_80 ⟨Nat.zero_le _, Nat.zero_le _⟩) (fun H locs hU hS => ?_)
            obtain ⟨u80, e80, hf⟩ := k_ltE hf
            rw [← e80] at hU
            refine lv_aload_n X.1 X.2.1 dX10_setTarget_83 rfl (lv_at hl 0 rfl) ?_
            refine k_get (v := .ref (ad 10 0)) X hU sh_0_0 fl_X10_33 rfl dX10_setTarget_84 ?_
            refine k_get (v := .ref (ad 10 3)) X hU (sW_0 k_isW_10) fl_X10_191 rfl dX10_setTarget_87 ?_
            refine k_get (v := .int (u80 10 3 2)) X hU (k_sT k_isW_10 k_isT_3) fl_X10_195 rfl dX10_setTarget_90 ?_
            exact absurd hf k_ninr
          · replace hf := k_ifP hf c57
            refine lv_aload_n X.1 X.2.1 dX10_setTarget_60 rfl (lv_at hl 0 rfl) ?_
            refine lv_bipush (v := 9) X.1 X.2.1 dX10_setTarget_61 (by decide) ?_
            obtain ⟨r63, hr63, hf⟩ := k_bdE hf
            refine k_backi X hS (k_runV (As := [.int 9]) (rest := []) X hS hU sh_0_0 (by decide) rfl vl_X10_381 (c_X10_refuse X.2.2.2.2.2.2.1 hr63) rfl rfl rfl hl.1 ⟨Nat.le_of_ble_eq_true rfl, Nat.le_of_ble_eq_true rfl⟩ (Nat.le_of_ble_eq_true rfl) dX10_setTarget_63 ⟨Nat.zero_le _, Nat.zero_le _⟩) (fun H locs hU hS => ?_)
            exact absurd hf k_ninr
        · replace hf := k_ifN hf c32
          exact J35 _ _ _ u hU hS (lv_sub hl [] rfl) hf
    · replace hf := k_ifN hf c9
      exact J12 _ _ _ u hU hS (lv_sub hl [] rfl) hf
def rm_X9_packedJammedLayers : Room := { frames := 0, cells := 0, slots := 0, locals := 0 }
set_option maxRecDepth 100000 in
set_option maxHeartbeats 4000000 in
theorem c_X9_packedJammedLayers {l : Launch} {D : va_G} {G : Nat → ClassId} {ad : Nat → Nat → Nat} {u : k_U} (hI : k_ok ad) {k : Nat} (hk : k_isW k) {w : k_M} (hw : u k = w) {sz : Nat} {r : Int32} (hf : f_X9_packedJammedLayers w = some r) : Met l yX9_packedJammedLayers (.code yX9_packedJammedLayers cX9_packedJammedLayers 3 (some .int) :: lw_g) rm_X9_packedJammedLayers (k_Pre D G ad u sz [.ref (ad k 0)]) (k_Qi D G ad u r sz) 0 0 (k_A ad sz) := by
  refine k_ofW (by decide +kernel) hI (Nat.le_of_ble_eq_true rfl) ?_
  intro p e s m args below meth c X hr hlk hU hS ls hl
  have hl : lv_has ls 3 [(0, .ref (ad k 0))] := hl
  have hU : k_Uv D G ad (k_uc u k w) s.heap := by rw [← hw, k_uc_id]; exact hU
  have L4 : ∀ (n4 : Nat) (H : Heap) (locs : List Loc) (ls : Array Slot) (a1 : Int32) (a2 : Int32), k_Uv D G ad (k_uc u k w) H → va_S (k_A ad sz) s.heap H locs → lv_has ls 3 [(0, .ref (ad k 0)), (1, .int a1), (2, .int a2)] → f_X9_packedJammedLayers_4 n4 w a1 a2 = some r → W p l e rm_X9_packedJammedLayers s m args below meth c H locs 0 0 (MQ below (k_Qi D G ad u r sz) args s 0 0 (k_A ad sz)) (F0 m 4 ls []) := by
    intro n4
    induction n4 with
    | zero =>
      intro H locs ls a1 a2 hU hS hl hf
      cases (show none = some r from hf)
    | succ n4 ih4 =>
      have J39 : ∀ (H : Heap) (locs : List Loc) (ls : Array Slot) (a1 : Int32) (a2 : Int32), k_Uv D G ad (k_uc u k w) H → va_S (k_A ad sz) s.heap H locs → lv_has ls 3 [(0, .ref (ad k 0)), (1, .int a1), (2, .int a2)] → f_X9_packedJammedLayers_39 (f_X9_packedJammedLayers_4 n4) w a1 a2 = some r → W p l e rm_X9_packedJammedLayers s m args below meth c H locs 0 0 (MQ below (k_Qi D G ad u r sz) args s 0 0 (k_A ad sz)) (F0 m 39 ls []) := by
        intro H locs ls a1 a2 hU hS hl hf
        unfold f_X9_packedJammedLayers_39 at hf
        obtain ⟨x39, e39, hf⟩ := k_ltE hf
        refine lv_iinc (v := x39) (lv' := [(2, .int x39), (0, .ref (ad k 0)), (1, .int a1)]) X.1 X.2.1 dX9_packedJammedLayers_39 hl (k := 2) rfl (by rw [e39]; rfl) (by decide) rfl (fun ls hl => ?_)
        refine lv_goto (tgt := 4) X.1 X.2.1 dX9_packedJammedLayers_42 (by decide) ?_
        exact ih4 _ _ _ a1 x39 hU hS (lv_sub hl [1, 2, 0] rfl) hf
      intro H locs ls a1 a2 hU hS hl hf
      replace hf : f_X9_packedJammedLayers_4_b (f_X9_packedJammedLayers_4 n4) w a1 a2 = some r := hf
      unfold f_X9_packedJammedLayers_4_b at hf
      refine lv_iload_n X.1 X.2.1 dX9_packedJammedLayers_4 rfl (lv_at hl 2 rfl) ?_
      refine lv_aload_n X.1 X.2.1 dX9_packedJammedLayers_5 rfl (lv_at hl 0 rfl) ?_
      refine k_getw (v := .int (w 0 10)) X hU (sW_0 hk) fl_X9_77 rfl dX9_packedJammedLayers_6 ?_
      refine lv_icmp_ge (tgt := 45) X.1 X.2.1 dX9_packedJammedLayers_9 (by decide) (fun c9 => ?_) (fun c9 => ?_)
      · replace hf := k_ifP hf c9
        refine lv_iload_n X.1 X.2.1 dX9_packedJammedLayers_45 rfl (lv_at hl 1 rfl) ?_
        rw [← hw, k_uc_id] at hU
        have hz := Option.some.inj hf
        subst hz
        exact k_iret (v := a1) X hU hS hr hlk rfl rfl dX9_packedJammedLayers_46
      · replace hf := k_ifN hf c9
        refine lv_aload_n X.1 X.2.1 dX9_packedJammedLayers_12 rfl (lv_at hl 0 rfl) ?_
        refine k_getw (v := .ref (ad k 1)) X hU (sW_0 hk) fl_X9_13 rfl dX9_packedJammedLayers_13 ?_
        refine lv_iload_n X.1 X.2.1 dX9_packedJammedLayers_16 rfl (lv_at hl 2 rfl) ?_
        obtain ⟨hi17, hf⟩ := k_ckE hf
        have hj17 := (k_vin (n := 8) hi17 (by decide))
        refine k_ald (C := "LayeredChute$Chute") (tag := 23) (t0 := 3) (z := (k, (15 + a2.toNatClampNeg))) X hU ⟨by decide, by decide⟩ rfl (sW_1 hk) hj17 (k_rWl_at hj17) dX9_packedJammedLayers_17 ?_
        refine k_getw (v := .int (w (15 + a2.toNatClampNeg) 5)) X hU (k_sC hk (k_isC_l (k_vlt hj17))) fl_X9_120 rfl dX9_packedJammedLayers_18 ?_
        refine lv_if_ne (tgt := 39) X.1 X.2.1 dX9_packedJammedLayers_21 (by decide) (fun c21 => ?_) (fun c21 => ?_)
        · replace hf := k_ifN hf c21
          exact J39 _ _ _ a1 a2 hU hS (lv_sub hl [0, 1, 2] rfl) hf
        · replace hf := k_ifP hf c21
          refine lv_aload_n X.1 X.2.1 dX9_packedJammedLayers_24 rfl (lv_at hl 0 rfl) ?_
          refine k_getw (v := .ref (ad k 1)) X hU (sW_0 hk) fl_X9_13 rfl dX9_packedJammedLayers_25 ?_
          refine lv_iload_n X.1 X.2.1 dX9_packedJammedLayers_28 rfl (lv_at hl 2 rfl) ?_
          obtain ⟨hi29, hf⟩ := k_ckE hf
          have hj29 := (k_vin (n := 8) hi29 (by decide))
          refine k_ald (C := "LayeredChute$Chute") (tag := 23) (t0 := 3) (z := (k, (15 + a2.toNatClampNeg))) X hU ⟨by decide, by decide⟩ rfl (sW_1 hk) hj29 (k_rWl_at hj29) dX9_packedJammedLayers_29 ?_
          refine k_getw (v := .int (w (15 + a2.toNatClampNeg) 6)) X hU (k_sC hk (k_isC_l (k_vlt hj29))) fl_X9_127 rfl dX9_packedJammedLayers_30 ?_
          refine lv_if_eq (tgt := 39) X.1 X.2.1 dX9_packedJammedLayers_33 (by decide) (fun c33 => ?_) (fun c33 => ?_)
          · replace hf := k_ifP hf c33
            exact J39 _ _ _ a1 a2 hU hS (lv_sub hl [0, 1, 2] rfl) hf
          · replace hf := k_ifN hf c33
            obtain ⟨x36, e36, hf⟩ := k_ltE hf
            refine lv_iinc (v := x36) (lv' := [(1, .int x36), (0, .ref (ad k 0)), (2, .int a2)]) X.1 X.2.1 dX9_packedJammedLayers_36 hl (k := 1) rfl (by rw [e36]; rfl) (by decide) rfl (fun ls hl => ?_)
            exact J39 _ _ _ x36 a2 hU hS (lv_sub hl [1, 0, 2] rfl) hf
  unfold f_X9_packedJammedLayers at hf
  refine lv_iconst (v := 0) X.1 X.2.1 dX9_packedJammedLayers_0 (by decide) ?_
  refine lv_istore_n (lv' := [(1, .int 0), (0, .ref (ad k 0))]) X.1 X.2.1 dX9_packedJammedLayers_1 rfl hl (by decide) rfl (fun ls hl => ?_)
  refine lv_iconst (v := 0) X.1 X.2.1 dX9_packedJammedLayers_2 (by decide) ?_
  refine lv_istore_n (lv' := [(2, .int 0), (1, .int 0), (0, .ref (ad k 0))]) X.1 X.2.1 dX9_packedJammedLayers_3 rfl hl (by decide) rfl (fun ls hl => ?_)
  exact L4 k_N _ _ _ 0 0 hU hS (lv_sub hl [2, 1, 0] rfl) hf
def rm_X10_jam : Room := { frames := 5, cells := 0, slots := 0, locals := 108 }
set_option maxRecDepth 100000 in
set_option maxHeartbeats 4000000 in
theorem c_X10_jam {l : Launch} {D : va_G} {G : Nat → ClassId} {ad : Nat → Nat → Nat} {u : k_U} (hI : k_ok ad) {a1 : Int32} {a2 : Int32} {sz : Nat} {r1 : k_U} {r2 : Int32} (hf : f_X10_jam u a1 a2 = some (r1, Sum.inl r2)) : Met l yX10_jam (.code yX10_jam cX10_jam 4 (some .int) :: lw_g) rm_X10_jam (k_Pre D G ad u sz [.ref (ad 0 0), .int a1, .int a2]) (k_Qi D G ad r1 r2 sz) 0 0 (k_A ad sz) := by
  refine k_ofW (by decide +kernel) hI (Nat.le_of_ble_eq_true rfl) ?_
  intro p e s m args below meth c X hr hlk hU hS ls hl
  have hl : lv_has ls 4 [(0, .ref (ad 0 0)), (1, .int a1), (2, .int a2)] := hl
  unfold f_X10_jam at hf
  refine lv_aload_n X.1 X.2.1 dX10_jam_0 rfl (lv_at hl 0 rfl) ?_
  refine k_get (v := .ref (ad 10 0)) X hU sh_0_0 fl_X10_33 rfl dX10_jam_1 ?_
  refine lv_iload_n X.1 X.2.1 dX10_jam_4 rfl (lv_at hl 1 rfl) ?_
  obtain ⟨r5, hr5, hf⟩ := k_bdE hf
  refine k_backi X hS (k_runV (As := [.int a1]) (rest := []) X hS hU (sW_0 k_isW_10) (by decide) rfl vl_X10_324 (c_X9_hasLayer X.2.2.2.2.2.2.1 k_isW_10 rfl hr5) rfl rfl rfl hl.1 ⟨Nat.le_of_ble_eq_true rfl, Nat.le_of_ble_eq_true rfl⟩ (Nat.le_of_ble_eq_true rfl) dX10_jam_5 ⟨Nat.zero_le _, Nat.zero_le _⟩) (fun H locs hU hS => ?_)
  refine lv_if_ne (tgt := 22) X.1 X.2.1 dX10_jam_8 (by decide) (fun c8 => ?_) (fun c8 => ?_)
  · replace hf := k_ifN hf c8
    refine lv_aload_n X.1 X.2.1 dX10_jam_22 rfl (lv_at hl 0 rfl) ?_
    refine k_get (v := .ref (ad 10 0)) X hU sh_0_0 fl_X10_33 rfl dX10_jam_23 ?_
    refine lv_iload_n X.1 X.2.1 dX10_jam_26 rfl (lv_at hl 1 rfl) ?_
    obtain ⟨r27, hr27, hf⟩ := k_bdE hf
    refine k_backr X hS (k_runV (As := [.int a1]) (rest := []) X hS hU (sW_0 k_isW_10) (by decide) rfl vl_X10_243 (c_X9_chuteAt X.2.2.2.2.2.2.1 k_isW_10 rfl hr27) rfl rfl rfl hl.1 ⟨Nat.le_of_ble_eq_true rfl, Nat.le_of_ble_eq_true rfl⟩ (Nat.le_of_ble_eq_true rfl) dX10_jam_27 ⟨Nat.zero_le _, Nat.zero_le _⟩) (fun H locs hU hS => ?_)
    obtain ⟨hi27, hf⟩ := k_ckE hf
    refine lv_astore_n (lv' := [(3, .ref (ad 10 r27)), (0, .ref (ad 0 0)), (1, .int a1), (2, .int a2)]) X.1 X.2.1 dX10_jam_30 rfl hl (by decide) rfl (fun ls hl => ?_)
    refine lv_aload_n X.1 X.2.1 dX10_jam_31 rfl (lv_at hl 0 rfl) ?_
    refine k_get (v := .int (u 10 r27 5)) X hU (k_sC k_isW_10 hi27) fl_X10_264 rfl dX10_jam_32 ?_
    refine lv_if_eq (tgt := 44) X.1 X.2.1 dX10_jam_35 (by decide) (fun c35 => ?_) (fun c35 => ?_)
    · replace hf := k_ifP hf c35
      refine lv_aload_n X.1 X.2.1 dX10_jam_44 rfl (lv_at hl 1 rfl) ?_
      obtain ⟨r45, hr45, hf⟩ := k_bdE hf
      refine k_backv X hS (k_runV (As := []) (rest := []) X hS hU sh_0_0 (by decide) rfl vl_X10_384 (c_X10_beginAct X.2.2.2.2.2.2.1 hr45) rfl rfl rfl hl.1 ⟨Nat.le_of_ble_eq_true rfl, Nat.le_of_ble_eq_true rfl⟩ (Nat.le_of_ble_eq_true rfl) dX10_jam_45 ⟨Nat.zero_le _, Nat.zero_le _⟩) (fun H locs hU hS => ?_)
      refine lv_aload_n X.1 X.2.1 dX10_jam_48 rfl (lv_at hl 0 rfl) ?_
      refine lv_iload_n X.1 X.2.1 dX10_jam_49 rfl (lv_at hl 3 rfl) ?_
      obtain ⟨hi50, hf⟩ := k_ckE hf
      obtain ⟨u50, e50, hf⟩ := k_ltE hf
      refine k_put X hU hS (k_sC k_isW_10 hi27) fp_X10_270 rfl rfl (k_nb hi50) (k_fb hi50) dX10_jam_50 (fun H locs hU hS => ?_)
      rw [← e50] at hU
      refine lv_aload_n X.1 X.2.1 dX10_jam_53 rfl (lv_at hl 1 rfl) ?_
      refine k_get (v := .ref (ad 10 0)) X hU sh_0_0 fl_X10_33 rfl dX10_jam_54 ?_
      obtain ⟨r57, hr57, hf⟩ := k_bdE hf
      refine k_backi X hS (k_runV (As := []) (rest := []) X hS hU (sW_0 k_isW_10) (by decide) rfl vl_X10_415 (c_X9_packedJammedLayers X.2.2.2.2.2.2.1 k_isW_10 rfl hr57) rfl rfl rfl hl.1 ⟨Nat.le_of_ble_eq_true rfl, Nat.le_of_ble_eq_true rfl⟩ (Nat.le_of_ble_eq_true rfl) dX10_jam_57 ⟨Nat.zero_le _, Nat.zero_le _⟩) (fun H locs hU hS => ?_)
      obtain ⟨hz1, hz2⟩ := k_injl hf
      subst hz1
      subst hz2
      exact k_iret (v := r57) X hU hS hr hlk rfl rfl dX10_jam_60
    · replace hf := k_ifN hf c35
      refine lv_aload_n X.1 X.2.1 dX10_jam_38 rfl (lv_at hl 1 rfl) ?_
      refine lv_iconst (v := 3) X.1 X.2.1 dX10_jam_39 (by decide) ?_
      obtain ⟨r40, hr40, hf⟩ := k_bdE hf
      refine k_backi X hS (k_runV (As := [.int 3]) (rest := []) X hS hU sh_0_0 (by decide) rfl vl_X10_381 (c_X10_refuse X.2.2.2.2.2.2.1 hr40) rfl rfl rfl hl.1 ⟨Nat.le_of_ble_eq_true rfl, Nat.le_of_ble_eq_true rfl⟩ (Nat.le_of_ble_eq_true rfl) dX10_jam_40 ⟨Nat.zero_le _, Nat.zero_le _⟩) (fun H locs hU hS => ?_)
      obtain ⟨hz1, hz2⟩ := k_injl hf
      subst hz1
      subst hz2
      exact k_iret (v := r40.2) X hU hS hr hlk rfl rfl dX10_jam_43
  · replace hf := k_ifP hf c8
    exact absurd hf k_ninl
def rx_X10_jam : Room := { frames := 6, cells := 1, slots := 6, locals := 108 }
set_option maxRecDepth 100000 in
set_option maxHeartbeats 4000000 in
theorem x_X10_jam {l : Launch} {D : va_G} {G : Nat → ClassId} {ad : Nat → Nat → Nat} {u : k_U} (hI : k_ok ad) (hlT : l.stackTraces = false) {a1 : Int32} {a2 : Int32} {sz : Nat} {r1 : k_U} {j : Nat} (hf : f_X10_jam u a1 a2 = some (r1, Sum.inr j)) : vx_Met l yX10_jam (.code yX10_jam cX10_jam 4 (some .int) :: lw_g) rx_X10_jam (k_Pre D G ad u sz [.ref (ad 0 0), .int a1, .int a2]) (k_Qn ad sz) (k_XC D G ad r1 j sz) 1 6 (k_A ad sz) := by
  refine k_xofW (by decide +kernel) hI (Nat.le_of_ble_eq_true rfl) ?_
  intro p e s m args below meth c X hr hlk hex hU hS ls hl
  have hl : lv_has ls 4 [(0, .ref (ad 0 0)), (1, .int a1), (2, .int a2)] := hl
  unfold f_X10_jam at hf
  refine lv_aload_n X.1 X.2.1 dX10_jam_0 rfl (lv_at hl 0 rfl) ?_
  refine k_get (v := .ref (ad 10 0)) X hU sh_0_0 fl_X10_33 rfl dX10_jam_1 ?_
  refine lv_iload_n X.1 X.2.1 dX10_jam_4 rfl (lv_at hl 1 rfl) ?_
  obtain ⟨r5, hr5, hf⟩ := k_bdE hf
  refine k_backi X hS (k_runV (As := [.int a1]) (rest := []) X hS hU (sW_0 k_isW_10) (by decide) rfl vl_X10_324 (c_X9_hasLayer X.2.2.2.2.2.2.1 k_isW_10 rfl hr5) rfl rfl rfl hl.1 ⟨Nat.le_of_ble_eq_true rfl, Nat.le_of_ble_eq_true rfl⟩ (Nat.le_of_ble_eq_true rfl) dX10_jam_5 ⟨Nat.zero_le _, Nat.zero_le _⟩) (fun H locs hU hS => ?_)
  refine lv_if_ne (tgt := 22) X.1 X.2.1 dX10_jam_8 (by decide) (fun c8 => ?_) (fun c8 => ?_)
  · replace hf := k_ifN hf c8
    refine lv_aload_n X.1 X.2.1 dX10_jam_22 rfl (lv_at hl 0 rfl) ?_
    refine k_get (v := .ref (ad 10 0)) X hU sh_0_0 fl_X10_33 rfl dX10_jam_23 ?_
    refine lv_iload_n X.1 X.2.1 dX10_jam_26 rfl (lv_at hl 1 rfl) ?_
    obtain ⟨r27, hr27, hf⟩ := k_bdE hf
    refine k_backr X hS (k_runV (As := [.int a1]) (rest := []) X hS hU (sW_0 k_isW_10) (by decide) rfl vl_X10_243 (c_X9_chuteAt X.2.2.2.2.2.2.1 k_isW_10 rfl hr27) rfl rfl rfl hl.1 ⟨Nat.le_of_ble_eq_true rfl, Nat.le_of_ble_eq_true rfl⟩ (Nat.le_of_ble_eq_true rfl) dX10_jam_27 ⟨Nat.zero_le _, Nat.zero_le _⟩) (fun H locs hU hS => ?_)
    obtain ⟨hi27, hf⟩ := k_ckE hf
    refine lv_astore_n (lv' := [(3, .ref (ad 10 r27)), (0, .ref (ad 0 0)), (1, .int a1), (2, .int a2)]) X.1 X.2.1 dX10_jam_30 rfl hl (by decide) rfl (fun ls hl => ?_)
    refine lv_aload_n X.1 X.2.1 dX10_jam_31 rfl (lv_at hl 0 rfl) ?_
    refine k_get (v := .int (u 10 r27 5)) X hU (k_sC k_isW_10 hi27) fl_X10_264 rfl dX10_jam_32 ?_
    refine lv_if_eq (tgt := 44) X.1 X.2.1 dX10_jam_35 (by decide) (fun c35 => ?_) (fun c35 => ?_)
    · replace hf := k_ifP hf c35
      refine lv_aload_n X.1 X.2.1 dX10_jam_44 rfl (lv_at hl 1 rfl) ?_
      obtain ⟨r45, hr45, hf⟩ := k_bdE hf
      refine k_backv X hS (k_runV (As := []) (rest := []) X hS hU sh_0_0 (by decide) rfl vl_X10_384 (c_X10_beginAct X.2.2.2.2.2.2.1 hr45) rfl rfl rfl hl.1 ⟨Nat.le_of_ble_eq_true rfl, Nat.le_of_ble_eq_true rfl⟩ (Nat.le_of_ble_eq_true rfl) dX10_jam_45 ⟨Nat.zero_le _, Nat.zero_le _⟩) (fun H locs hU hS => ?_)
      refine lv_aload_n X.1 X.2.1 dX10_jam_48 rfl (lv_at hl 0 rfl) ?_
      refine lv_iload_n X.1 X.2.1 dX10_jam_49 rfl (lv_at hl 3 rfl) ?_
      obtain ⟨hi50, hf⟩ := k_ckE hf
      obtain ⟨u50, e50, hf⟩ := k_ltE hf
      refine k_put X hU hS (k_sC k_isW_10 hi27) fp_X10_270 rfl rfl (k_nb hi50) (k_fb hi50) dX10_jam_50 (fun H locs hU hS => ?_)
      rw [← e50] at hU
      refine lv_aload_n X.1 X.2.1 dX10_jam_53 rfl (lv_at hl 1 rfl) ?_
      refine k_get (v := .ref (ad 10 0)) X hU sh_0_0 fl_X10_33 rfl dX10_jam_54 ?_
      obtain ⟨r57, hr57, hf⟩ := k_bdE hf
      refine k_backi X hS (k_runV (As := []) (rest := []) X hS hU (sW_0 k_isW_10) (by decide) rfl vl_X10_415 (c_X9_packedJammedLayers X.2.2.2.2.2.2.1 k_isW_10 rfl hr57) rfl rfl rfl hl.1 ⟨Nat.le_of_ble_eq_true rfl, Nat.le_of_ble_eq_true rfl⟩ (Nat.le_of_ble_eq_true rfl) dX10_jam_57 ⟨Nat.zero_le _, Nat.zero_le _⟩) (fun H locs hU hS => ?_)
      exact absurd hf k_ninr
    · replace hf := k_ifN hf c35
      refine lv_aload_n X.1 X.2.1 dX10_jam_38 rfl (lv_at hl 1 rfl) ?_
      refine lv_iconst (v := 3) X.1 X.2.1 dX10_jam_39 (by decide) ?_
      obtain ⟨r40, hr40, hf⟩ := k_bdE hf
      refine k_backi X hS (k_runV (As := [.int 3]) (rest := []) X hS hU sh_0_0 (by decide) rfl vl_X10_381 (c_X10_refuse X.2.2.2.2.2.2.1 hr40) rfl rfl rfl hl.1 ⟨Nat.le_of_ble_eq_true rfl, Nat.le_of_ble_eq_true rfl⟩ (Nat.le_of_ble_eq_true rfl) dX10_jam_40 ⟨Nat.zero_le _, Nat.zero_le _⟩) (fun H locs hU hS => ?_)
      exact absurd hf k_ninr
  · replace hf := k_ifP hf c8
    obtain ⟨hz1, hz2⟩ := k_injr hf
    subst hz1
    subst hz2
    exact k_thrSW X hlT hU hS (i := 45) rfl xw_238 (by decide +kernel) rfl hl.1 dX10_jam_11 dX10_jam_14 dX10_jam_15 dX10_jam_18 dX10_jam_21 hex (Nat.le_of_ble_eq_true rfl) (Nat.le_of_ble_eq_true rfl) ⟨Nat.le_of_ble_eq_true rfl, Nat.le_of_ble_eq_true rfl⟩ hlk ⟨Nat.le_of_ble_eq_true rfl, Nat.le_of_ble_eq_true rfl⟩
def rm_X7_wipe : Room := { frames := 0, cells := 0, slots := 0, locals := 0 }
set_option maxRecDepth 100000 in
set_option maxHeartbeats 4000000 in
theorem c_X7_wipe {l : Launch} {D : va_G} {G : Nat → ClassId} {ad : Nat → Nat → Nat} {u : k_U} (hI : k_ok ad) {w : k_M} (hw : u 3 = w) {sz : Nat} {r : k_M} (hf : f_X7_wipe w = some r) : Met l yX7_wipe (.code yX7_wipe cX7_wipe 1 none :: lw_g) rm_X7_wipe (k_Pre D G ad u sz [.ref (ad 3 0)]) (k_Qv D G ad (k_uc u 3 r) sz) 0 0 (k_A ad sz) := by
  refine k_ofW (by decide +kernel) hI (Nat.le_of_ble_eq_true rfl) ?_
  intro p e s m args below meth c X hr hlk hU hS ls hl
  have hl : lv_has ls 1 [(0, .ref (ad 3 0))] := hl
  have hU : k_Uv D G ad (k_uc u 3 w) s.heap := by rw [← hw, k_uc_id]; exact hU
  unfold f_X7_wipe at hf
  refine lv_aload_n X.1 X.2.1 dX7_wipe_0 rfl (lv_at hl 0 rfl) ?_
  refine lv_iconst (v := 0) X.1 X.2.1 dX7_wipe_1 (by decide) ?_
  obtain ⟨w2, e2, hf⟩ := k_ltE hf
  refine k_putw X hU hS sh_3_0 fp_X7_13 rfl e2 rfl rfl dX7_wipe_2 (fun H locs hU hS => ?_)
  have hz := Option.some.inj hf
  subst hz
  exact k_vret X hU hS hr hlk dX7_wipe_5
def rm_X7_put : Room := { frames := 0, cells := 0, slots := 0, locals := 0 }
set_option maxRecDepth 100000 in
set_option maxHeartbeats 4000000 in
theorem c_X7_put {l : Launch} {D : va_G} {G : Nat → ClassId} {ad : Nat → Nat → Nat} {u : k_U} (hI : k_ok ad) {w : k_M} (hw : u 3 = w) {a1 : Int32} {sz : Nat} {r : k_M} (hf : f_X7_put w a1 = some r) : Met l yX7_put (.code yX7_put cX7_put 2 none :: lw_g) rm_X7_put (k_Pre D G ad u sz [.ref (ad 3 0), .int a1]) (k_Qv D G ad (k_uc u 3 r) sz) 0 0 (k_A ad sz) := by
  refine k_ofW (by decide +kernel) hI (Nat.le_of_ble_eq_true rfl) ?_
  intro p e s m args below meth c X hr hlk hU hS ls hl
  have hl : lv_has ls 2 [(0, .ref (ad 3 0)), (1, .int a1)] := hl
  have hU : k_Uv D G ad (k_uc u 3 w) s.heap := by rw [← hw, k_uc_id]; exact hU
  unfold f_X7_put at hf
  refine lv_aload_n X.1 X.2.1 dX7_put_0 rfl (lv_at hl 0 rfl) ?_
  refine k_getw (v := .int (w 0 1)) X hU sh_3_0 fl_X7_13 rfl dX7_put_1 ?_
  refine lv_bipush (v := 64) X.1 X.2.1 dX7_put_4 (by decide) ?_
  refine lv_icmp_ge (tgt := 29) X.1 X.2.1 dX7_put_6 (by decide) (fun c6 => ?_) (fun c6 => ?_)
  · replace hf := k_ifP hf c6
    have hz := Option.some.inj hf
    subst hz
    exact k_vret X hU hS hr hlk dX7_put_29
  · replace hf := k_ifN hf c6
    refine lv_aload_n X.1 X.2.1 dX7_put_9 rfl (lv_at hl 0 rfl) ?_
    refine k_getw (v := .ref (ad 3 1)) X hU sh_3_0 fl_X7_9 rfl dX7_put_10 ?_
    refine lv_aload_n X.1 X.2.1 dX7_put_13 rfl (lv_at hl 0 rfl) ?_
    refine k_getw (v := .int (w 0 1)) X hU sh_3_0 fl_X7_13 rfl dX7_put_14 ?_
    refine lv_iload_n X.1 X.2.1 dX7_put_17 rfl (lv_at hl 1 rfl) ?_
    obtain ⟨hi18, hf⟩ := k_ckE hf
    obtain ⟨w18, e18, hf⟩ := k_ltE hf
    refine k_istw X hU hS sh_3_1 e18 (k_vin (n := 64) hi18 (by decide)) rfl dX7_put_18 (fun H locs hU hS => ?_)
    refine lv_aload_n X.1 X.2.1 dX7_put_19 rfl (lv_at hl 0 rfl) ?_
    refine lv_dup X.1 X.2.1 dX7_put_20 rfl ?_
    refine k_getw (v := .int (w18 0 1)) X hU sh_3_0 fl_X7_13 rfl dX7_put_21 ?_
    refine lv_iconst (v := 1) X.1 X.2.1 dX7_put_24 (by decide) ?_
    refine lv_iadd X.1 X.2.1 dX7_put_25 ?_
    obtain ⟨w26, e26, hf⟩ := k_ltE hf
    refine k_putw X hU hS sh_3_0 fp_X7_13 rfl e26 rfl rfl dX7_put_26 (fun H locs hU hS => ?_)
    have hz := Option.some.inj hf
    subst hz
    exact k_vret X hU hS hr hlk dX7_put_29
def rm_X0_letter : Room := { frames := 0, cells := 0, slots := 0, locals := 0 }
set_option maxRecDepth 100000 in
set_option maxHeartbeats 4000000 in
theorem c_X0_letter {l : Launch} {D : va_G} {G : Nat → ClassId} {ad : Nat → Nat → Nat} {u : k_U} (hI : k_ok ad) {k : Nat} (hk : k_isW k) {w : k_M} (hw : u k = w) {q : Nat} (hq : k_isC q) {sz : Nat} {r : Int32} (hf : f_X0_letter w q = some r) : Met l yX0_letter (.code yX0_letter cX0_letter 1 (some .char) :: lw_g) rm_X0_letter (k_Pre D G ad u sz [.ref (ad k q)]) (k_Qi D G ad u r sz) 0 0 (k_A ad sz) := by
  refine k_ofW (by decide +kernel) hI (Nat.le_of_ble_eq_true rfl) ?_
  intro p e s m args below meth c X hr hlk hU hS ls hl
  have hl : lv_has ls 1 [(0, .ref (ad k q))] := hl
  have hU : k_Uv D G ad (k_uc u k w) s.heap := by rw [← hw, k_uc_id]; exact hU
  unfold f_X0_letter at hf
  refine lv_aload_n X.1 X.2.1 dX0_letter_0 rfl (lv_at hl 0 rfl) ?_
  refine k_getw (v := .int (w q 5)) X hU (k_sC hk hq) fl_X0_27 rfl dX0_letter_1 ?_
  by_cases c4_0 : (w q 5) = 0
  · replace hf := k_ifP hf c4_0
    refine lv_tableIn (x := w q 5) (off := 32) (tgt := 36) X.1 X.2.1 dX0_letter_4 (by rw [c4_0]; decide) (by rw [c4_0]; decide) (by rw [c4_0]; rfl) (by decide) ?_
    refine lv_bipush (v := 80) X.1 X.2.1 dX0_letter_36 (by decide) ?_
    rw [← hw, k_uc_id] at hU
    have hz := Option.some.inj hf
    subst hz
    exact k_iret (v := 80) X hU hS hr hlk rfl rfl dX0_letter_38
  replace hf := k_ifN hf c4_0
  by_cases c4_1 : (w q 5) = 1
  · replace hf := k_ifP hf c4_1
    refine lv_tableIn (x := w q 5) (off := 35) (tgt := 39) X.1 X.2.1 dX0_letter_4 (by rw [c4_1]; decide) (by rw [c4_1]; decide) (by rw [c4_1]; rfl) (by decide) ?_
    refine lv_bipush (v := 79) X.1 X.2.1 dX0_letter_39 (by decide) ?_
    rw [← hw, k_uc_id] at hU
    have hz := Option.some.inj hf
    subst hz
    exact k_iret (v := 79) X hU hS hr hlk rfl rfl dX0_letter_41
  replace hf := k_ifN hf c4_1
  by_cases c4_2 : (w q 5) = 2
  · replace hf := k_ifP hf c4_2
    refine lv_tableIn (x := w q 5) (off := 38) (tgt := 42) X.1 X.2.1 dX0_letter_4 (by rw [c4_2]; decide) (by rw [c4_2]; decide) (by rw [c4_2]; rfl) (by decide) ?_
    refine lv_bipush (v := 84) X.1 X.2.1 dX0_letter_42 (by decide) ?_
    rw [← hw, k_uc_id] at hU
    have hz := Option.some.inj hf
    subst hz
    exact k_iret (v := 84) X hU hS hr hlk rfl rfl dX0_letter_44
  replace hf := k_ifN hf c4_2
  by_cases c4_3 : (w q 5) = 3
  · replace hf := k_ifP hf c4_3
    refine lv_tableIn (x := w q 5) (off := 41) (tgt := 45) X.1 X.2.1 dX0_letter_4 (by rw [c4_3]; decide) (by rw [c4_3]; decide) (by rw [c4_3]; rfl) (by decide) ?_
    refine lv_bipush (v := 74) X.1 X.2.1 dX0_letter_45 (by decide) ?_
    rw [← hw, k_uc_id] at hU
    have hz := Option.some.inj hf
    subst hz
    exact k_iret (v := 74) X hU hS hr hlk rfl rfl dX0_letter_47
  replace hf := k_ifN hf c4_3
  have ho4 : (w q 5).toInt < 0 ∨ 3 < (w q 5).toInt := by
    have g0 := k_tne (n := 0) (z := 0) c4_0 (by decide)
    have g1 := k_tne (n := 1) (z := 1) c4_1 (by decide)
    have g2 := k_tne (n := 2) (z := 2) c4_2 (by decide)
    have g3 := k_tne (n := 3) (z := 3) c4_3 (by decide)
    omega
  refine lv_tableOut (x := w q 5) (tgt := 48) X.1 X.2.1 dX0_letter_4 ho4 (by decide) ?_
  refine lv_bipush (v := 67) X.1 X.2.1 dX0_letter_48 (by decide) ?_
  rw [← hw, k_uc_id] at hU
  have hz := Option.some.inj hf
  subst hz
  exact k_iret (v := 67) X hU hS hr hlk rfl rfl dX0_letter_50
def rm_X7_putNumber : Room := { frames := 1, cells := 0, slots := 0, locals := 21 }
set_option maxRecDepth 100000 in
set_option maxHeartbeats 4000000 in
theorem c_X7_putNumber {l : Launch} {D : va_G} {G : Nat → ClassId} {ad : Nat → Nat → Nat} {u : k_U} (hI : k_ok ad) {w : k_M} (hw : u 3 = w) {a1 : Int32} {sz : Nat} {r : k_M} (hf : f_X7_putNumber w a1 = some r) : Met l yX7_putNumber (.code yX7_putNumber cX7_putNumber 2 none :: lw_g) rm_X7_putNumber (k_Pre D G ad u sz [.ref (ad 3 0), .int a1]) (k_Qv D G ad (k_uc u 3 r) sz) 0 0 (k_A ad sz) := by
  refine k_ofW (by decide +kernel) hI (Nat.le_of_ble_eq_true rfl) ?_
  intro p e s m args below meth c X hr hlk hU hS ls hl
  have hl : lv_has ls 2 [(0, .ref (ad 3 0)), (1, .int a1)] := hl
  have hU : k_Uv D G ad (k_uc u 3 w) s.heap := by rw [← hw, k_uc_id]; exact hU
  have J21 : ∀ (H : Heap) (locs : List Loc) (ls : Array Slot) (w : k_M) (a1 : Int32), k_Uv D G ad (k_uc u 3 w) H → va_S (k_A ad sz) s.heap H locs → lv_has ls 2 [(0, .ref (ad 3 0)), (1, .int a1)] → f_X7_putNumber_21 w a1 = some r → W p l e rm_X7_putNumber s m args below meth c H locs 0 0 (MQ below (k_Qv D G ad (k_uc u 3 r) sz) args s 0 0 (k_A ad sz)) (F0 m 21 ls []) := by
    intro H locs ls w a1 hU hS hl hf
    unfold f_X7_putNumber_21 at hf
    refine lv_aload_n X.1 X.2.1 dX7_putNumber_21 rfl (lv_at hl 0 rfl) ?_
    refine lv_bipush (v := 48) X.1 X.2.1 dX7_putNumber_22 (by decide) ?_
    refine lv_iload_n X.1 X.2.1 dX7_putNumber_24 rfl (lv_at hl 1 rfl) ?_
    refine lv_bipush (v := 10) X.1 X.2.1 dX7_putNumber_25 (by decide) ?_
    refine lv_irem X.1 X.2.1 dX7_putNumber_27 (by decide) ?_
    refine lv_iadd X.1 X.2.1 dX7_putNumber_28 ?_
    refine lv_i2c (v := ((48 + (a1 - a1 / 10 * 10)).toUInt32 % 65536).toInt32) X.1 X.2.1 dX7_putNumber_29 rfl ?_
    obtain ⟨r30, hr30, hf⟩ := k_bdE hf
    refine k_backv X hS (k_runV (As := [.int (((48 + (a1 - a1 / 10 * 10)).toUInt32 % 65536).toInt32)]) (rest := []) X hS hU sh_3_0 (by decide) rfl vl_X7_17 (c_X7_put X.2.2.2.2.2.2.1 (k_uc_s _ _ _) hr30) rfl rfl rfl hl.1 ⟨Nat.le_of_ble_eq_true rfl, Nat.le_of_ble_eq_true rfl⟩ (Nat.le_of_ble_eq_true rfl) dX7_putNumber_30 ⟨Nat.zero_le _, Nat.zero_le _⟩) (fun H locs hU hS => ?_)
    rw [k_uc_uc] at hU
    have hz := Option.some.inj hf
    subst hz
    exact k_vret X hU hS hr hlk dX7_putNumber_33
  unfold f_X7_putNumber at hf
  refine lv_iload_n X.1 X.2.1 dX7_putNumber_0 rfl (lv_at hl 1 rfl) ?_
  refine lv_bipush (v := 10) X.1 X.2.1 dX7_putNumber_1 (by decide) ?_
  refine lv_icmp_lt (tgt := 21) X.1 X.2.1 dX7_putNumber_3 (by decide) (fun c3 => ?_) (fun c3 => ?_)
  · replace hf := k_ifP hf c3
    exact J21 _ _ _ w a1 hU hS (lv_sub hl [0, 1] rfl) hf
  · replace hf := k_ifN hf c3
    refine lv_aload_n X.1 X.2.1 dX7_putNumber_6 rfl (lv_at hl 0 rfl) ?_
    refine lv_bipush (v := 48) X.1 X.2.1 dX7_putNumber_7 (by decide) ?_
    refine lv_iload_n X.1 X.2.1 dX7_putNumber_9 rfl (lv_at hl 1 rfl) ?_
    refine lv_bipush (v := 10) X.1 X.2.1 dX7_putNumber_10 (by decide) ?_
    refine lv_idiv X.1 X.2.1 dX7_putNumber_12 (by decide) ?_
    refine lv_bipush (v := 10) X.1 X.2.1 dX7_putNumber_13 (by decide) ?_
    refine lv_irem X.1 X.2.1 dX7_putNumber_15 (by decide) ?_
    refine lv_iadd X.1 X.2.1 dX7_putNumber_16 ?_
    refine lv_i2c (v := ((48 + ((a1 / 10) - (a1 / 10) / 10 * 10)).toUInt32 % 65536).toInt32) X.1 X.2.1 dX7_putNumber_17 rfl ?_
    obtain ⟨r18, hr18, hf⟩ := k_bdE hf
    refine k_backv X hS (k_runV (As := [.int (((48 + ((a1 / 10) - (a1 / 10) / 10 * 10)).toUInt32 % 65536).toInt32)]) (rest := []) X hS hU sh_3_0 (by decide) rfl vl_X7_17 (c_X7_put X.2.2.2.2.2.2.1 (k_uc_s _ _ _) hr18) rfl rfl rfl hl.1 ⟨Nat.le_of_ble_eq_true rfl, Nat.le_of_ble_eq_true rfl⟩ (Nat.le_of_ble_eq_true rfl) dX7_putNumber_18 ⟨Nat.zero_le _, Nat.zero_le _⟩) (fun H locs hU hS => ?_)
    rw [k_uc_uc] at hU
    exact J21 _ _ _ r18 a1 hU hS (lv_sub hl [0, 1] rfl) hf
def rm_X10_write : Room := { frames := 2, cells := 0, slots := 0, locals := 42 }
set_option maxRecDepth 100000 in
set_option maxHeartbeats 4000000 in
theorem c_X10_write {l : Launch} {D : va_G} {G : Nat → ClassId} {ad : Nat → Nat → Nat} {u : k_U} (hI : k_ok ad) {sz : Nat} {r : (k_U × Int32)} (hf : f_X10_write u = some r) : Met l yX10_write (.code yX10_write cX10_write 4 (some .int) :: lw_g) rm_X10_write (k_Pre D G ad u sz [.ref (ad 0 0)]) (k_Qi D G ad r.1 r.2 sz) 0 0 (k_A ad sz) := by
  refine k_ofW (by decide +kernel) hI (Nat.le_of_ble_eq_true rfl) ?_
  intro p e s m args below meth c X hr hlk hU hS ls hl
  have hl : lv_has ls 4 [(0, .ref (ad 0 0))] := hl
  have L17 : ∀ (n17 : Nat) (H : Heap) (locs : List Loc) (ls : Array Slot) (u : k_U) (a1 : Int32) (a2 : Int32), k_Uv D G ad u H → va_S (k_A ad sz) s.heap H locs → lv_has ls 4 [(0, .ref (ad 0 0)), (1, .int a1), (2, .int a2)] → f_X10_write_17 n17 u a1 a2 = some r → W p l e rm_X10_write s m args below meth c H locs 0 0 (MQ below (k_Qi D G ad r.1 r.2 sz) args s 0 0 (k_A ad sz)) (F0 m 17 ls []) := by
    intro n17
    induction n17 with
    | zero =>
      intro H locs ls u a1 a2 hU hS hl hf
      cases (show none = some r from hf)
    | succ n17 ih17 =>
      have J101 : ∀ (H : Heap) (locs : List Loc) (ls : Array Slot) (u : k_U) (a1 : Int32) (a2 : Int32), k_Uv D G ad u H → va_S (k_A ad sz) s.heap H locs → lv_has ls 4 [(0, .ref (ad 0 0)), (1, .int a1), (2, .int a2)] → f_X10_write_101 (f_X10_write_17 n17) u a1 a2 = some r → W p l e rm_X10_write s m args below meth c H locs 0 0 (MQ below (k_Qi D G ad r.1 r.2 sz) args s 0 0 (k_A ad sz)) (F0 m 101 ls []) := by
        intro H locs ls u a1 a2 hU hS hl hf
        unfold f_X10_write_101 at hf
        obtain ⟨x101, e101, hf⟩ := k_ltE hf
        refine lv_iinc (v := x101) (lv' := [(2, .int x101), (0, .ref (ad 0 0)), (1, .int a1)]) X.1 X.2.1 dX10_write_101 hl (k := 2) rfl (by rw [e101]; rfl) (by decide) rfl (fun ls hl => ?_)
        refine lv_goto (tgt := 17) X.1 X.2.1 dX10_write_104 (by decide) ?_
        exact ih17 _ _ _ u a1 x101 hU hS (lv_sub hl [1, 2, 0] rfl) hf
      have J90 : ∀ (H : Heap) (locs : List Loc) (ls : Array Slot) (u : k_U) (a1 : Int32) (a2 : Int32) (q3 : Nat), k_isC q3 → k_Uv D G ad u H → va_S (k_A ad sz) s.heap H locs → lv_has ls 4 [(0, .ref (ad 0 0)), (1, .int a1), (2, .int a2), (3, .ref (ad 10 q3))] → f_X10_write_90 (f_X10_write_17 n17) u a1 a2 q3 = some r → W p l e rm_X10_write s m args below meth c H locs 0 0 (MQ below (k_Qi D G ad r.1 r.2 sz) args s 0 0 (k_A ad sz)) (F0 m 90 ls []) := by
        intro H locs ls u a1 a2 q3 hq3 hU hS hl hf
        unfold f_X10_write_90 at hf
        refine lv_aload_n X.1 X.2.1 dX10_write_90 rfl (lv_at hl 0 rfl) ?_
        refine k_get (v := .ref (ad 3 0)) X hU sh_0_0 fl_X10_62 rfl dX10_write_91 ?_
        refine lv_aload_n X.1 X.2.1 dX10_write_94 rfl (lv_at hl 3 rfl) ?_
        obtain ⟨r95, hr95, hf⟩ := k_bdE hf
        refine k_backi X hS (k_runV (As := []) (rest := [.ref (ad 3 0)]) X hS hU (k_sC k_isW_10 hq3) (by decide) rfl vl_X10_267 (c_X0_linesThere X.2.2.2.2.2.2.1 k_isW_10 rfl hq3 hr95) rfl rfl rfl hl.1 ⟨Nat.le_of_ble_eq_true rfl, Nat.le_of_ble_eq_true rfl⟩ (Nat.le_of_ble_eq_true rfl) dX10_write_95 ⟨Nat.zero_le _, Nat.zero_le _⟩) (fun H locs hU hS => ?_)
        obtain ⟨r98, hr98, hf⟩ := k_bdE hf
        refine k_backv X hS (k_runV (As := [.int r95]) (rest := []) X hS hU sh_3_0 (by decide) rfl vl_X10_428 (c_X7_putNumber X.2.2.2.2.2.2.1 rfl hr98) rfl rfl rfl hl.1 ⟨Nat.le_of_ble_eq_true rfl, Nat.le_of_ble_eq_true rfl⟩ (Nat.le_of_ble_eq_true rfl) dX10_write_98 ⟨Nat.zero_le _, Nat.zero_le _⟩) (fun H locs hU hS => ?_)
        obtain ⟨u98, e98, hf⟩ := k_ltE hf
        rw [← e98] at hU
        exact J101 _ _ _ u98 a1 a2 hU hS (lv_sub hl [0, 1, 2] rfl) hf
      have J55 : ∀ (H : Heap) (locs : List Loc) (ls : Array Slot) (u : k_U) (a1 : Int32) (a2 : Int32), k_Uv D G ad u H → va_S (k_A ad sz) s.heap H locs → lv_has ls 4 [(0, .ref (ad 0 0)), (1, .int a1), (2, .int a2)] → f_X10_write_55 (f_X10_write_17 n17) u a1 a2 = some r → W p l e rm_X10_write s m args below meth c H locs 0 0 (MQ below (k_Qi D G ad r.1 r.2 sz) args s 0 0 (k_A ad sz)) (F0 m 55 ls []) := by
        intro H locs ls u a1 a2 hU hS hl hf
        unfold f_X10_write_55 at hf
        refine lv_aload_n X.1 X.2.1 dX10_write_55 rfl (lv_at hl 0 rfl) ?_
        refine k_get (v := .ref (ad 10 0)) X hU sh_0_0 fl_X10_33 rfl dX10_write_56 ?_
        refine lv_iload_n X.1 X.2.1 dX10_write_59 rfl (lv_at hl 2 rfl) ?_
        obtain ⟨r60, hr60, hf⟩ := k_bdE hf
        refine k_backr X hS (k_runV (As := [.int a2]) (rest := []) X hS hU (sW_0 k_isW_10) (by decide) rfl vl_X10_243 (c_X9_chuteAt X.2.2.2.2.2.2.1 k_isW_10 rfl hr60) rfl rfl rfl hl.1 ⟨Nat.le_of_ble_eq_true rfl, Nat.le_of_ble_eq_true rfl⟩ (Nat.le_of_ble_eq_true rfl) dX10_write_60 ⟨Nat.zero_le _, Nat.zero_le _⟩) (fun H locs hU hS => ?_)
        obtain ⟨hi60, hf⟩ := k_ckE hf
        refine lv_astore_n (lv' := [(3, .ref (ad 10 r60)), (0, .ref (ad 0 0)), (1, .int a1), (2, .int a2)]) X.1 X.2.1 dX10_write_63 rfl hl (by decide) rfl (fun ls hl => ?_)
        refine lv_aload_n X.1 X.2.1 dX10_write_64 rfl (lv_at hl 1 rfl) ?_
        refine k_get (v := .ref (ad 3 0)) X hU sh_0_0 fl_X10_62 rfl dX10_write_65 ?_
        refine lv_aload_n X.1 X.2.1 dX10_write_68 rfl (lv_at hl 0 rfl) ?_
        obtain ⟨r69, hr69, hf⟩ := k_bdE hf
        refine k_backi X hS (k_runV (As := []) (rest := [.ref (ad 3 0)]) X hS hU (k_sC k_isW_10 hi60) (by decide) rfl vl_X10_424 (c_X0_letter X.2.2.2.2.2.2.1 k_isW_10 rfl hi60 hr69) rfl rfl rfl hl.1 ⟨Nat.le_of_ble_eq_true rfl, Nat.le_of_ble_eq_true rfl⟩ (Nat.le_of_ble_eq_true rfl) dX10_write_69 ⟨Nat.zero_le _, Nat.zero_le _⟩) (fun H locs hU hS => ?_)
        obtain ⟨r72, hr72, hf⟩ := k_bdE hf
        refine k_backv X hS (k_runV (As := [.int r69]) (rest := []) X hS hU sh_3_0 (by decide) rfl vl_X10_421 (c_X7_put X.2.2.2.2.2.2.1 rfl hr72) rfl rfl rfl hl.1 ⟨Nat.le_of_ble_eq_true rfl, Nat.le_of_ble_eq_true rfl⟩ (Nat.le_of_ble_eq_true rfl) dX10_write_72 ⟨Nat.zero_le _, Nat.zero_le _⟩) (fun H locs hU hS => ?_)
        obtain ⟨u72, e72, hf⟩ := k_ltE hf
        rw [← e72] at hU
        refine lv_aload_n X.1 X.2.1 dX10_write_75 rfl (lv_at hl 0 rfl) ?_
        refine k_get (v := .int (u72 10 r60 5)) X hU (k_sC k_isW_10 hi60) fl_X10_264 rfl dX10_write_76 ?_
        refine lv_if_eq (tgt := 90) X.1 X.2.1 dX10_write_79 (by decide) (fun c79 => ?_) (fun c79 => ?_)
        · replace hf := k_ifP hf c79
          exact J90 _ _ _ u72 a1 a2 r60 (hi60) hU hS (lv_sub hl [1, 2, 3, 0] rfl) hf
        · replace hf := k_ifN hf c79
          refine lv_aload_n X.1 X.2.1 dX10_write_82 rfl (lv_at hl 0 rfl) ?_
          refine k_get (v := .int (u72 10 r60 5)) X hU (k_sC k_isW_10 hi60) fl_X10_264 rfl dX10_write_83 ?_
          refine lv_iconst (v := 1) X.1 X.2.1 dX10_write_86 (by decide) ?_
          refine lv_icmp_ne (tgt := 101) X.1 X.2.1 dX10_write_87 (by decide) (fun c87 => ?_) (fun c87 => ?_)
          · replace hf := k_ifN hf c87
            exact J101 _ _ _ u72 a1 a2 hU hS (lv_sub hl [1, 2, 3] rfl) hf
          · replace hf := k_ifP hf c87
            exact J90 _ _ _ u72 a1 a2 r60 (hi60) hU hS (lv_sub hl [1, 2, 3, 0] rfl) hf
      have J35 : ∀ (H : Heap) (locs : List Loc) (ls : Array Slot) (u : k_U) (a1 : Int32) (a2 : Int32), k_Uv D G ad u H → va_S (k_A ad sz) s.heap H locs → lv_has ls 4 [(0, .ref (ad 0 0)), (1, .int a1), (2, .int a2)] → f_X10_write_35 (f_X10_write_17 n17) u a1 a2 = some r → W p l e rm_X10_write s m args below meth c H locs 0 0 (MQ below (k_Qi D G ad r.1 r.2 sz) args s 0 0 (k_A ad sz)) (F0 m 35 ls []) := by
        intro H locs ls u a1 a2 hU hS hl hf
        unfold f_X10_write_35 at hf
        refine lv_iload_n X.1 X.2.1 dX10_write_35 rfl (lv_at hl 2 rfl) ?_
        refine lv_aload_n X.1 X.2.1 dX10_write_36 rfl (lv_at hl 0 rfl) ?_
        refine k_get (v := .ref (ad 10 0)) X hU sh_0_0 fl_X10_33 rfl dX10_write_37 ?_
        refine k_get (v := .int (u 10 0 10)) X hU (sW_0 k_isW_10) fl_X10_113 rfl dX10_write_40 ?_
        refine lv_icmp_ne (tgt := 55) X.1 X.2.1 dX10_write_43 (by decide) (fun c43 => ?_) (fun c43 => ?_)
        · replace hf := k_ifN hf c43
          exact J55 _ _ _ u a1 a2 hU hS (lv_sub hl [0, 1, 2] rfl) hf
        · replace hf := k_ifP hf c43
          refine lv_aload_n X.1 X.2.1 dX10_write_46 rfl (lv_at hl 0 rfl) ?_
          refine k_get (v := .ref (ad 3 0)) X hU sh_0_0 fl_X10_62 rfl dX10_write_47 ?_
          refine lv_bipush (v := 82) X.1 X.2.1 dX10_write_50 (by decide) ?_
          obtain ⟨r52, hr52, hf⟩ := k_bdE hf
          refine k_backv X hS (k_runV (As := [.int 82]) (rest := []) X hS hU sh_3_0 (by decide) rfl vl_X10_421 (c_X7_put X.2.2.2.2.2.2.1 rfl hr52) rfl rfl rfl hl.1 ⟨Nat.le_of_ble_eq_true rfl, Nat.le_of_ble_eq_true rfl⟩ (Nat.le_of_ble_eq_true rfl) dX10_write_52 ⟨Nat.zero_le _, Nat.zero_le _⟩) (fun H locs hU hS => ?_)
          obtain ⟨u52, e52, hf⟩ := k_ltE hf
          rw [← e52] at hU
          exact J55 _ _ _ u52 a1 a2 hU hS (lv_sub hl [0, 1, 2] rfl) hf
      intro H locs ls u a1 a2 hU hS hl hf
      replace hf : f_X10_write_17_b (f_X10_write_17 n17) u a1 a2 = some r := hf
      unfold f_X10_write_17_b at hf
      refine lv_iload_n X.1 X.2.1 dX10_write_17 rfl (lv_at hl 2 rfl) ?_
      refine lv_iload_n X.1 X.2.1 dX10_write_18 rfl (lv_at hl 1 rfl) ?_
      refine lv_icmp_ge (tgt := 107) X.1 X.2.1 dX10_write_19 (by decide) (fun c19 => ?_) (fun c19 => ?_)
      · replace hf := k_ifP hf c19
        refine lv_aload_n X.1 X.2.1 dX10_write_107 rfl (lv_at hl 0 rfl) ?_
        refine k_get (v := .ref (ad 3 0)) X hU sh_0_0 fl_X10_62 rfl dX10_write_108 ?_
        refine k_get (v := .int (u 3 0 1)) X hU sh_3_0 fl_X10_431 rfl dX10_write_111 ?_
        have hz := Option.some.inj hf
        subst hz
        exact k_iret (v := u 3 0 1) X hU hS hr hlk rfl rfl dX10_write_114
      · replace hf := k_ifN hf c19
        refine lv_iload_n X.1 X.2.1 dX10_write_22 rfl (lv_at hl 2 rfl) ?_
        refine lv_if_le (tgt := 35) X.1 X.2.1 dX10_write_23 (by decide) (fun c23 => ?_) (fun c23 => ?_)
        · replace hf := k_ifP hf c23
          exact J35 _ _ _ u a1 a2 hU hS (lv_sub hl [0, 1, 2] rfl) hf
        · replace hf := k_ifN hf c23
          refine lv_aload_n X.1 X.2.1 dX10_write_26 rfl (lv_at hl 0 rfl) ?_
          refine k_get (v := .ref (ad 3 0)) X hU sh_0_0 fl_X10_62 rfl dX10_write_27 ?_
          refine lv_bipush (v := 32) X.1 X.2.1 dX10_write_30 (by decide) ?_
          obtain ⟨r32, hr32, hf⟩ := k_bdE hf
          refine k_backv X hS (k_runV (As := [.int 32]) (rest := []) X hS hU sh_3_0 (by decide) rfl vl_X10_421 (c_X7_put X.2.2.2.2.2.2.1 rfl hr32) rfl rfl rfl hl.1 ⟨Nat.le_of_ble_eq_true rfl, Nat.le_of_ble_eq_true rfl⟩ (Nat.le_of_ble_eq_true rfl) dX10_write_32 ⟨Nat.zero_le _, Nat.zero_le _⟩) (fun H locs hU hS => ?_)
          obtain ⟨u32, e32, hf⟩ := k_ltE hf
          rw [← e32] at hU
          exact J35 _ _ _ u32 a1 a2 hU hS (lv_sub hl [0, 1, 2] rfl) hf
  unfold f_X10_write at hf
  refine lv_aload_n X.1 X.2.1 dX10_write_0 rfl (lv_at hl 0 rfl) ?_
  refine k_get (v := .ref (ad 3 0)) X hU sh_0_0 fl_X10_62 rfl dX10_write_1 ?_
  obtain ⟨r4, hr4, hf⟩ := k_bdE hf
  refine k_backv X hS (k_runV (As := []) (rest := []) X hS hU sh_3_0 (by decide) rfl vl_X10_418 (c_X7_wipe X.2.2.2.2.2.2.1 rfl hr4) rfl rfl rfl hl.1 ⟨Nat.le_of_ble_eq_true rfl, Nat.le_of_ble_eq_true rfl⟩ (Nat.le_of_ble_eq_true rfl) dX10_write_4 ⟨Nat.zero_le _, Nat.zero_le _⟩) (fun H locs hU hS => ?_)
  obtain ⟨u4, e4, hf⟩ := k_ltE hf
  rw [← e4] at hU
  refine lv_aload_n X.1 X.2.1 dX10_write_7 rfl (lv_at hl 0 rfl) ?_
  refine k_get (v := .ref (ad 10 0)) X hU sh_0_0 fl_X10_33 rfl dX10_write_8 ?_
  obtain ⟨r11, hr11, hf⟩ := k_bdE hf
  refine k_backi X hS (k_runV (As := []) (rest := []) X hS hU (sW_0 k_isW_10) (by decide) rfl vl_X10_110 (c_X9_chuteCount X.2.2.2.2.2.2.1 k_isW_10 rfl hr11) rfl rfl rfl hl.1 ⟨Nat.le_of_ble_eq_true rfl, Nat.le_of_ble_eq_true rfl⟩ (Nat.le_of_ble_eq_true rfl) dX10_write_11 ⟨Nat.zero_le _, Nat.zero_le _⟩) (fun H locs hU hS => ?_)
  refine lv_istore_n (lv' := [(1, .int r11), (0, .ref (ad 0 0))]) X.1 X.2.1 dX10_write_14 rfl hl (by decide) rfl (fun ls hl => ?_)
  refine lv_iconst (v := 0) X.1 X.2.1 dX10_write_15 (by decide) ?_
  refine lv_istore_n (lv' := [(2, .int 0), (1, .int r11), (0, .ref (ad 0 0))]) X.1 X.2.1 dX10_write_16 rfl hl (by decide) rfl (fun ls hl => ?_)
  exact L17 k_N _ _ _ u4 r11 0 hU hS (lv_sub hl [2, 1, 0] rfl) hf
def rm_X10_output : Room := { frames := 0, cells := 0, slots := 0, locals := 0 }
set_option maxRecDepth 100000 in
set_option maxHeartbeats 4000000 in
theorem c_X10_output {l : Launch} {D : va_G} {G : Nat → ClassId} {ad : Nat → Nat → Nat} {u : k_U} (hI : k_ok ad) {a1 : Int32} {sz : Nat} {r2 : Int32} (hf : f_X10_output u a1 = some (Sum.inl r2)) : Met l yX10_output (.code yX10_output cX10_output 2 (some .int) :: lw_g) rm_X10_output (k_Pre D G ad u sz [.ref (ad 0 0), .int a1]) (k_Qi D G ad u r2 sz) 0 0 (k_A ad sz) := by
  refine k_ofW (by decide +kernel) hI (Nat.le_of_ble_eq_true rfl) ?_
  intro p e s m args below meth c X hr hlk hU hS ls hl
  have hl : lv_has ls 2 [(0, .ref (ad 0 0)), (1, .int a1)] := hl
  have J15 : ∀ (H : Heap) (locs : List Loc) (ls : Array Slot), k_Uv D G ad u H → va_S (k_A ad sz) s.heap H locs → lv_has ls 2 [] → f_X10_output_15 u a1 = some (Sum.inl r2) → W p l e rm_X10_output s m args below meth c H locs 0 0 (MQ below (k_Qi D G ad u r2 sz) args s 0 0 (k_A ad sz)) (F0 m 15 ls []) := by
    intro H locs ls hU hS hl hf
    unfold f_X10_output_15 at hf
    exact absurd hf k_ninl0
  unfold f_X10_output at hf
  refine lv_iload_n X.1 X.2.1 dX10_output_0 rfl (lv_at hl 1 rfl) ?_
  refine lv_if_lt (tgt := 15) X.1 X.2.1 dX10_output_1 (by decide) (fun c1 => ?_) (fun c1 => ?_)
  · replace hf := k_ifP hf c1
    exact J15 _ _ _ hU hS (lv_sub hl [] rfl) hf
  · replace hf := k_ifN hf c1
    refine lv_iload_n X.1 X.2.1 dX10_output_4 rfl (lv_at hl 1 rfl) ?_
    refine lv_aload_n X.1 X.2.1 dX10_output_5 rfl (lv_at hl 0 rfl) ?_
    refine k_get (v := .ref (ad 3 0)) X hU sh_0_0 fl_X10_62 rfl dX10_output_6 ?_
    refine k_get (v := .int (u 3 0 1)) X hU sh_3_0 fl_X10_431 rfl dX10_output_9 ?_
    refine lv_icmp_lt (tgt := 26) X.1 X.2.1 dX10_output_12 (by decide) (fun c12 => ?_) (fun c12 => ?_)
    · replace hf := k_ifP hf c12
      refine lv_aload_n X.1 X.2.1 dX10_output_26 rfl (lv_at hl 0 rfl) ?_
      refine k_get (v := .ref (ad 3 0)) X hU sh_0_0 fl_X10_62 rfl dX10_output_27 ?_
      refine k_get (v := .ref (ad 3 1)) X hU sh_3_0 fl_X10_434 rfl dX10_output_30 ?_
      refine lv_iload_n X.1 X.2.1 dX10_output_33 rfl (lv_at hl 1 rfl) ?_
      obtain ⟨hi34, hf⟩ := k_ckE hf
      refine k_ild (j0 := a1.toNatClampNeg) X hU sh_3_1 (k_vin (n := 64) hi34 (by decide)) rfl dX10_output_34 ?_
      have hz := k_injl0 hf
      subst hz
      exact k_iret (v := u 3 1 a1.toNatClampNeg) X hU hS hr hlk rfl rfl dX10_output_35
    · replace hf := k_ifN hf c12
      exact J15 _ _ _ hU hS (lv_sub hl [] rfl) hf
def rx_X10_output : Room := { frames := 6, cells := 1, slots := 6, locals := 90 }
set_option maxRecDepth 100000 in
set_option maxHeartbeats 4000000 in
theorem x_X10_output {l : Launch} {D : va_G} {G : Nat → ClassId} {ad : Nat → Nat → Nat} {u : k_U} (hI : k_ok ad) (hlT : l.stackTraces = false) {a1 : Int32} {sz : Nat} {j : Nat} (hf : f_X10_output u a1 = some (Sum.inr j)) : vx_Met l yX10_output (.code yX10_output cX10_output 2 (some .int) :: lw_g) rx_X10_output (k_Pre D G ad u sz [.ref (ad 0 0), .int a1]) (k_Qn ad sz) (k_XC D G ad u j sz) 1 6 (k_A ad sz) := by
  refine k_xofW (by decide +kernel) hI (Nat.le_of_ble_eq_true rfl) ?_
  intro p e s m args below meth c X hr hlk hex hU hS ls hl
  have hl : lv_has ls 2 [(0, .ref (ad 0 0)), (1, .int a1)] := hl
  have J15 : ∀ (H : Heap) (locs : List Loc) (ls : Array Slot), k_Uv D G ad u H → va_S (k_A ad sz) s.heap H locs → lv_has ls 2 [] → f_X10_output_15 u a1 = some (Sum.inr j) → W p l e rx_X10_output s m args below meth c H locs 0 0 (vx_MQ below (k_Qn ad sz) (k_XC D G ad u j sz) args s 1 6 (k_A ad sz)) (F0 m 15 ls []) := by
    intro H locs ls hU hS hl hf
    unfold f_X10_output_15 at hf
    have hz := k_injr0 hf
    subst hz
    exact k_thrSW X hlT hU hS (i := 51) rfl xw_238 (by decide +kernel) rfl hl.1 dX10_output_15 dX10_output_18 dX10_output_19 dX10_output_22 dX10_output_25 hex (Nat.le_of_ble_eq_true rfl) (Nat.le_of_ble_eq_true rfl) ⟨Nat.le_of_ble_eq_true rfl, Nat.le_of_ble_eq_true rfl⟩ hlk ⟨Nat.le_of_ble_eq_true rfl, Nat.le_of_ble_eq_true rfl⟩
  unfold f_X10_output at hf
  refine lv_iload_n X.1 X.2.1 dX10_output_0 rfl (lv_at hl 1 rfl) ?_
  refine lv_if_lt (tgt := 15) X.1 X.2.1 dX10_output_1 (by decide) (fun c1 => ?_) (fun c1 => ?_)
  · replace hf := k_ifP hf c1
    exact J15 _ _ _ hU hS (lv_sub hl [] rfl) hf
  · replace hf := k_ifN hf c1
    refine lv_iload_n X.1 X.2.1 dX10_output_4 rfl (lv_at hl 1 rfl) ?_
    refine lv_aload_n X.1 X.2.1 dX10_output_5 rfl (lv_at hl 0 rfl) ?_
    refine k_get (v := .ref (ad 3 0)) X hU sh_0_0 fl_X10_62 rfl dX10_output_6 ?_
    refine k_get (v := .int (u 3 0 1)) X hU sh_3_0 fl_X10_431 rfl dX10_output_9 ?_
    refine lv_icmp_lt (tgt := 26) X.1 X.2.1 dX10_output_12 (by decide) (fun c12 => ?_) (fun c12 => ?_)
    · replace hf := k_ifP hf c12
      refine lv_aload_n X.1 X.2.1 dX10_output_26 rfl (lv_at hl 0 rfl) ?_
      refine k_get (v := .ref (ad 3 0)) X hU sh_0_0 fl_X10_62 rfl dX10_output_27 ?_
      refine k_get (v := .ref (ad 3 1)) X hU sh_3_0 fl_X10_434 rfl dX10_output_30 ?_
      refine lv_iload_n X.1 X.2.1 dX10_output_33 rfl (lv_at hl 1 rfl) ?_
      obtain ⟨hi34, hf⟩ := k_ckE hf
      refine k_ild (j0 := a1.toNatClampNeg) X hU sh_3_1 (k_vin (n := 64) hi34 (by decide)) rfl dX10_output_34 ?_
      exact absurd hf k_ninr0
    · replace hf := k_ifN hf c12
      exact J15 _ _ _ hU hS (lv_sub hl [] rfl) hf
def rm_X3_bringBack : Room := { frames := 3, cells := 0, slots := 0, locals := 67 }
set_option maxRecDepth 100000 in
set_option maxHeartbeats 4000000 in
theorem c_X3_bringBack {l : Launch} {D : va_G} {G : Nat → ClassId} {ad : Nat → Nat → Nat} {u : k_U} (hI : k_ok ad) {sz : Nat} {r : k_U} (hf : f_X3_bringBack u = some r) : Met l yX3_bringBack (.code yX3_bringBack cX3_bringBack 2 none :: lw_g) rm_X3_bringBack (k_Pre D G ad u sz [.ref (ad 4 0), .ref (ad 10 0)]) (k_Qv D G ad r sz) 0 0 (k_A ad sz) := by
  refine k_ofW (by decide +kernel) hI (Nat.le_of_ble_eq_true rfl) ?_
  intro p e s m args below meth c X hr hlk hU hS ls hl
  have hl : lv_has ls 2 [(0, .ref (ad 4 0)), (1, .ref (ad 10 0))] := hl
  unfold f_X3_bringBack at hf
  refine lv_aload_n X.1 X.2.1 dX3_bringBack_0 rfl (lv_at hl 0 rfl) ?_
  refine k_get (v := .int (u 4 0 2)) X hU sh_4_0 fl_X3_16 rfl dX3_bringBack_1 ?_
  refine lv_if_le (tgt := 46) X.1 X.2.1 dX3_bringBack_4 (by decide) (fun c4 => ?_) (fun c4 => ?_)
  · replace hf := k_ifP hf c4
    have hz := Option.some.inj hf
    subst hz
    exact k_vret X hU hS hr hlk dX3_bringBack_46
  · replace hf := k_ifN hf c4
    refine lv_aload_n X.1 X.2.1 dX3_bringBack_7 rfl (lv_at hl 0 rfl) ?_
    refine lv_aload_n X.1 X.2.1 dX3_bringBack_8 rfl (lv_at hl 0 rfl) ?_
    refine k_get (v := .int (u 4 0 1)) X hU sh_4_0 fl_X3_20 rfl dX3_bringBack_9 ?_
    refine lv_bipush (v := 8) X.1 X.2.1 dX3_bringBack_12 (by decide) ?_
    refine lv_iadd X.1 X.2.1 dX3_bringBack_14 ?_
    refine lv_iconst (v := 1) X.1 X.2.1 dX3_bringBack_15 (by decide) ?_
    refine lv_isub X.1 X.2.1 dX3_bringBack_16 ?_
    refine lv_bipush (v := 8) X.1 X.2.1 dX3_bringBack_17 (by decide) ?_
    refine lv_irem X.1 X.2.1 dX3_bringBack_19 (by decide) ?_
    obtain ⟨u20, e20, hf⟩ := k_ltE hf
    refine k_put X hU hS sh_4_0 fp_X3_20 rfl rfl rfl rfl dX3_bringBack_20 (fun H locs hU hS => ?_)
    rw [← e20] at hU
    refine lv_aload_n X.1 X.2.1 dX3_bringBack_23 rfl (lv_at hl 0 rfl) ?_
    refine lv_dup X.1 X.2.1 dX3_bringBack_24 rfl ?_
    refine k_get (v := .int (u20 4 0 2)) X hU sh_4_0 fl_X3_16 rfl dX3_bringBack_25 ?_
    refine lv_iconst (v := 1) X.1 X.2.1 dX3_bringBack_28 (by decide) ?_
    refine lv_isub X.1 X.2.1 dX3_bringBack_29 ?_
    obtain ⟨u30, e30, hf⟩ := k_ltE hf
    refine k_put X hU hS sh_4_0 fp_X3_16 rfl rfl rfl rfl dX3_bringBack_30 (fun H locs hU hS => ?_)
    rw [← e30] at hU
    refine lv_aload_n X.1 X.2.1 dX3_bringBack_33 rfl (lv_at hl 1 rfl) ?_
    refine lv_aload_n X.1 X.2.1 dX3_bringBack_34 rfl (lv_at hl 0 rfl) ?_
    refine k_get (v := .ref (ad 4 1)) X hU sh_4_0 fl_X3_11 rfl dX3_bringBack_35 ?_
    refine lv_aload_n X.1 X.2.1 dX3_bringBack_38 rfl (lv_at hl 0 rfl) ?_
    refine k_get (v := .int (u30 4 0 1)) X hU sh_4_0 fl_X3_20 rfl dX3_bringBack_39 ?_
    obtain ⟨hi42, hf⟩ := k_ckE hf
    have hj42 := (k_vin (n := 8) hi42 (by decide))
    refine k_ald (C := "LayeredChute$World") (tag := 24) (t0 := 4) (z := ((15 + (u30 4 0 1).toNatClampNeg), 0)) X hU ⟨by decide, by decide⟩ rfl sh_4_1 hj42 (k_rSt_at hj42) dX3_bringBack_42 ?_
    obtain ⟨r43, hr43, hf⟩ := k_bdE hf
    refine k_backv X hS (k_runV (As := [.ref (ad (15 + (u30 4 0 1).toNatClampNeg) 0)]) (rest := []) X hS hU (sW_0 k_isW_10) (by decide) rfl vl_X3_23 (c_X9_copyFrom X.2.2.2.2.2.2.1 k_isW_10 (k_isW_st (k_vlt hj42)) (by omega) rfl rfl hr43) rfl rfl rfl hl.1 ⟨Nat.le_of_ble_eq_true rfl, Nat.le_of_ble_eq_true rfl⟩ (Nat.le_of_ble_eq_true rfl) dX3_bringBack_43 ⟨Nat.zero_le _, Nat.zero_le _⟩) (fun H locs hU hS => ?_)
    obtain ⟨u43, e43, hf⟩ := k_ltE hf
    rw [← e43] at hU
    have hz := Option.some.inj hf
    subst hz
    exact k_vret X hU hS hr hlk dX3_bringBack_46
def rm_X10_undo : Room := { frames := 4, cells := 0, slots := 0, locals := 88 }
set_option maxRecDepth 100000 in
set_option maxHeartbeats 4000000 in
theorem c_X10_undo {l : Launch} {D : va_G} {G : Nat → ClassId} {ad : Nat → Nat → Nat} {u : k_U} (hI : k_ok ad) {sz : Nat} {r1 : k_U} {r2 : Int32} (hf : f_X10_undo u = some (r1, Sum.inl r2)) : Met l yX10_undo (.code yX10_undo cX10_undo 1 (some .int) :: lw_g) rm_X10_undo (k_Pre D G ad u sz [.ref (ad 0 0)]) (k_Qi D G ad r1 r2 sz) 0 0 (k_A ad sz) := by
  refine k_ofW (by decide +kernel) hI (Nat.le_of_ble_eq_true rfl) ?_
  intro p e s m args below meth c X hr hlk hU hS ls hl
  have hl : lv_has ls 1 [(0, .ref (ad 0 0))] := hl
  unfold f_X10_undo at hf
  refine lv_aload_n X.1 X.2.1 dX10_undo_0 rfl (lv_at hl 0 rfl) ?_
  refine k_get (v := .ref (ad 4 0)) X hU sh_0_0 fl_X10_43 rfl dX10_undo_1 ?_
  refine k_get (v := .int (u 4 0 2)) X hU sh_4_0 fl_X10_224 rfl dX10_undo_4 ?_
  refine lv_if_ne (tgt := 21) X.1 X.2.1 dX10_undo_7 (by decide) (fun c7 => ?_) (fun c7 => ?_)
  · replace hf := k_ifN hf c7
    refine lv_aload_n X.1 X.2.1 dX10_undo_21 rfl (lv_at hl 0 rfl) ?_
    refine k_get (v := .ref (ad 4 0)) X hU sh_0_0 fl_X10_43 rfl dX10_undo_22 ?_
    refine lv_aload_n X.1 X.2.1 dX10_undo_25 rfl (lv_at hl 0 rfl) ?_
    refine k_get (v := .ref (ad 10 0)) X hU sh_0_0 fl_X10_33 rfl dX10_undo_26 ?_
    obtain ⟨r29, hr29, hf⟩ := k_bdE hf
    refine k_backv X hS (k_runV (As := [.ref (ad 10 0)]) (rest := []) X hS hU sh_4_0 (by decide) rfl vl_X10_439 (c_X3_bringBack X.2.2.2.2.2.2.1 hr29) rfl rfl rfl hl.1 ⟨Nat.le_of_ble_eq_true rfl, Nat.le_of_ble_eq_true rfl⟩ (Nat.le_of_ble_eq_true rfl) dX10_undo_29 ⟨Nat.zero_le _, Nat.zero_le _⟩) (fun H locs hU hS => ?_)
    refine lv_aload_n X.1 X.2.1 dX10_undo_32 rfl (lv_at hl 0 rfl) ?_
    refine k_get (v := .ref (ad 4 0)) X hU sh_0_0 fl_X10_43 rfl dX10_undo_33 ?_
    refine k_get (v := .int (r29 4 0 2)) X hU sh_4_0 fl_X10_224 rfl dX10_undo_36 ?_
    obtain ⟨hz1, hz2⟩ := k_injl hf
    subst hz1
    subst hz2
    exact k_iret (v := r29 4 0 2) X hU hS hr hlk rfl rfl dX10_undo_39
  · replace hf := k_ifP hf c7
    exact absurd hf k_ninl
def rx_X10_undo : Room := { frames := 6, cells := 1, slots := 6, locals := 90 }
set_option maxRecDepth 100000 in
set_option maxHeartbeats 4000000 in
theorem x_X10_undo {l : Launch} {D : va_G} {G : Nat → ClassId} {ad : Nat → Nat → Nat} {u : k_U} (hI : k_ok ad) (hlT : l.stackTraces = false) {sz : Nat} {r1 : k_U} {j : Nat} (hf : f_X10_undo u = some (r1, Sum.inr j)) : vx_Met l yX10_undo (.code yX10_undo cX10_undo 1 (some .int) :: lw_g) rx_X10_undo (k_Pre D G ad u sz [.ref (ad 0 0)]) (k_Qn ad sz) (k_XC D G ad r1 j sz) 1 6 (k_A ad sz) := by
  refine k_xofW (by decide +kernel) hI (Nat.le_of_ble_eq_true rfl) ?_
  intro p e s m args below meth c X hr hlk hex hU hS ls hl
  have hl : lv_has ls 1 [(0, .ref (ad 0 0))] := hl
  unfold f_X10_undo at hf
  refine lv_aload_n X.1 X.2.1 dX10_undo_0 rfl (lv_at hl 0 rfl) ?_
  refine k_get (v := .ref (ad 4 0)) X hU sh_0_0 fl_X10_43 rfl dX10_undo_1 ?_
  refine k_get (v := .int (u 4 0 2)) X hU sh_4_0 fl_X10_224 rfl dX10_undo_4 ?_
  refine lv_if_ne (tgt := 21) X.1 X.2.1 dX10_undo_7 (by decide) (fun c7 => ?_) (fun c7 => ?_)
  · replace hf := k_ifN hf c7
    refine lv_aload_n X.1 X.2.1 dX10_undo_21 rfl (lv_at hl 0 rfl) ?_
    refine k_get (v := .ref (ad 4 0)) X hU sh_0_0 fl_X10_43 rfl dX10_undo_22 ?_
    refine lv_aload_n X.1 X.2.1 dX10_undo_25 rfl (lv_at hl 0 rfl) ?_
    refine k_get (v := .ref (ad 10 0)) X hU sh_0_0 fl_X10_33 rfl dX10_undo_26 ?_
    obtain ⟨r29, hr29, hf⟩ := k_bdE hf
    refine k_backv X hS (k_runV (As := [.ref (ad 10 0)]) (rest := []) X hS hU sh_4_0 (by decide) rfl vl_X10_439 (c_X3_bringBack X.2.2.2.2.2.2.1 hr29) rfl rfl rfl hl.1 ⟨Nat.le_of_ble_eq_true rfl, Nat.le_of_ble_eq_true rfl⟩ (Nat.le_of_ble_eq_true rfl) dX10_undo_29 ⟨Nat.zero_le _, Nat.zero_le _⟩) (fun H locs hU hS => ?_)
    refine lv_aload_n X.1 X.2.1 dX10_undo_32 rfl (lv_at hl 0 rfl) ?_
    refine k_get (v := .ref (ad 4 0)) X hU sh_0_0 fl_X10_43 rfl dX10_undo_33 ?_
    refine k_get (v := .int (r29 4 0 2)) X hU sh_4_0 fl_X10_224 rfl dX10_undo_36 ?_
    exact absurd hf k_ninr
  · replace hf := k_ifP hf c7
    obtain ⟨hz1, hz2⟩ := k_injr hf
    subst hz1
    subst hz2
    exact k_thrSW X hlT hU hS (i := 52) rfl xw_78 (by decide +kernel) rfl hl.1 dX10_undo_10 dX10_undo_13 dX10_undo_14 dX10_undo_17 dX10_undo_20 hex (Nat.le_of_ble_eq_true rfl) (Nat.le_of_ble_eq_true rfl) ⟨Nat.le_of_ble_eq_true rfl, Nat.le_of_ble_eq_true rfl⟩ hlk ⟨Nat.le_of_ble_eq_true rfl, Nat.le_of_ble_eq_true rfl⟩
def rm_X10_save : Room := { frames := 3, cells := 0, slots := 0, locals := 67 }
set_option maxRecDepth 100000 in
set_option maxHeartbeats 4000000 in
theorem c_X10_save {l : Launch} {D : va_G} {G : Nat → ClassId} {ad : Nat → Nat → Nat} {u : k_U} (hI : k_ok ad) {a1 : Int32} {sz : Nat} {r1 : k_U} {r2 : Int32} (hf : f_X10_save u a1 = some (r1, Sum.inl r2)) : Met l yX10_save (.code yX10_save cX10_save 2 (some .int) :: lw_g) rm_X10_save (k_Pre D G ad u sz [.ref (ad 0 0), .int a1]) (k_Qi D G ad r1 r2 sz) 0 0 (k_A ad sz) := by
  refine k_ofW (by decide +kernel) hI (Nat.le_of_ble_eq_true rfl) ?_
  intro p e s m args below meth c X hr hlk hU hS ls hl
  have hl : lv_has ls 2 [(0, .ref (ad 0 0)), (1, .int a1)] := hl
  have J9 : ∀ (H : Heap) (locs : List Loc) (ls : Array Slot) (u : k_U), k_Uv D G ad u H → va_S (k_A ad sz) s.heap H locs → lv_has ls 2 [] → f_X10_save_9 u a1 = some (r1, Sum.inl r2) → W p l e rm_X10_save s m args below meth c H locs 0 0 (MQ below (k_Qi D G ad r1 r2 sz) args s 0 0 (k_A ad sz)) (F0 m 9 ls []) := by
    intro H locs ls u hU hS hl hf
    unfold f_X10_save_9 at hf
    exact absurd hf k_ninl
  unfold f_X10_save at hf
  refine lv_iload_n X.1 X.2.1 dX10_save_0 rfl (lv_at hl 1 rfl) ?_
  refine lv_if_lt (tgt := 9) X.1 X.2.1 dX10_save_1 (by decide) (fun c1 => ?_) (fun c1 => ?_)
  · replace hf := k_ifP hf c1
    exact J9 _ _ _ u hU hS (lv_sub hl [] rfl) hf
  · replace hf := k_ifN hf c1
    refine lv_iload_n X.1 X.2.1 dX10_save_4 rfl (lv_at hl 1 rfl) ?_
    refine lv_iconst (v := 2) X.1 X.2.1 dX10_save_5 (by decide) ?_
    refine lv_icmp_lt (tgt := 20) X.1 X.2.1 dX10_save_6 (by decide) (fun c6 => ?_) (fun c6 => ?_)
    · replace hf := k_ifP hf c6
      refine lv_aload_n X.1 X.2.1 dX10_save_20 rfl (lv_at hl 0 rfl) ?_
      refine k_get (v := .ref (ad 0 1)) X hU sh_0_0 fl_X10_47 rfl dX10_save_21 ?_
      refine lv_iload_n X.1 X.2.1 dX10_save_24 rfl (lv_at hl 1 rfl) ?_
      obtain ⟨hi25, hf⟩ := k_ckE hf
      have hj25 := (k_vin (n := 2) hi25 (by decide))
      refine k_ald (C := "LayeredChute$World") (tag := 24) (t0 := 4) (z := ((12 + a1.toNatClampNeg), 0)) X hU ⟨by decide, by decide⟩ rfl sh_0_1 hj25 (k_rSv_at hj25) dX10_save_25 ?_
      refine lv_aload_n X.1 X.2.1 dX10_save_26 rfl (lv_at hl 0 rfl) ?_
      refine k_get (v := .ref (ad 10 0)) X hU sh_0_0 fl_X10_33 rfl dX10_save_27 ?_
      obtain ⟨r30, hr30, hf⟩ := k_bdE hf
      refine k_backv X hS (k_runV (As := [.ref (ad 10 0)]) (rest := []) X hS hU (sW_0 (k_isW_sv (k_vlt hj25))) (by decide) rfl vl_X10_103 (c_X9_copyFrom X.2.2.2.2.2.2.1 (k_isW_sv (k_vlt hj25)) k_isW_10 (by omega) rfl rfl hr30) rfl rfl rfl hl.1 ⟨Nat.le_of_ble_eq_true rfl, Nat.le_of_ble_eq_true rfl⟩ (Nat.le_of_ble_eq_true rfl) dX10_save_30 ⟨Nat.zero_le _, Nat.zero_le _⟩) (fun H locs hU hS => ?_)
      obtain ⟨u30, e30, hf⟩ := k_ltE hf
      rw [← e30] at hU
      refine lv_aload_n X.1 X.2.1 dX10_save_33 rfl (lv_at hl 0 rfl) ?_
      refine k_get (v := .ref (ad 0 2)) X hU sh_0_0 fl_X10_51 rfl dX10_save_34 ?_
      refine lv_iload_n X.1 X.2.1 dX10_save_37 rfl (lv_at hl 1 rfl) ?_
      refine lv_iconst (v := 1) X.1 X.2.1 dX10_save_38 (by decide) ?_
      obtain ⟨hi39, hf⟩ := k_ckE hf
      obtain ⟨u39, e39, hf⟩ := k_ltE hf
      refine k_zst (j0 := a1.toNatClampNeg) X hU hS sh_0_2 rfl (k_vin (n := 2) hi39 (by decide)) rfl dX10_save_39 (fun H locs hU hS => ?_)
      rw [← e39] at hU
      refine lv_aload_n X.1 X.2.1 dX10_save_40 rfl (lv_at hl 0 rfl) ?_
      refine k_get (v := .ref (ad 10 0)) X hU sh_0_0 fl_X10_33 rfl dX10_save_41 ?_
      refine k_get (v := .int (u39 10 0 6)) X hU (sW_0 k_isW_10) fl_X10_171 rfl dX10_save_44 ?_
      obtain ⟨hz1, hz2⟩ := k_injl hf
      subst hz1
      subst hz2
      exact k_iret (v := u39 10 0 6) X hU hS hr hlk rfl rfl dX10_save_47
    · replace hf := k_ifN hf c6
      exact J9 _ _ _ u hU hS (lv_sub hl [] rfl) hf
def rx_X10_save : Room := { frames := 6, cells := 1, slots := 6, locals := 90 }
set_option maxRecDepth 100000 in
set_option maxHeartbeats 4000000 in
theorem x_X10_save {l : Launch} {D : va_G} {G : Nat → ClassId} {ad : Nat → Nat → Nat} {u : k_U} (hI : k_ok ad) (hlT : l.stackTraces = false) {a1 : Int32} {sz : Nat} {r1 : k_U} {j : Nat} (hf : f_X10_save u a1 = some (r1, Sum.inr j)) : vx_Met l yX10_save (.code yX10_save cX10_save 2 (some .int) :: lw_g) rx_X10_save (k_Pre D G ad u sz [.ref (ad 0 0), .int a1]) (k_Qn ad sz) (k_XC D G ad r1 j sz) 1 6 (k_A ad sz) := by
  refine k_xofW (by decide +kernel) hI (Nat.le_of_ble_eq_true rfl) ?_
  intro p e s m args below meth c X hr hlk hex hU hS ls hl
  have hl : lv_has ls 2 [(0, .ref (ad 0 0)), (1, .int a1)] := hl
  have J9 : ∀ (H : Heap) (locs : List Loc) (ls : Array Slot) (u : k_U), k_Uv D G ad u H → va_S (k_A ad sz) s.heap H locs → lv_has ls 2 [] → f_X10_save_9 u a1 = some (r1, Sum.inr j) → W p l e rx_X10_save s m args below meth c H locs 0 0 (vx_MQ below (k_Qn ad sz) (k_XC D G ad r1 j sz) args s 1 6 (k_A ad sz)) (F0 m 9 ls []) := by
    intro H locs ls u hU hS hl hf
    unfold f_X10_save_9 at hf
    obtain ⟨hz1, hz2⟩ := k_injr hf
    subst hz1
    subst hz2
    exact k_thrSW X hlT hU hS (i := 53) rfl xw_238 (by decide +kernel) rfl hl.1 dX10_save_9 dX10_save_12 dX10_save_13 dX10_save_16 dX10_save_19 hex (Nat.le_of_ble_eq_true rfl) (Nat.le_of_ble_eq_true rfl) ⟨Nat.le_of_ble_eq_true rfl, Nat.le_of_ble_eq_true rfl⟩ hlk ⟨Nat.le_of_ble_eq_true rfl, Nat.le_of_ble_eq_true rfl⟩
  unfold f_X10_save at hf
  refine lv_iload_n X.1 X.2.1 dX10_save_0 rfl (lv_at hl 1 rfl) ?_
  refine lv_if_lt (tgt := 9) X.1 X.2.1 dX10_save_1 (by decide) (fun c1 => ?_) (fun c1 => ?_)
  · replace hf := k_ifP hf c1
    exact J9 _ _ _ u hU hS (lv_sub hl [] rfl) hf
  · replace hf := k_ifN hf c1
    refine lv_iload_n X.1 X.2.1 dX10_save_4 rfl (lv_at hl 1 rfl) ?_
    refine lv_iconst (v := 2) X.1 X.2.1 dX10_save_5 (by decide) ?_
    refine lv_icmp_lt (tgt := 20) X.1 X.2.1 dX10_save_6 (by decide) (fun c6 => ?_) (fun c6 => ?_)
    · replace hf := k_ifP hf c6
      refine lv_aload_n X.1 X.2.1 dX10_save_20 rfl (lv_at hl 0 rfl) ?_
      refine k_get (v := .ref (ad 0 1)) X hU sh_0_0 fl_X10_47 rfl dX10_save_21 ?_
      refine lv_iload_n X.1 X.2.1 dX10_save_24 rfl (lv_at hl 1 rfl) ?_
      obtain ⟨hi25, hf⟩ := k_ckE hf
      have hj25 := (k_vin (n := 2) hi25 (by decide))
      refine k_ald (C := "LayeredChute$World") (tag := 24) (t0 := 4) (z := ((12 + a1.toNatClampNeg), 0)) X hU ⟨by decide, by decide⟩ rfl sh_0_1 hj25 (k_rSv_at hj25) dX10_save_25 ?_
      refine lv_aload_n X.1 X.2.1 dX10_save_26 rfl (lv_at hl 0 rfl) ?_
      refine k_get (v := .ref (ad 10 0)) X hU sh_0_0 fl_X10_33 rfl dX10_save_27 ?_
      obtain ⟨r30, hr30, hf⟩ := k_bdE hf
      refine k_backv X hS (k_runV (As := [.ref (ad 10 0)]) (rest := []) X hS hU (sW_0 (k_isW_sv (k_vlt hj25))) (by decide) rfl vl_X10_103 (c_X9_copyFrom X.2.2.2.2.2.2.1 (k_isW_sv (k_vlt hj25)) k_isW_10 (by omega) rfl rfl hr30) rfl rfl rfl hl.1 ⟨Nat.le_of_ble_eq_true rfl, Nat.le_of_ble_eq_true rfl⟩ (Nat.le_of_ble_eq_true rfl) dX10_save_30 ⟨Nat.zero_le _, Nat.zero_le _⟩) (fun H locs hU hS => ?_)
      obtain ⟨u30, e30, hf⟩ := k_ltE hf
      rw [← e30] at hU
      refine lv_aload_n X.1 X.2.1 dX10_save_33 rfl (lv_at hl 0 rfl) ?_
      refine k_get (v := .ref (ad 0 2)) X hU sh_0_0 fl_X10_51 rfl dX10_save_34 ?_
      refine lv_iload_n X.1 X.2.1 dX10_save_37 rfl (lv_at hl 1 rfl) ?_
      refine lv_iconst (v := 1) X.1 X.2.1 dX10_save_38 (by decide) ?_
      obtain ⟨hi39, hf⟩ := k_ckE hf
      obtain ⟨u39, e39, hf⟩ := k_ltE hf
      refine k_zst (j0 := a1.toNatClampNeg) X hU hS sh_0_2 rfl (k_vin (n := 2) hi39 (by decide)) rfl dX10_save_39 (fun H locs hU hS => ?_)
      rw [← e39] at hU
      refine lv_aload_n X.1 X.2.1 dX10_save_40 rfl (lv_at hl 0 rfl) ?_
      refine k_get (v := .ref (ad 10 0)) X hU sh_0_0 fl_X10_33 rfl dX10_save_41 ?_
      refine k_get (v := .int (u39 10 0 6)) X hU (sW_0 k_isW_10) fl_X10_171 rfl dX10_save_44 ?_
      exact absurd hf k_ninr
    · replace hf := k_ifN hf c6
      exact J9 _ _ _ u hU hS (lv_sub hl [] rfl) hf
def rm_X10_restore : Room := { frames := 3, cells := 0, slots := 0, locals := 67 }
set_option maxRecDepth 100000 in
set_option maxHeartbeats 4000000 in
theorem c_X10_restore {l : Launch} {D : va_G} {G : Nat → ClassId} {ad : Nat → Nat → Nat} {u : k_U} (hI : k_ok ad) {a1 : Int32} {sz : Nat} {r1 : k_U} {r2 : Int32} (hf : f_X10_restore u a1 = some (r1, Sum.inl r2)) : Met l yX10_restore (.code yX10_restore cX10_restore 2 (some .int) :: lw_g) rm_X10_restore (k_Pre D G ad u sz [.ref (ad 0 0), .int a1]) (k_Qi D G ad r1 r2 sz) 0 0 (k_A ad sz) := by
  refine k_ofW (by decide +kernel) hI (Nat.le_of_ble_eq_true rfl) ?_
  intro p e s m args below meth c X hr hlk hU hS ls hl
  have hl : lv_has ls 2 [(0, .ref (ad 0 0)), (1, .int a1)] := hl
  have J9 : ∀ (H : Heap) (locs : List Loc) (ls : Array Slot) (u : k_U), k_Uv D G ad u H → va_S (k_A ad sz) s.heap H locs → lv_has ls 2 [] → f_X10_restore_9 u a1 = some (r1, Sum.inl r2) → W p l e rm_X10_restore s m args below meth c H locs 0 0 (MQ below (k_Qi D G ad r1 r2 sz) args s 0 0 (k_A ad sz)) (F0 m 9 ls []) := by
    intro H locs ls u hU hS hl hf
    unfold f_X10_restore_9 at hf
    exact absurd hf k_ninl
  unfold f_X10_restore at hf
  refine lv_iload_n X.1 X.2.1 dX10_restore_0 rfl (lv_at hl 1 rfl) ?_
  refine lv_if_lt (tgt := 9) X.1 X.2.1 dX10_restore_1 (by decide) (fun c1 => ?_) (fun c1 => ?_)
  · replace hf := k_ifP hf c1
    exact J9 _ _ _ u hU hS (lv_sub hl [] rfl) hf
  · replace hf := k_ifN hf c1
    refine lv_iload_n X.1 X.2.1 dX10_restore_4 rfl (lv_at hl 1 rfl) ?_
    refine lv_iconst (v := 2) X.1 X.2.1 dX10_restore_5 (by decide) ?_
    refine lv_icmp_lt (tgt := 20) X.1 X.2.1 dX10_restore_6 (by decide) (fun c6 => ?_) (fun c6 => ?_)
    · replace hf := k_ifP hf c6
      refine lv_aload_n X.1 X.2.1 dX10_restore_20 rfl (lv_at hl 0 rfl) ?_
      refine k_get (v := .ref (ad 0 2)) X hU sh_0_0 fl_X10_51 rfl dX10_restore_21 ?_
      refine lv_iload_n X.1 X.2.1 dX10_restore_24 rfl (lv_at hl 1 rfl) ?_
      obtain ⟨hi25, hf⟩ := k_ckE hf
      refine k_zld (j0 := a1.toNatClampNeg) X hU sh_0_2 (k_vin (n := 2) hi25 (by decide)) rfl dX10_restore_25 ?_
      refine lv_if_ne (tgt := 40) X.1 X.2.1 dX10_restore_26 (by decide) (fun c26 => ?_) (fun c26 => ?_)
      · replace hf := k_ifN hf c26
        refine lv_aload_n X.1 X.2.1 dX10_restore_40 rfl (lv_at hl 0 rfl) ?_
        refine k_get (v := .ref (ad 10 0)) X hU sh_0_0 fl_X10_33 rfl dX10_restore_41 ?_
        refine lv_aload_n X.1 X.2.1 dX10_restore_44 rfl (lv_at hl 0 rfl) ?_
        refine k_get (v := .ref (ad 0 1)) X hU sh_0_0 fl_X10_47 rfl dX10_restore_45 ?_
        refine lv_iload_n X.1 X.2.1 dX10_restore_48 rfl (lv_at hl 1 rfl) ?_
        obtain ⟨hi49, hf⟩ := k_ckE hf
        have hj49 := (k_vin (n := 2) hi49 (by decide))
        refine k_ald (C := "LayeredChute$World") (tag := 24) (t0 := 4) (z := ((12 + a1.toNatClampNeg), 0)) X hU ⟨by decide, by decide⟩ rfl sh_0_1 hj49 (k_rSv_at hj49) dX10_restore_49 ?_
        obtain ⟨r50, hr50, hf⟩ := k_bdE hf
        refine k_backv X hS (k_runV (As := [.ref (ad (12 + a1.toNatClampNeg) 0)]) (rest := []) X hS hU (sW_0 k_isW_10) (by decide) rfl vl_X10_103 (c_X9_copyFrom X.2.2.2.2.2.2.1 k_isW_10 (k_isW_sv (k_vlt hj49)) (by omega) rfl rfl hr50) rfl rfl rfl hl.1 ⟨Nat.le_of_ble_eq_true rfl, Nat.le_of_ble_eq_true rfl⟩ (Nat.le_of_ble_eq_true rfl) dX10_restore_50 ⟨Nat.zero_le _, Nat.zero_le _⟩) (fun H locs hU hS => ?_)
        obtain ⟨u50, e50, hf⟩ := k_ltE hf
        rw [← e50] at hU
        refine lv_aload_n X.1 X.2.1 dX10_restore_53 rfl (lv_at hl 0 rfl) ?_
        refine k_get (v := .ref (ad 4 0)) X hU sh_0_0 fl_X10_43 rfl dX10_restore_54 ?_
        obtain ⟨r57, hr57, hf⟩ := k_bdE hf
        refine k_backv X hS (k_runV (As := []) (rest := []) X hS hU sh_4_0 (by decide) rfl vl_X10_107 (c_X3_forget X.2.2.2.2.2.2.1 hr57) rfl rfl rfl hl.1 ⟨Nat.le_of_ble_eq_true rfl, Nat.le_of_ble_eq_true rfl⟩ (Nat.le_of_ble_eq_true rfl) dX10_restore_57 ⟨Nat.zero_le _, Nat.zero_le _⟩) (fun H locs hU hS => ?_)
        refine lv_aload_n X.1 X.2.1 dX10_restore_60 rfl (lv_at hl 0 rfl) ?_
        refine k_get (v := .ref (ad 10 0)) X hU sh_0_0 fl_X10_33 rfl dX10_restore_61 ?_
        refine k_get (v := .int (r57 10 0 6)) X hU (sW_0 k_isW_10) fl_X10_171 rfl dX10_restore_64 ?_
        obtain ⟨hz1, hz2⟩ := k_injl hf
        subst hz1
        subst hz2
        exact k_iret (v := r57 10 0 6) X hU hS hr hlk rfl rfl dX10_restore_67
      · replace hf := k_ifP hf c26
        exact absurd hf k_ninl
    · replace hf := k_ifN hf c6
      exact J9 _ _ _ u hU hS (lv_sub hl [] rfl) hf
def rx_X10_restore : Room := { frames := 6, cells := 1, slots := 6, locals := 90 }
set_option maxRecDepth 100000 in
set_option maxHeartbeats 4000000 in
theorem x_X10_restore {l : Launch} {D : va_G} {G : Nat → ClassId} {ad : Nat → Nat → Nat} {u : k_U} (hI : k_ok ad) (hlT : l.stackTraces = false) {a1 : Int32} {sz : Nat} {r1 : k_U} {j : Nat} (hf : f_X10_restore u a1 = some (r1, Sum.inr j)) : vx_Met l yX10_restore (.code yX10_restore cX10_restore 2 (some .int) :: lw_g) rx_X10_restore (k_Pre D G ad u sz [.ref (ad 0 0), .int a1]) (k_Qn ad sz) (k_XC D G ad r1 j sz) 1 6 (k_A ad sz) := by
  refine k_xofW (by decide +kernel) hI (Nat.le_of_ble_eq_true rfl) ?_
  intro p e s m args below meth c X hr hlk hex hU hS ls hl
  have hl : lv_has ls 2 [(0, .ref (ad 0 0)), (1, .int a1)] := hl
  have J9 : ∀ (H : Heap) (locs : List Loc) (ls : Array Slot) (u : k_U), k_Uv D G ad u H → va_S (k_A ad sz) s.heap H locs → lv_has ls 2 [] → f_X10_restore_9 u a1 = some (r1, Sum.inr j) → W p l e rx_X10_restore s m args below meth c H locs 0 0 (vx_MQ below (k_Qn ad sz) (k_XC D G ad r1 j sz) args s 1 6 (k_A ad sz)) (F0 m 9 ls []) := by
    intro H locs ls u hU hS hl hf
    unfold f_X10_restore_9 at hf
    obtain ⟨hz1, hz2⟩ := k_injr hf
    subst hz1
    subst hz2
    exact k_thrSW X hlT hU hS (i := 53) rfl xw_238 (by decide +kernel) rfl hl.1 dX10_restore_9 dX10_restore_12 dX10_restore_13 dX10_restore_16 dX10_restore_19 hex (Nat.le_of_ble_eq_true rfl) (Nat.le_of_ble_eq_true rfl) ⟨Nat.le_of_ble_eq_true rfl, Nat.le_of_ble_eq_true rfl⟩ hlk ⟨Nat.le_of_ble_eq_true rfl, Nat.le_of_ble_eq_true rfl⟩
  unfold f_X10_restore at hf
  refine lv_iload_n X.1 X.2.1 dX10_restore_0 rfl (lv_at hl 1 rfl) ?_
  refine lv_if_lt (tgt := 9) X.1 X.2.1 dX10_restore_1 (by decide) (fun c1 => ?_) (fun c1 => ?_)
  · replace hf := k_ifP hf c1
    exact J9 _ _ _ u hU hS (lv_sub hl [] rfl) hf
  · replace hf := k_ifN hf c1
    refine lv_iload_n X.1 X.2.1 dX10_restore_4 rfl (lv_at hl 1 rfl) ?_
    refine lv_iconst (v := 2) X.1 X.2.1 dX10_restore_5 (by decide) ?_
    refine lv_icmp_lt (tgt := 20) X.1 X.2.1 dX10_restore_6 (by decide) (fun c6 => ?_) (fun c6 => ?_)
    · replace hf := k_ifP hf c6
      refine lv_aload_n X.1 X.2.1 dX10_restore_20 rfl (lv_at hl 0 rfl) ?_
      refine k_get (v := .ref (ad 0 2)) X hU sh_0_0 fl_X10_51 rfl dX10_restore_21 ?_
      refine lv_iload_n X.1 X.2.1 dX10_restore_24 rfl (lv_at hl 1 rfl) ?_
      obtain ⟨hi25, hf⟩ := k_ckE hf
      refine k_zld (j0 := a1.toNatClampNeg) X hU sh_0_2 (k_vin (n := 2) hi25 (by decide)) rfl dX10_restore_25 ?_
      refine lv_if_ne (tgt := 40) X.1 X.2.1 dX10_restore_26 (by decide) (fun c26 => ?_) (fun c26 => ?_)
      · replace hf := k_ifN hf c26
        refine lv_aload_n X.1 X.2.1 dX10_restore_40 rfl (lv_at hl 0 rfl) ?_
        refine k_get (v := .ref (ad 10 0)) X hU sh_0_0 fl_X10_33 rfl dX10_restore_41 ?_
        refine lv_aload_n X.1 X.2.1 dX10_restore_44 rfl (lv_at hl 0 rfl) ?_
        refine k_get (v := .ref (ad 0 1)) X hU sh_0_0 fl_X10_47 rfl dX10_restore_45 ?_
        refine lv_iload_n X.1 X.2.1 dX10_restore_48 rfl (lv_at hl 1 rfl) ?_
        obtain ⟨hi49, hf⟩ := k_ckE hf
        have hj49 := (k_vin (n := 2) hi49 (by decide))
        refine k_ald (C := "LayeredChute$World") (tag := 24) (t0 := 4) (z := ((12 + a1.toNatClampNeg), 0)) X hU ⟨by decide, by decide⟩ rfl sh_0_1 hj49 (k_rSv_at hj49) dX10_restore_49 ?_
        obtain ⟨r50, hr50, hf⟩ := k_bdE hf
        refine k_backv X hS (k_runV (As := [.ref (ad (12 + a1.toNatClampNeg) 0)]) (rest := []) X hS hU (sW_0 k_isW_10) (by decide) rfl vl_X10_103 (c_X9_copyFrom X.2.2.2.2.2.2.1 k_isW_10 (k_isW_sv (k_vlt hj49)) (by omega) rfl rfl hr50) rfl rfl rfl hl.1 ⟨Nat.le_of_ble_eq_true rfl, Nat.le_of_ble_eq_true rfl⟩ (Nat.le_of_ble_eq_true rfl) dX10_restore_50 ⟨Nat.zero_le _, Nat.zero_le _⟩) (fun H locs hU hS => ?_)
        obtain ⟨u50, e50, hf⟩ := k_ltE hf
        rw [← e50] at hU
        refine lv_aload_n X.1 X.2.1 dX10_restore_53 rfl (lv_at hl 0 rfl) ?_
        refine k_get (v := .ref (ad 4 0)) X hU sh_0_0 fl_X10_43 rfl dX10_restore_54 ?_
        obtain ⟨r57, hr57, hf⟩ := k_bdE hf
        refine k_backv X hS (k_runV (As := []) (rest := []) X hS hU sh_4_0 (by decide) rfl vl_X10_107 (c_X3_forget X.2.2.2.2.2.2.1 hr57) rfl rfl rfl hl.1 ⟨Nat.le_of_ble_eq_true rfl, Nat.le_of_ble_eq_true rfl⟩ (Nat.le_of_ble_eq_true rfl) dX10_restore_57 ⟨Nat.zero_le _, Nat.zero_le _⟩) (fun H locs hU hS => ?_)
        refine lv_aload_n X.1 X.2.1 dX10_restore_60 rfl (lv_at hl 0 rfl) ?_
        refine k_get (v := .ref (ad 10 0)) X hU sh_0_0 fl_X10_33 rfl dX10_restore_61 ?_
        refine k_get (v := .int (r57 10 0 6)) X hU (sW_0 k_isW_10) fl_X10_171 rfl dX10_restore_64 ?_
        exact absurd hf k_ninr
      · replace hf := k_ifP hf c26
        obtain ⟨hz1, hz2⟩ := k_injr hf
        subst hz1
        subst hz2
        exact k_thrSW X hlT hU hS (i := 54) rfl xw_78 (by decide +kernel) rfl hl.1 dX10_restore_29 dX10_restore_32 dX10_restore_33 dX10_restore_36 dX10_restore_39 hex (Nat.le_of_ble_eq_true rfl) (Nat.le_of_ble_eq_true rfl) ⟨Nat.le_of_ble_eq_true rfl, Nat.le_of_ble_eq_true rfl⟩ hlk ⟨Nat.le_of_ble_eq_true rfl, Nat.le_of_ble_eq_true rfl⟩
    · replace hf := k_ifN hf c6
      exact J9 _ _ _ u hU hS (lv_sub hl [] rfl) hf

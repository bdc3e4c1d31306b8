def rm_X0_pack : Room := { frames := 0, cells := 0, slots := 0, locals := 0 }
set_option maxRecDepth 100000 in
set_option maxHeartbeats 4000000 in
theorem c_X0_pack {l : Launch} {D : va_G} {G : Nat → ClassId} {ad : Nat → Nat → Nat} {u : k_U} (hI : k_ok ad) {k : Nat} (hk : k_isW k) {w : k_M} (hw : u k = w) {q : Nat} {a1 : Int32} {a2 : Int32} {a3 : Int32} {a4 : Int32} {a5 : Int32} (hq : k_isC q) {sz : Nat} {r : k_M} (hf : f_X0_pack w q a1 a2 a3 a4 a5 = some r) : Met l yX0_pack (.code yX0_pack cX0_pack 6 none :: lw_g) rm_X0_pack (k_Pre D G ad u sz [.ref (ad k q), .int a1, .int a2, .int a3, .int a4, .int a5]) (k_Qv D G ad (k_uc u k r) sz) 0 0 (k_A ad sz) := by
  refine k_ofW (by decide +kernel) hI (Nat.le_of_ble_eq_true rfl) ?_
  intro p e s m args below meth c X hr hlk hU hS ls hl
  have hl : lv_has ls 6 [(0, .ref (ad k q)), (1, .int a1), (2, .int a2), (3, .int a3), (4, .int a4), (5, .int a5)] := hl
  have hU : k_Uv D G ad (k_uc u k w) s.heap := by rw [← hw, k_uc_id]; exact hU
  unfold f_X0_pack at hf
  refine lv_aload_n X.1 X.2.1 dX0_pack_0 rfl (lv_at hl 0 rfl) ?_
  refine lv_iload_n X.1 X.2.1 dX0_pack_1 rfl (lv_at hl 1 rfl) ?_
  obtain ⟨w2, e2, hf⟩ := k_ltE hf
  refine k_putw X hU hS (k_sC hk hq) fp_X0_9 rfl e2 rfl rfl dX0_pack_2 (fun H locs hU hS => ?_)
  refine lv_aload_n X.1 X.2.1 dX0_pack_5 rfl (lv_at hl 0 rfl) ?_
  refine lv_iload_n X.1 X.2.1 dX0_pack_6 rfl (lv_at hl 2 rfl) ?_
  obtain ⟨w7, e7, hf⟩ := k_ltE hf
  refine k_putw X hU hS (k_sC hk hq) fp_X0_15 rfl e7 rfl rfl dX0_pack_7 (fun H locs hU hS => ?_)
  refine lv_aload_n X.1 X.2.1 dX0_pack_10 rfl (lv_at hl 0 rfl) ?_
  refine lv_iload_n X.1 X.2.1 dX0_pack_11 rfl (lv_at hl 3 rfl) ?_
  obtain ⟨w12, e12, hf⟩ := k_ltE hf
  refine k_putw X hU hS (k_sC hk hq) fp_X0_18 rfl e12 rfl rfl dX0_pack_12 (fun H locs hU hS => ?_)
  refine lv_aload_n X.1 X.2.1 dX0_pack_15 rfl (lv_at hl 0 rfl) ?_
  refine lv_iload X.1 X.2.1 dX0_pack_16 (lv_at hl 4 rfl) ?_
  obtain ⟨w18, e18, hf⟩ := k_ltE hf
  refine k_putw X hU hS (k_sC hk hq) fp_X0_21 rfl e18 rfl rfl dX0_pack_18 (fun H locs hU hS => ?_)
  refine lv_aload_n X.1 X.2.1 dX0_pack_21 rfl (lv_at hl 0 rfl) ?_
  refine lv_iload X.1 X.2.1 dX0_pack_22 (lv_at hl 5 rfl) ?_
  obtain ⟨w24, e24, hf⟩ := k_ltE hf
  refine k_putw X hU hS (k_sC hk hq) fp_X0_24 rfl e24 rfl rfl dX0_pack_24 (fun H locs hU hS => ?_)
  refine lv_aload_n X.1 X.2.1 dX0_pack_27 rfl (lv_at hl 0 rfl) ?_
  refine lv_iconst (v := 0) X.1 X.2.1 dX0_pack_28 (by decide) ?_
  obtain ⟨w29, e29, hf⟩ := k_ltE hf
  refine k_putw X hU hS (k_sC hk hq) fp_X0_27 rfl e29 rfl rfl dX0_pack_29 (fun H locs hU hS => ?_)
  refine lv_aload_n X.1 X.2.1 dX0_pack_32 rfl (lv_at hl 0 rfl) ?_
  refine lv_iconst (v := 0) X.1 X.2.1 dX0_pack_33 (by decide) ?_
  obtain ⟨w34, e34, hf⟩ := k_ltE hf
  refine k_putw X hU hS (k_sC hk hq) fp_X0_30 rfl e34 rfl rfl dX0_pack_34 (fun H locs hU hS => ?_)
  refine lv_aload_n X.1 X.2.1 dX0_pack_37 rfl (lv_at hl 0 rfl) ?_
  refine lv_iconst (v := 0) X.1 X.2.1 dX0_pack_38 (by decide) ?_
  obtain ⟨w39, e39, hf⟩ := k_ltE hf
  refine k_putw X hU hS (k_sC hk hq) fp_X0_34 rfl e39 rfl rfl dX0_pack_39 (fun H locs hU hS => ?_)
  have hz := Option.some.inj hf
  subst hz
  exact k_vret X hU hS hr hlk dX0_pack_42
def rm_X0_copyFrom : Room := { frames := 0, cells := 0, slots := 0, locals := 0 }
set_option maxRecDepth 100000 in
set_option maxHeartbeats 4000000 in
theorem c_X0_copyFrom {l : Launch} {D : va_G} {G : Nat → ClassId} {ad : Nat → Nat → Nat} {u : k_U} (hI : k_ok ad) {k : Nat} (hk : k_isW k) {k2 : Nat} (hk2 : k_isW k2) (hne : k2 ≠ k) {w : k_M} (hw : u k = w) {o : k_M} (ho : u k2 = o) {q : Nat} {q2 : Nat} (hq : k_isC q) (hq2 : k_isC q2) {sz : Nat} {r : k_M} (hf : f_X0_copyFrom w o q q2 = some r) : Met l yX0_copyFrom (.code yX0_copyFrom cX0_copyFrom 2 none :: lw_g) rm_X0_copyFrom (k_Pre D G ad u sz [.ref (ad k q), .ref (ad k2 q2)]) (k_Qv D G ad (k_uc u k r) sz) 0 0 (k_A ad sz) := by
  refine k_ofW (by decide +kernel) hI (Nat.le_of_ble_eq_true rfl) ?_
  intro p e s m args below meth c X hr hlk hU hS ls hl
  have hl : lv_has ls 2 [(0, .ref (ad k q)), (1, .ref (ad k2 q2))] := hl
  have hU : k_Uv D G ad (k_uc u k w) s.heap := by rw [← hw, k_uc_id]; exact hU
  unfold f_X0_copyFrom at hf
  refine lv_aload_n X.1 X.2.1 dX0_copyFrom_0 rfl (lv_at hl 0 rfl) ?_
  refine lv_aload_n X.1 X.2.1 dX0_copyFrom_1 rfl (lv_at hl 1 rfl) ?_
  refine k_geto (v := .int (o q2 0)) hne X hU (k_sC hk2 hq2) fl_X0_9 (by rw [ho]; rfl) dX0_copyFrom_2 ?_
  obtain ⟨w5, e5, hf⟩ := k_ltE hf
  refine k_putw X hU hS (k_sC hk hq) fp_X0_9 rfl e5 rfl rfl dX0_copyFrom_5 (fun H locs hU hS => ?_)
  refine lv_aload_n X.1 X.2.1 dX0_copyFrom_8 rfl (lv_at hl 0 rfl) ?_
  refine lv_aload_n X.1 X.2.1 dX0_copyFrom_9 rfl (lv_at hl 1 rfl) ?_
  refine k_geto (v := .int (o q2 1)) hne X hU (k_sC hk2 hq2) fl_X0_15 (by rw [ho]; rfl) dX0_copyFrom_10 ?_
  obtain ⟨w13, e13, hf⟩ := k_ltE hf
  refine k_putw X hU hS (k_sC hk hq) fp_X0_15 rfl e13 rfl rfl dX0_copyFrom_13 (fun H locs hU hS => ?_)
  refine lv_aload_n X.1 X.2.1 dX0_copyFrom_16 rfl (lv_at hl 0 rfl) ?_
  refine lv_aload_n X.1 X.2.1 dX0_copyFrom_17 rfl (lv_at hl 1 rfl) ?_
  refine k_geto (v := .int (o q2 2)) hne X hU (k_sC hk2 hq2) fl_X0_18 (by rw [ho]; rfl) dX0_copyFrom_18 ?_
  obtain ⟨w21, e21, hf⟩ := k_ltE hf
  refine k_putw X hU hS (k_sC hk hq) fp_X0_18 rfl e21 rfl rfl dX0_copyFrom_21 (fun H locs hU hS => ?_)
  refine lv_aload_n X.1 X.2.1 dX0_copyFrom_24 rfl (lv_at hl 0 rfl) ?_
  refine lv_aload_n X.1 X.2.1 dX0_copyFrom_25 rfl (lv_at hl 1 rfl) ?_
  refine k_geto (v := .int (o q2 3)) hne X hU (k_sC hk2 hq2) fl_X0_21 (by rw [ho]; rfl) dX0_copyFrom_26 ?_
  obtain ⟨w29, e29, hf⟩ := k_ltE hf
  refine k_putw X hU hS (k_sC hk hq) fp_X0_21 rfl e29 rfl rfl dX0_copyFrom_29 (fun H locs hU hS => ?_)
  refine lv_aload_n X.1 X.2.1 dX0_copyFrom_32 rfl (lv_at hl 0 rfl) ?_
  refine lv_aload_n X.1 X.2.1 dX0_copyFrom_33 rfl (lv_at hl 1 rfl) ?_
  refine k_geto (v := .int (o q2 4)) hne X hU (k_sC hk2 hq2) fl_X0_24 (by rw [ho]; rfl) dX0_copyFrom_34 ?_
  obtain ⟨w37, e37, hf⟩ := k_ltE hf
  refine k_putw X hU hS (k_sC hk hq) fp_X0_24 rfl e37 rfl rfl dX0_copyFrom_37 (fun H locs hU hS => ?_)
  refine lv_aload_n X.1 X.2.1 dX0_copyFrom_40 rfl (lv_at hl 0 rfl) ?_
  refine lv_aload_n X.1 X.2.1 dX0_copyFrom_41 rfl (lv_at hl 1 rfl) ?_
  refine k_geto (v := .int (o q2 5)) hne X hU (k_sC hk2 hq2) fl_X0_27 (by rw [ho]; rfl) dX0_copyFrom_42 ?_
  obtain ⟨w45, e45, hf⟩ := k_ltE hf
  refine k_putw X hU hS (k_sC hk hq) fp_X0_27 rfl e45 rfl rfl dX0_copyFrom_45 (fun H locs hU hS => ?_)
  refine lv_aload_n X.1 X.2.1 dX0_copyFrom_48 rfl (lv_at hl 0 rfl) ?_
  refine lv_aload_n X.1 X.2.1 dX0_copyFrom_49 rfl (lv_at hl 1 rfl) ?_
  refine k_geto (v := .int (o q2 6)) hne X hU (k_sC hk2 hq2) fl_X0_30 (by rw [ho]; rfl) dX0_copyFrom_50 ?_
  obtain ⟨hi53, hf⟩ := k_ckE hf
  obtain ⟨w53, e53, hf⟩ := k_ltE hf
  refine k_putw X hU hS (k_sC hk hq) fp_X0_30 rfl e53 (k_nb hi53) (k_fb hi53) dX0_copyFrom_53 (fun H locs hU hS => ?_)
  refine lv_aload_n X.1 X.2.1 dX0_copyFrom_56 rfl (lv_at hl 0 rfl) ?_
  refine lv_aload_n X.1 X.2.1 dX0_copyFrom_57 rfl (lv_at hl 1 rfl) ?_
  refine k_geto (v := .int (o q2 7)) hne X hU (k_sC hk2 hq2) fl_X0_34 (by rw [ho]; rfl) dX0_copyFrom_58 ?_
  obtain ⟨w61, e61, hf⟩ := k_ltE hf
  refine k_putw X hU hS (k_sC hk hq) fp_X0_34 rfl e61 rfl rfl dX0_copyFrom_61 (fun H locs hU hS => ?_)
  have hz := Option.some.inj hf
  subst hz
  exact k_vret X hU hS hr hlk dX0_copyFrom_64
def rm_X0_linesThere : Room := { frames := 0, cells := 0, slots := 0, locals := 0 }
set_option maxRecDepth 100000 in
set_option maxHeartbeats 4000000 in
theorem c_X0_linesThere {l : Launch} {D : va_G} {G : Nat → ClassId} {ad : Nat → Nat → Nat} {u : k_U} (hI : k_ok ad) {k : Nat} (hk : k_isW k) {w : k_M} (hw : u k = w) {q : Nat} (hq : k_isC q) {sz : Nat} {r : Int32} (hf : f_X0_linesThere w q = some r) : Met l yX0_linesThere (.code yX0_linesThere cX0_linesThere 1 (some .int) :: lw_g) rm_X0_linesThere (k_Pre D G ad u sz [.ref (ad k q)]) (k_Qi D G ad u r sz) 0 0 (k_A ad sz) := by
  refine k_ofW (by decide +kernel) hI (Nat.le_of_ble_eq_true rfl) ?_
  intro p e s m args below meth c X hr hlk hU hS ls hl
  have hl : lv_has ls 1 [(0, .ref (ad k q))] := hl
  have hU : k_Uv D G ad (k_uc u k w) s.heap := by rw [← hw, k_uc_id]; exact hU
  unfold f_X0_linesThere at hf
  refine lv_aload_n X.1 X.2.1 dX0_linesThere_0 rfl (lv_at hl 0 rfl) ?_
  refine k_getw (v := .int (w q 1)) X hU (k_sC hk hq) fl_X0_15 rfl dX0_linesThere_1 ?_
  refine lv_aload_n X.1 X.2.1 dX0_linesThere_4 rfl (lv_at hl 0 rfl) ?_
  refine k_getw (v := .int (w q 7)) X hU (k_sC hk hq) fl_X0_34 rfl dX0_linesThere_5 ?_
  refine lv_isub X.1 X.2.1 dX0_linesThere_8 ?_
  rw [← hw, k_uc_id] at hU
  have hz := Option.some.inj hf
  subst hz
  exact k_iret (v := ((w q 1) - (w q 7))) X hU hS hr hlk rfl rfl dX0_linesThere_9
def rm_X0_strengthOf : Room := { frames := 0, cells := 0, slots := 0, locals := 0 }
set_option maxRecDepth 100000 in
set_option maxHeartbeats 4000000 in
theorem c_X0_strengthOf {l : Launch} {D : va_G} {G : Nat → ClassId} {ad : Nat → Nat → Nat} {u : k_U} (hI : k_ok ad) {k : Nat} (hk : k_isW k) {w : k_M} (hw : u k = w) {q : Nat} {a1 : Int32} (hq : k_isC q) {sz : Nat} {r : Int32} (hf : f_X0_strengthOf w q a1 = some r) : Met l yX0_strengthOf (.code yX0_strengthOf cX0_strengthOf 2 (some .int) :: lw_g) rm_X0_strengthOf (k_Pre D G ad u sz [.ref (ad k q), .int a1]) (k_Qi D G ad u r sz) 0 0 (k_A ad sz) := by
  refine k_ofW (by decide +kernel) hI (Nat.le_of_ble_eq_true rfl) ?_
  intro p e s m args below meth c X hr hlk hU hS ls hl
  have hl : lv_has ls 2 [(0, .ref (ad k q)), (1, .int a1)] := hl
  have hU : k_Uv D G ad (k_uc u k w) s.heap := by rw [← hw, k_uc_id]; exact hU
  unfold f_X0_strengthOf at hf
  refine lv_aload_n X.1 X.2.1 dX0_strengthOf_0 rfl (lv_at hl 0 rfl) ?_
  refine k_getw (v := .int (w q 2)) X hU (k_sC hk hq) fl_X0_18 rfl dX0_strengthOf_1 ?_
  refine lv_iconst (v := 3) X.1 X.2.1 dX0_strengthOf_4 (by decide) ?_
  refine lv_iload_n X.1 X.2.1 dX0_strengthOf_5 rfl (lv_at hl 1 rfl) ?_
  refine lv_imul X.1 X.2.1 dX0_strengthOf_6 ?_
  refine lv_iadd X.1 X.2.1 dX0_strengthOf_7 ?_
  rw [← hw, k_uc_id] at hU
  have hz := Option.some.inj hf
  subst hz
  exact k_iret (v := ((w q 2) + (3 * a1))) X hU hS hr hlk rfl rfl dX0_strengthOf_8
def rm_X0_hasFailed : Room := { frames := 0, cells := 0, slots := 0, locals := 0 }
set_option maxRecDepth 100000 in
set_option maxHeartbeats 4000000 in
theorem c_X0_hasFailed {l : Launch} {D : va_G} {G : Nat → ClassId} {ad : Nat → Nat → Nat} {u : k_U} (hI : k_ok ad) {k : Nat} (hk : k_isW k) {w : k_M} (hw : u k = w) {q : Nat} (hq : k_isC q) {sz : Nat} {r : Int32} (hf : f_X0_hasFailed w q = some r) : Met l yX0_hasFailed (.code yX0_hasFailed cX0_hasFailed 1 (some .boolean) :: lw_g) rm_X0_hasFailed (k_Pre D G ad u sz [.ref (ad k q)]) (k_Qi D G ad u r sz) 0 0 (k_A ad sz) := by
  refine k_ofW (by decide +kernel) hI (Nat.le_of_ble_eq_true rfl) ?_
  intro p e s m args below meth c X hr hlk hU hS ls hl
  have hl : lv_has ls 1 [(0, .ref (ad k q))] := hl
  have hU : k_Uv D G ad (k_uc u k w) s.heap := by rw [← hw, k_uc_id]; exact hU
  unfold f_X0_hasFailed at hf
  refine lv_aload_n X.1 X.2.1 dX0_hasFailed_0 rfl (lv_at hl 0 rfl) ?_
  refine k_getw (v := .int (w q 5)) X hU (k_sC hk hq) fl_X0_27 rfl dX0_hasFailed_1 ?_
  refine lv_iconst (v := 2) X.1 X.2.1 dX0_hasFailed_4 (by decide) ?_
  refine lv_icmp_eq (tgt := 16) X.1 X.2.1 dX0_hasFailed_5 (by decide) (fun c5 => ?_) (fun c5 => ?_)
  · replace hf := k_ifP hf c5
    refine lv_iconst (v := 1) X.1 X.2.1 dX0_hasFailed_16 (by decide) ?_
    refine lv_goto (tgt := 21) X.1 X.2.1 dX0_hasFailed_17 (by decide) ?_
    rw [← hw, k_uc_id] at hU
    have hz := Option.some.inj hf
    subst hz
    exact k_iret (v := 1) X hU hS hr hlk rfl rfl dX0_hasFailed_21
  · replace hf := k_ifN hf c5
    refine lv_aload_n X.1 X.2.1 dX0_hasFailed_8 rfl (lv_at hl 0 rfl) ?_
    refine k_getw (v := .int (w q 5)) X hU (k_sC hk hq) fl_X0_27 rfl dX0_hasFailed_9 ?_
    refine lv_iconst (v := 3) X.1 X.2.1 dX0_hasFailed_12 (by decide) ?_
    refine lv_icmp_ne (tgt := 20) X.1 X.2.1 dX0_hasFailed_13 (by decide) (fun c13 => ?_) (fun c13 => ?_)
    · replace hf := k_ifN hf c13
      refine lv_iconst (v := 0) X.1 X.2.1 dX0_hasFailed_20 (by decide) ?_
      rw [← hw, k_uc_id] at hU
      have hz := Option.some.inj hf
      subst hz
      exact k_iret (v := 0) X hU hS hr hlk rfl rfl dX0_hasFailed_21
    · replace hf := k_ifP hf c13
      refine lv_iconst (v := 1) X.1 X.2.1 dX0_hasFailed_16 (by decide) ?_
      refine lv_goto (tgt := 21) X.1 X.2.1 dX0_hasFailed_17 (by decide) ?_
      rw [← hw, k_uc_id] at hU
      have hz := Option.some.inj hf
      subst hz
      exact k_iret (v := 1) X hU hS hr hlk rfl rfl dX0_hasFailed_21
def rm_X0_isPackedAndBelowCeiling : Room := { frames := 0, cells := 0, slots := 0, locals := 0 }
set_option maxRecDepth 100000 in
set_option maxHeartbeats 4000000 in
theorem c_X0_isPackedAndBelowCeiling {l : Launch} {D : va_G} {G : Nat → ClassId} {ad : Nat → Nat → Nat} {u : k_U} (hI : k_ok ad) {k : Nat} (hk : k_isW k) {w : k_M} (hw : u k = w) {q : Nat} {a1 : Int32} (hq : k_isC q) {sz : Nat} {r : Int32} (hf : f_X0_isPackedAndBelowCeiling w q a1 = some r) : Met l yX0_isPackedAndBelowCeiling (.code yX0_isPackedAndBelowCeiling cX0_isPackedAndBelowCeiling 2 (some .boolean) :: lw_g) rm_X0_isPackedAndBelowCeiling (k_Pre D G ad u sz [.ref (ad k q), .int a1]) (k_Qi D G ad u r sz) 0 0 (k_A ad sz) := by
  refine k_ofW (by decide +kernel) hI (Nat.le_of_ble_eq_true rfl) ?_
  intro p e s m args below meth c X hr hlk hU hS ls hl
  have hl : lv_has ls 2 [(0, .ref (ad k q)), (1, .int a1)] := hl
  have hU : k_Uv D G ad (k_uc u k w) s.heap := by rw [← hw, k_uc_id]; exact hU
  unfold f_X0_isPackedAndBelowCeiling at hf
  refine lv_aload_n X.1 X.2.1 dX0_isPackedAndBelowCeiling_0 rfl (lv_at hl 0 rfl) ?_
  refine k_getw (v := .int (w q 5)) X hU (k_sC hk hq) fl_X0_27 rfl dX0_isPackedAndBelowCeiling_1 ?_
  refine lv_if_ne (tgt := 19) X.1 X.2.1 dX0_isPackedAndBelowCeiling_4 (by decide) (fun c4 => ?_) (fun c4 => ?_)
  · replace hf := k_ifN hf c4
    refine lv_iconst (v := 0) X.1 X.2.1 dX0_isPackedAndBelowCeiling_19 (by decide) ?_
    rw [← hw, k_uc_id] at hU
    have hz := Option.some.inj hf
    subst hz
    exact k_iret (v := 0) X hU hS hr hlk rfl rfl dX0_isPackedAndBelowCeiling_20
  · replace hf := k_ifP hf c4
    refine lv_iload_n X.1 X.2.1 dX0_isPackedAndBelowCeiling_7 rfl (lv_at hl 1 rfl) ?_
    refine lv_aload_n X.1 X.2.1 dX0_isPackedAndBelowCeiling_8 rfl (lv_at hl 0 rfl) ?_
    refine k_getw (v := .int (w q 3)) X hU (k_sC hk hq) fl_X0_21 rfl dX0_isPackedAndBelowCeiling_9 ?_
    refine lv_icmp_gt (tgt := 19) X.1 X.2.1 dX0_isPackedAndBelowCeiling_12 (by decide) (fun c12 => ?_) (fun c12 => ?_)
    · replace hf := k_ifP hf c12
      refine lv_iconst (v := 0) X.1 X.2.1 dX0_isPackedAndBelowCeiling_19 (by decide) ?_
      rw [← hw, k_uc_id] at hU
      have hz := Option.some.inj hf
      subst hz
      exact k_iret (v := 0) X hU hS hr hlk rfl rfl dX0_isPackedAndBelowCeiling_20
    · replace hf := k_ifN hf c12
      refine lv_iconst (v := 1) X.1 X.2.1 dX0_isPackedAndBelowCeiling_15 (by decide) ?_
      refine lv_goto (tgt := 20) X.1 X.2.1 dX0_isPackedAndBelowCeiling_16 (by decide) ?_
      rw [← hw, k_uc_id] at hU
      have hz := Option.some.inj hf
      subst hz
      exact k_iret (v := 1) X hU hS hr hlk rfl rfl dX0_isPackedAndBelowCeiling_20
def rm_X0_pull : Room := { frames := 0, cells := 0, slots := 0, locals := 0 }
set_option maxRecDepth 100000 in
set_option maxHeartbeats 4000000 in
theorem c_X0_pull {l : Launch} {D : va_G} {G : Nat → ClassId} {ad : Nat → Nat → Nat} {u : k_U} (hI : k_ok ad) {k : Nat} (hk : k_isW k) {w : k_M} (hw : u k = w) {q : Nat} {a1 : Int32} {a2 : Int32} (hq : k_isC q) {sz : Nat} {r : Int64} (hf : f_X0_pull w q a1 a2 = some r) : Met l yX0_pull (.code yX0_pull cX0_pull 3 (some .long) :: lw_g) rm_X0_pull (k_Pre D G ad u sz [.ref (ad k q), .int a1, .int a2]) (k_Ql D G ad u r sz) 0 0 (k_A ad sz) := by
  refine k_ofW (by decide +kernel) hI (Nat.le_of_ble_eq_true rfl) ?_
  intro p e s m args below meth c X hr hlk hU hS ls hl
  have hl : lv_has ls 3 [(0, .ref (ad k q)), (1, .int a1), (2, .int a2)] := hl
  have hU : k_Uv D G ad (k_uc u k w) s.heap := by rw [← hw, k_uc_id]; exact hU
  unfold f_X0_pull at hf
  refine lv_aload_n X.1 X.2.1 dX0_pull_0 rfl (lv_at hl 0 rfl) ?_
  refine k_getw (v := .int (w q 0)) X hU (k_sC hk hq) fl_X0_9 rfl dX0_pull_1 ?_
  refine lv_i2l (v := (w q 0).toInt64) X.1 X.2.1 dX0_pull_4 rfl ?_
  refine lv_iload_n X.1 X.2.1 dX0_pull_5 rfl (lv_at hl 1 rfl) ?_
  refine lv_i2l (v := a1.toInt64) X.1 X.2.1 dX0_pull_6 rfl ?_
  refine lv_lmul X.1 X.2.1 dX0_pull_7 ?_
  refine lv_iload_n X.1 X.2.1 dX0_pull_8 rfl (lv_at hl 2 rfl) ?_
  refine lv_i2l (v := a2.toInt64) X.1 X.2.1 dX0_pull_9 rfl ?_
  refine lv_lmul X.1 X.2.1 dX0_pull_10 ?_
  refine lv_iload_n X.1 X.2.1 dX0_pull_11 rfl (lv_at hl 2 rfl) ?_
  refine lv_i2l (v := a2.toInt64) X.1 X.2.1 dX0_pull_12 rfl ?_
  refine lv_lmul X.1 X.2.1 dX0_pull_13 ?_
  refine lv_ldc2 (v := 10000) X.1 X.2.1 X.2.2.2.1 (X.2.2.2.2.1 _ t_786) dX0_pull_14 ?_
  refine lv_ldiv X.1 X.2.1 dX0_pull_17 (by decide) ?_
  rw [← hw, k_uc_id] at hU
  have hz := Option.some.inj hf
  subst hz
  exact k_lret (v := ((((((w q 0).toInt64) * a1.toInt64) * a2.toInt64) * a2.toInt64) / (10000 : Int64))) X hU hS hr hlk rfl dX0_pull_18
def rm_X0_loadOfOneLine : Room := { frames := 0, cells := 0, slots := 0, locals := 0 }
set_option maxRecDepth 100000 in
set_option maxHeartbeats 4000000 in
theorem c_X0_loadOfOneLine {l : Launch} {D : va_G} {G : Nat → ClassId} {ad : Nat → Nat → Nat} {u : k_U} (hI : k_ok ad) {k : Nat} (hk : k_isW k) {w : k_M} (hw : u k = w) {q : Nat} {a1 : Int64} {a3 : Int32} {a4 : Int32} (hq : k_isC q) {sz : Nat} {r : Int64} (hf : f_X0_loadOfOneLine w q a1 a3 a4 = some r) : Met l yX0_loadOfOneLine (.code yX0_loadOfOneLine cX0_loadOfOneLine 9 (some .long) :: lw_g) rm_X0_loadOfOneLine (k_Pre D G ad u sz [.ref (ad k q), .long a1, .int a3, .int a4]) (k_Ql D G ad u r sz) 0 0 (k_A ad sz) := by
  refine k_ofW (by decide +kernel) hI (Nat.le_of_ble_eq_true rfl) ?_
  intro p e s m args below meth c X hr hlk hU hS ls hl
  have hl : lv_has ls 9 [(0, .ref (ad k q)), (1, .long a1), (3, .int a3), (4, .int a4)] := hl
  have hU : k_Uv D G ad (k_uc u k w) s.heap := by rw [← hw, k_uc_id]; exact hU
  have J27 : ∀ (H : Heap) (locs : List Loc) (ls : Array Slot) (a1 : Int64) (a5 : Int32) (as0 : Int32), k_Uv D G ad (k_uc u k w) H → va_S (k_A ad sz) s.heap H locs → lv_has ls 9 [(1, .long a1), (5, .int a5)] → f_X0_loadOfOneLine_27 w q a3 a4 a1 a5 as0 = some r → W p l e rm_X0_loadOfOneLine s m args below meth c H locs 0 0 (MQ below (k_Ql D G ad u r sz) args s 0 0 (k_A ad sz)) (F0 m 27 ls [.int as0]) := by
    intro H locs ls a1 a5 as0 hU hS hl hf
    unfold f_X0_loadOfOneLine_27 at hf
    refine lv_istore (lv' := [(6, .int as0), (1, .long a1), (5, .int a5)]) X.1 X.2.1 dX0_loadOfOneLine_27 hl (by decide) rfl (fun ls hl => ?_)
    refine lv_lload_n X.1 X.2.1 dX0_loadOfOneLine_29 rfl (lv_at hl 1 rfl) ?_
    refine lv_bipush (v := 100) X.1 X.2.1 dX0_loadOfOneLine_30 (by decide) ?_
    refine lv_iconst (v := 5) X.1 X.2.1 dX0_loadOfOneLine_32 (by decide) ?_
    refine lv_iload X.1 X.2.1 dX0_loadOfOneLine_33 (lv_at hl 0 rfl) ?_
    refine lv_imul X.1 X.2.1 dX0_loadOfOneLine_35 ?_
    refine lv_iadd X.1 X.2.1 dX0_loadOfOneLine_36 ?_
    refine lv_i2l (v := (100 + (5 * as0)).toInt64) X.1 X.2.1 dX0_loadOfOneLine_37 rfl ?_
    refine lv_lmul X.1 X.2.1 dX0_loadOfOneLine_38 ?_
    refine lv_ldc2 (v := 100) X.1 X.2.1 X.2.2.2.1 (X.2.2.2.2.1 _ t_795) dX0_loadOfOneLine_39 ?_
    refine lv_ldiv X.1 X.2.1 dX0_loadOfOneLine_42 (by decide) ?_
    obtain ⟨x43, e43, hf⟩ := k_ltE hf
    refine k_nml e43 ?_
    refine lv_lstore (lv' := [(7, .long x43), (6, .int as0), (1, .long a1), (5, .int a5)]) X.1 X.2.1 dX0_loadOfOneLine_43 hl (by decide) rfl (fun ls hl => ?_)
    refine lv_lload X.1 X.2.1 dX0_loadOfOneLine_45 (lv_at hl 0 rfl) ?_
    refine lv_iload X.1 X.2.1 dX0_loadOfOneLine_47 (lv_at hl 3 rfl) ?_
    refine lv_i2l (v := a5.toInt64) X.1 X.2.1 dX0_loadOfOneLine_49 rfl ?_
    refine lv_ladd X.1 X.2.1 dX0_loadOfOneLine_50 ?_
    refine lv_lconst (v := 1) X.1 X.2.1 dX0_loadOfOneLine_51 (by decide) ?_
    refine lv_lsub X.1 X.2.1 dX0_loadOfOneLine_52 ?_
    refine lv_iload X.1 X.2.1 dX0_loadOfOneLine_53 (lv_at hl 3 rfl) ?_
    refine lv_i2l (v := a5.toInt64) X.1 X.2.1 dX0_loadOfOneLine_55 rfl ?_
    obtain ⟨hi56, hf⟩ := k_ckE hf
    refine lv_ldiv X.1 X.2.1 dX0_loadOfOneLine_56 hi56 ?_
    rw [← hw, k_uc_id] at hU
    have hz := Option.some.inj hf
    subst hz
    exact k_lret (v := (((x43 + a5.toInt64) - (1 : Int64)) / a5.toInt64)) X hU hS hr hlk rfl dX0_loadOfOneLine_57
  unfold f_X0_loadOfOneLine at hf
  refine lv_aload_n X.1 X.2.1 dX0_loadOfOneLine_0 rfl (lv_at hl 0 rfl) ?_
  refine k_getw (v := .int (w q 1)) X hU (k_sC hk hq) fl_X0_15 rfl dX0_loadOfOneLine_1 ?_
  refine lv_iload X.1 X.2.1 dX0_loadOfOneLine_4 (lv_at hl 3 rfl) ?_
  refine lv_isub X.1 X.2.1 dX0_loadOfOneLine_6 ?_
  obtain ⟨x7, e7, hf⟩ := k_ltE hf
  refine k_nmi e7 ?_
  refine lv_istore (lv' := [(5, .int x7), (0, .ref (ad k q)), (1, .long a1), (3, .int a3), (4, .int a4)]) X.1 X.2.1 dX0_loadOfOneLine_7 hl (by decide) rfl (fun ls hl => ?_)
  refine lv_iload X.1 X.2.1 dX0_loadOfOneLine_9 (lv_at hl 0 rfl) ?_
  refine lv_iconst (v := 1) X.1 X.2.1 dX0_loadOfOneLine_11 (by decide) ?_
  refine lv_icmp_ge (tgt := 17) X.1 X.2.1 dX0_loadOfOneLine_12 (by decide) (fun c12 => ?_) (fun c12 => ?_)
  · replace hf := k_ifP hf c12
    refine lv_iload_n X.1 X.2.1 dX0_loadOfOneLine_17 rfl (lv_at hl 3 rfl) ?_
    refine lv_if_ge (tgt := 26) X.1 X.2.1 dX0_loadOfOneLine_18 (by decide) (fun c18 => ?_) (fun c18 => ?_)
    · replace hf := k_ifP hf c18
      refine lv_iload_n X.1 X.2.1 dX0_loadOfOneLine_26 rfl (lv_at hl 3 rfl) ?_
      exact J27 _ _ _ a1 x7 a3 hU hS (lv_sub hl [2, 0] rfl) hf
    · replace hf := k_ifN hf c18
      refine lv_iload_n X.1 X.2.1 dX0_loadOfOneLine_21 rfl (lv_at hl 3 rfl) ?_
      refine lv_ineg X.1 X.2.1 dX0_loadOfOneLine_22 ?_
      refine lv_goto (tgt := 27) X.1 X.2.1 dX0_loadOfOneLine_23 (by decide) ?_
      exact J27 _ _ _ a1 x7 (-a3) hU hS (lv_sub hl [2, 0] rfl) hf
  · replace hf := k_ifN hf c12
    refine lv_lconst (v := 0) X.1 X.2.1 dX0_loadOfOneLine_15 (by decide) ?_
    rw [← hw, k_uc_id] at hU
    have hz := Option.some.inj hf
    subst hz
    exact k_lret (v := (0 : Int64)) X hU hS hr hlk rfl dX0_loadOfOneLine_16
def rm_X0_linesThatTear : Room := { frames := 1, cells := 0, slots := 0, locals := 28 }
set_option maxRecDepth 100000 in
set_option maxHeartbeats 4000000 in
theorem c_X0_linesThatTear {l : Launch} {D : va_G} {G : Nat → ClassId} {ad : Nat → Nat → Nat} {u : k_U} (hI : k_ok ad) {k : Nat} (hk : k_isW k) {w : k_M} (hw : u k = w) {q : Nat} {a1 : Int64} {a3 : Int32} {a4 : Int32} (hq : k_isC q) {sz : Nat} {r : Int32} (hf : f_X0_linesThatTear w q a1 a3 a4 = some r) : Met l yX0_linesThatTear (.code yX0_linesThatTear cX0_linesThatTear 9 (some .int) :: lw_g) rm_X0_linesThatTear (k_Pre D G ad u sz [.ref (ad k q), .long a1, .int a3, .int a4]) (k_Qi D G ad u r sz) 0 0 (k_A ad sz) := by
  refine k_ofW (by decide +kernel) hI (Nat.le_of_ble_eq_true rfl) ?_
  intro p e s m args below meth c X hr hlk hU hS ls hl
  have hl : lv_has ls 9 [(0, .ref (ad k q)), (1, .long a1), (3, .int a3), (4, .int a4)] := hl
  have hU : k_Uv D G ad (k_uc u k w) s.heap := by rw [← hw, k_uc_id]; exact hU
  have J81 : ∀ (H : Heap) (locs : List Loc) (ls : Array Slot) (a5 : Int32), k_Uv D G ad (k_uc u k w) H → va_S (k_A ad sz) s.heap H locs → lv_has ls 9 [(0, .ref (ad k q)), (5, .int a5)] → f_X0_linesThatTear_81 w q a1 a3 a4 a5 = some r → W p l e rm_X0_linesThatTear s m args below meth c H locs 0 0 (MQ below (k_Qi D G ad u r sz) args s 0 0 (k_A ad sz)) (F0 m 81 ls []) := by
    intro H locs ls a5 hU hS hl hf
    unfold f_X0_linesThatTear_81 at hf
    refine lv_iload X.1 X.2.1 dX0_linesThatTear_81 (lv_at hl 1 rfl) ?_
    refine lv_aload_n X.1 X.2.1 dX0_linesThatTear_83 rfl (lv_at hl 0 rfl) ?_
    refine k_getw (v := .int (w q 7)) X hU (k_sC hk hq) fl_X0_34 rfl dX0_linesThatTear_84 ?_
    refine lv_isub X.1 X.2.1 dX0_linesThatTear_87 ?_
    rw [← hw, k_uc_id] at hU
    have hz := Option.some.inj hf
    subst hz
    exact k_iret (v := (a5 - (w q 7))) X hU hS hr hlk rfl rfl dX0_linesThatTear_88
  have L9 : ∀ (n9 : Nat) (H : Heap) (locs : List Loc) (ls : Array Slot) (a1 : Int64) (a3 : Int32) (a4 : Int32) (a5 : Int32) (a6 : Int32), k_Uv D G ad (k_uc u k w) H → va_S (k_A ad sz) s.heap H locs → lv_has ls 9 [(0, .ref (ad k q)), (1, .long a1), (3, .int a3), (4, .int a4), (5, .int a5), (6, .int a6)] → f_X0_linesThatTear_9 n9 w q a1 a3 a4 a5 a6 = some r → W p l e rm_X0_linesThatTear s m args below meth c H locs 0 0 (MQ below (k_Qi D G ad u r sz) args s 0 0 (k_A ad sz)) (F0 m 9 ls []) := by
    intro n9
    induction n9 with
    | zero =>
      intro H locs ls a1 a3 a4 a5 a6 hU hS hl hf
      cases (show none = some r from hf)
    | succ n9 ih9 =>
      have J78 : ∀ (H : Heap) (locs : List Loc) (ls : Array Slot) (a1 : Int64) (a3 : Int32) (a4 : Int32) (a5 : Int32) (a6 : Int32), k_Uv D G ad (k_uc u k w) H → va_S (k_A ad sz) s.heap H locs → lv_has ls 9 [(0, .ref (ad k q)), (1, .long a1), (3, .int a3), (4, .int a4), (5, .int a5), (6, .int a6)] → f_X0_linesThatTear_78 (f_X0_linesThatTear_9 n9) w q a1 a3 a4 a5 a6 = some r → W p l e rm_X0_linesThatTear s m args below meth c H locs 0 0 (MQ below (k_Qi D G ad u r sz) args s 0 0 (k_A ad sz)) (F0 m 78 ls []) := by
        intro H locs ls a1 a3 a4 a5 a6 hU hS hl hf
        unfold f_X0_linesThatTear_78 at hf
        refine lv_goto (tgt := 9) X.1 X.2.1 dX0_linesThatTear_78 (by decide) ?_
        exact ih9 _ _ _ a1 a3 a4 a5 a6 hU hS (lv_sub hl [0, 1, 2, 3, 4, 5] rfl) hf
      have L39 : ∀ (n39 : Nat) (H : Heap) (locs : List Loc) (ls : Array Slot) (a1 : Int64) (a3 : Int32) (a4 : Int32) (a5 : Int32) (a6 : Int32) (a7 : Int64), k_Uv D G ad (k_uc u k w) H → va_S (k_A ad sz) s.heap H locs → lv_has ls 9 [(0, .ref (ad k q)), (1, .long a1), (3, .int a3), (4, .int a4), (5, .int a5), (6, .int a6), (7, .long a7)] → f_X0_linesThatTear_39 (f_X0_linesThatTear_9 n9) n39 w q a1 a3 a4 a5 a6 a7 = some r → W p l e rm_X0_linesThatTear s m args below meth c H locs 0 0 (MQ below (k_Qi D G ad u r sz) args s 0 0 (k_A ad sz)) (F0 m 39 ls []) := by
        intro n39
        induction n39 with
        | zero =>
          intro H locs ls a1 a3 a4 a5 a6 a7 hU hS hl hf
          cases (show none = some r from hf)
        | succ n39 ih39 =>
          intro H locs ls a1 a3 a4 a5 a6 a7 hU hS hl hf
          replace hf : f_X0_linesThatTear_39_b (f_X0_linesThatTear_9 n9) (f_X0_linesThatTear_39 (f_X0_linesThatTear_9 n9) n39) w q a1 a3 a4 a5 a6 a7 = some r := hf
          unfold f_X0_linesThatTear_39_b at hf
          refine lv_iload X.1 X.2.1 dX0_linesThatTear_39 (lv_at hl 4 rfl) ?_
          refine lv_aload_n X.1 X.2.1 dX0_linesThatTear_41 rfl (lv_at hl 0 rfl) ?_
          refine k_getw (v := .int (w q 1)) X hU (k_sC hk hq) fl_X0_15 rfl dX0_linesThatTear_42 ?_
          refine lv_icmp_ge (tgt := 78) X.1 X.2.1 dX0_linesThatTear_45 (by decide) (fun c45 => ?_) (fun c45 => ?_)
          · replace hf := k_ifP hf c45
            exact J78 _ _ _ a1 a3 a4 a5 a6 hU hS (lv_sub hl [0, 1, 2, 3, 4, 5] rfl) hf
          · replace hf := k_ifN hf c45
            refine lv_aload_n X.1 X.2.1 dX0_linesThatTear_48 rfl (lv_at hl 0 rfl) ?_
            refine lv_iload X.1 X.2.1 dX0_linesThatTear_49 (lv_at hl 4 rfl) ?_
            obtain ⟨r51, hr51, hf⟩ := k_bdE hf
            refine k_backi X hS (k_runV (As := [.int a5]) (rest := []) X hU (k_sC hk hq) (by decide) rfl vl_X0_45 (c_X0_strengthOf X.2.2.2.2.2.2.1 hk (k_uc_s _ _ _) hq hr51) rfl rfl rfl hl.1 ⟨Nat.le_of_ble_eq_true rfl, Nat.le_of_ble_eq_true rfl⟩ (Nat.le_of_ble_eq_true rfl) dX0_linesThatTear_51 ⟨Nat.zero_le _, Nat.zero_le _⟩) (fun H locs hU hS => ?_)
            refine lv_sipush (v := 1000) X.1 X.2.1 dX0_linesThatTear_54 (by decide) ?_
            refine lv_iload X.1 X.2.1 dX0_linesThatTear_57 (lv_at hl 3 rfl) ?_
            refine lv_isub X.1 X.2.1 dX0_linesThatTear_59 ?_
            refine lv_imul X.1 X.2.1 dX0_linesThatTear_60 ?_
            refine lv_sipush (v := 1000) X.1 X.2.1 dX0_linesThatTear_61 (by decide) ?_
            refine lv_idiv X.1 X.2.1 dX0_linesThatTear_64 (by decide) ?_
            refine lv_i2l (v := ((r51 * (1000 - a4)) / 1000).toInt64) X.1 X.2.1 dX0_linesThatTear_65 rfl ?_
            refine lv_lload X.1 X.2.1 dX0_linesThatTear_66 (lv_at hl 6 rfl) ?_
            refine W.lcmp X.1 X.2.1 dX0_linesThatTear_68 ?_
            refine lv_if_ge (tgt := 78) X.1 X.2.1 dX0_linesThatTear_69 (by decide) (fun c69 => ?_) (fun c69 => ?_)
            · replace hf := k_ifP hf c69
              exact J78 _ _ _ a1 a3 a4 a5 a6 hU hS (lv_sub hl [0, 1, 2, 3, 4, 5] rfl) hf
            · replace hf := k_ifN hf c69
              obtain ⟨x72, e72, hf⟩ := k_ltE hf
              refine lv_iinc (v := x72) (lv' := [(5, .int x72), (0, .ref (ad k q)), (1, .long a1), (3, .int a3), (4, .int a4), (6, .int a6), (7, .long a7)]) X.1 X.2.1 dX0_linesThatTear_72 hl (k := 4) rfl (by rw [e72]; rfl) (by decide) rfl (fun ls hl => ?_)
              refine lv_goto (tgt := 39) X.1 X.2.1 dX0_linesThatTear_75 (by decide) ?_
              exact ih39 _ _ _ a1 a3 a4 x72 a6 a7 hU hS (lv_sub hl [1, 2, 3, 4, 0, 5, 6] rfl) hf
      intro H locs ls a1 a3 a4 a5 a6 hU hS hl hf
      replace hf : f_X0_linesThatTear_9_b (f_X0_linesThatTear_9 n9) w q a1 a3 a4 a5 a6 = some r := hf
      unfold f_X0_linesThatTear_9_b at hf
      refine lv_iload X.1 X.2.1 dX0_linesThatTear_9 (lv_at hl 4 rfl) ?_
      refine lv_iload X.1 X.2.1 dX0_linesThatTear_11 (lv_at hl 5 rfl) ?_
      refine lv_icmp_le (tgt := 81) X.1 X.2.1 dX0_linesThatTear_13 (by decide) (fun c13 => ?_) (fun c13 => ?_)
      · replace hf := k_ifP hf c13
        exact J81 _ _ _ a5 hU hS (lv_sub hl [0, 4] rfl) hf
      · replace hf := k_ifN hf c13
        refine lv_iload X.1 X.2.1 dX0_linesThatTear_16 (lv_at hl 4 rfl) ?_
        refine lv_aload_n X.1 X.2.1 dX0_linesThatTear_18 rfl (lv_at hl 0 rfl) ?_
        refine k_getw (v := .int (w q 1)) X hU (k_sC hk hq) fl_X0_15 rfl dX0_linesThatTear_19 ?_
        refine lv_icmp_ge (tgt := 81) X.1 X.2.1 dX0_linesThatTear_22 (by decide) (fun c22 => ?_) (fun c22 => ?_)
        · replace hf := k_ifP hf c22
          exact J81 _ _ _ a5 hU hS (lv_sub hl [0, 4] rfl) hf
        · replace hf := k_ifN hf c22
          refine lv_iload X.1 X.2.1 dX0_linesThatTear_25 (lv_at hl 4 rfl) ?_
          refine lv_istore (lv' := [(6, .int a5), (0, .ref (ad k q)), (1, .long a1), (3, .int a3), (4, .int a4), (5, .int a5)]) X.1 X.2.1 dX0_linesThatTear_27 hl (by decide) rfl (fun ls hl => ?_)
          refine lv_aload_n X.1 X.2.1 dX0_linesThatTear_29 rfl (lv_at hl 1 rfl) ?_
          refine lv_lload_n X.1 X.2.1 dX0_linesThatTear_30 rfl (lv_at hl 2 rfl) ?_
          refine lv_iload_n X.1 X.2.1 dX0_linesThatTear_31 rfl (lv_at hl 3 rfl) ?_
          refine lv_iload X.1 X.2.1 dX0_linesThatTear_32 (lv_at hl 5 rfl) ?_
          obtain ⟨r34, hr34, hf⟩ := k_bdE hf
          refine k_backl X hS (k_runV (As := [.long a1, .int a3, .int a5]) (rest := []) X hU (k_sC hk hq) (by decide) rfl vl_X0_41 (c_X0_loadOfOneLine X.2.2.2.2.2.2.1 hk (k_uc_s _ _ _) hq hr34) rfl rfl rfl hl.1 ⟨Nat.le_of_ble_eq_true rfl, Nat.le_of_ble_eq_true rfl⟩ (Nat.le_of_ble_eq_true rfl) dX0_linesThatTear_34 ⟨Nat.zero_le _, Nat.zero_le _⟩) (fun H locs hU hS => ?_)
          refine lv_lstore (lv' := [(7, .long r34), (6, .int a5), (0, .ref (ad k q)), (1, .long a1), (3, .int a3), (4, .int a4), (5, .int a5)]) X.1 X.2.1 dX0_linesThatTear_37 hl (by decide) rfl (fun ls hl => ?_)
          exact L39 k_N _ _ _ a1 a3 a4 a5 a5 r34 hU hS (lv_sub hl [2, 3, 4, 5, 6, 1, 0] rfl) hf
  unfold f_X0_linesThatTear at hf
  refine lv_aload_n X.1 X.2.1 dX0_linesThatTear_0 rfl (lv_at hl 0 rfl) ?_
  refine k_getw (v := .int (w q 7)) X hU (k_sC hk hq) fl_X0_34 rfl dX0_linesThatTear_1 ?_
  obtain ⟨x4, e4, hf⟩ := k_ltE hf
  refine k_nmi e4 ?_
  refine lv_istore (lv' := [(5, .int x4), (0, .ref (ad k q)), (1, .long a1), (3, .int a3), (4, .int a4)]) X.1 X.2.1 dX0_linesThatTear_4 hl (by decide) rfl (fun ls hl => ?_)
  refine lv_iconst (v := (-1)) X.1 X.2.1 dX0_linesThatTear_6 (by decide) ?_
  refine lv_istore (lv' := [(6, .int (-1)), (5, .int x4), (0, .ref (ad k q)), (1, .long a1), (3, .int a3), (4, .int a4)]) X.1 X.2.1 dX0_linesThatTear_7 hl (by decide) rfl (fun ls hl => ?_)
  exact L9 k_N _ _ _ a1 a3 a4 x4 (-1) hU hS (lv_sub hl [2, 3, 4, 5, 1, 0] rfl) hf
def rm_X0_letter : Room := { frames := 0, cells := 0, slots := 0, locals := 0 }
set_option maxRecDepth 100000 in
set_option maxHeartbeats 4000000 in
theorem c_X0_letter {l : Launch} {D : va_G} {G : Nat → ClassId} {ad : Nat → Nat → Nat} {u : k_U} (hI : k_ok ad) {k : Nat} (hk : k_isW k) {w : k_M} (hw : u k = w) {q : Nat} (hq : k_isC q) {sz : Nat} {r : Int32} (hf : f_X0_letter w q = some r) : Met l yX0_letter (.code yX0_letter cX0_letter 1 (some .char) :: lw_g) rm_X0_letter (k_Pre D G ad u sz [.ref (ad k q)]) (k_Qi D G ad u r sz) 0 0 (k_A ad sz) := by
  refine k_ofW (by decide +kernel) hI (Nat.le_of_ble_eq_true rfl) ?_
  intro p e s m args below meth c X hr hlk hU hS ls hl
  have hl : lv_has ls 1 [(0, .ref (ad k q))] := hl
  have hU : k_Uv D G ad (k_uc u k w) s.heap := by rw [← hw, k_uc_id]; exact hU
  unfold f_X0_letter at hf
  refine lv_aload_n X.1 X.2.1 dX0_letter_0 rfl (lv_at hl 0 rfl) ?_
  refine k_getw (v := .int (w q 5)) X hU (k_sC hk hq) fl_X0_27 rfl dX0_letter_1 ?_
  by_cases c4_0 : (w q 5) = 0
  · replace hf := k_ifP hf c4_0
    refine lv_tableIn (x := w q 5) (off := 32) (tgt := 36) X.1 X.2.1 dX0_letter_4 (by rw [c4_0]; decide) (by rw [c4_0]; decide) (by rw [c4_0]; rfl) (by decide) ?_
    refine lv_bipush (v := 80) X.1 X.2.1 dX0_letter_36 (by decide) ?_
    rw [← hw, k_uc_id] at hU
    have hz := Option.some.inj hf
    subst hz
    exact k_iret (v := 80) X hU hS hr hlk rfl rfl dX0_letter_38
  replace hf := k_ifN hf c4_0
  by_cases c4_1 : (w q 5) = 1
  · replace hf := k_ifP hf c4_1
    refine lv_tableIn (x := w q 5) (off := 35) (tgt := 39) X.1 X.2.1 dX0_letter_4 (by rw [c4_1]; decide) (by rw [c4_1]; decide) (by rw [c4_1]; rfl) (by decide) ?_
    refine lv_bipush (v := 79) X.1 X.2.1 dX0_letter_39 (by decide) ?_
    rw [← hw, k_uc_id] at hU
    have hz := Option.some.inj hf
    subst hz
    exact k_iret (v := 79) X hU hS hr hlk rfl rfl dX0_letter_41
  replace hf := k_ifN hf c4_1
  by_cases c4_2 : (w q 5) = 2
  · replace hf := k_ifP hf c4_2
    refine lv_tableIn (x := w q 5) (off := 38) (tgt := 42) X.1 X.2.1 dX0_letter_4 (by rw [c4_2]; decide) (by rw [c4_2]; decide) (by rw [c4_2]; rfl) (by decide) ?_
    refine lv_bipush (v := 84) X.1 X.2.1 dX0_letter_42 (by decide) ?_
    rw [← hw, k_uc_id] at hU
    have hz := Option.some.inj hf
    subst hz
    exact k_iret (v := 84) X hU hS hr hlk rfl rfl dX0_letter_44
  replace hf := k_ifN hf c4_2
  by_cases c4_3 : (w q 5) = 3
  · replace hf := k_ifP hf c4_3
    refine lv_tableIn (x := w q 5) (off := 41) (tgt := 45) X.1 X.2.1 dX0_letter_4 (by rw [c4_3]; decide) (by rw [c4_3]; decide) (by rw [c4_3]; rfl) (by decide) ?_
    refine lv_bipush (v := 74) X.1 X.2.1 dX0_letter_45 (by decide) ?_
    rw [← hw, k_uc_id] at hU
    have hz := Option.some.inj hf
    subst hz
    exact k_iret (v := 74) X hU hS hr hlk rfl rfl dX0_letter_47
  replace hf := k_ifN hf c4_3
  have ho4 : (w q 5).toInt < 0 ∨ 3 < (w q 5).toInt := by
    have g0 := k_tne (n := 0) (z := 0) c4_0 (by decide)
    have g1 := k_tne (n := 1) (z := 1) c4_1 (by decide)
    have g2 := k_tne (n := 2) (z := 2) c4_2 (by decide)
    have g3 := k_tne (n := 3) (z := 3) c4_3 (by decide)
    omega
  refine lv_tableOut (x := w q 5) (tgt := 48) X.1 X.2.1 dX0_letter_4 ho4 (by decide) ?_
  refine lv_bipush (v := 67) X.1 X.2.1 dX0_letter_48 (by decide) ?_
  rw [← hw, k_uc_id] at hU
  have hz := Option.some.inj hf
  subst hz
  exact k_iret (v := 67) X hU hS hr hlk rfl rfl dX0_letter_50
def rm_X1_copyFrom : Room := { frames := 1, cells := 0, slots := 0, locals := 24 }
set_option maxRecDepth 100000 in
set_option maxHeartbeats 4000000 in
theorem c_X1_copyFrom {l : Launch} {D : va_G} {G : Nat → ClassId} {ad : Nat → Nat → Nat} {u : k_U} (hI : k_ok ad) {k : Nat} (hk : k_isW k) {k2 : Nat} (hk2 : k_isW k2) (hne : k2 ≠ k) {w : k_M} (hw : u k = w) {o : k_M} (ho : u k2 = o) {sz : Nat} {r : k_M} (hf : f_X1_copyFrom w o = some r) : Met l yX1_copyFrom (.code yX1_copyFrom cX1_copyFrom 2 none :: lw_g) rm_X1_copyFrom (k_Pre D G ad u sz [.ref (ad k 13), .ref (ad k2 13)]) (k_Qv D G ad (k_uc u k r) sz) 0 0 (k_A ad sz) := by
  refine k_ofW (by decide +kernel) hI (Nat.le_of_ble_eq_true rfl) ?_
  intro p e s m args below meth c X hr hlk hU hS ls hl
  have hl : lv_has ls 2 [(0, .ref (ad k 13)), (1, .ref (ad k2 13))] := hl
  have hU : k_Uv D G ad (k_uc u k w) s.heap := by rw [← hw, k_uc_id]; exact hU
  unfold f_X1_copyFrom at hf
  refine lv_aload_n X.1 X.2.1 dX1_copyFrom_0 rfl (lv_at hl 1 rfl) ?_
  refine k_geto (v := .ref (ad k2 14)) hne X hU (sW_13 hk2) fl_X1_9 rfl dX1_copyFrom_1 ?_
  refine lv_iconst (v := 0) X.1 X.2.1 dX1_copyFrom_4 (by decide) ?_
  refine lv_aload_n X.1 X.2.1 dX1_copyFrom_5 rfl (lv_at hl 0 rfl) ?_
  refine k_getw (v := .ref (ad k 14)) X hU (sW_13 hk) fl_X1_9 rfl dX1_copyFrom_6 ?_
  refine lv_iconst (v := 0) X.1 X.2.1 dX1_copyFrom_9 (by decide) ?_
  refine lv_bipush (v := 120) X.1 X.2.1 dX1_copyFrom_10 (by decide) ?_
  obtain ⟨w12, e12, hf⟩ := k_ltE hf
  refine k_cpyo (n0 := 120) (w := w12) hne X hU hS (cpX1_13) (sW_14 hk2) (sW_14 hk) (by decide) (by decide) (by decide) (by rw [ho]; exact e12) hl.1 (Nat.le_of_ble_eq_true rfl) (Nat.le_of_ble_eq_true rfl) dX1_copyFrom_12 (fun H locs hU hS => ?_)
  refine lv_aload_n X.1 X.2.1 dX1_copyFrom_15 rfl (lv_at hl 0 rfl) ?_
  refine lv_aload_n X.1 X.2.1 dX1_copyFrom_16 rfl (lv_at hl 1 rfl) ?_
  refine k_geto (v := .int (o 13 1)) hne X hU (sW_13 hk2) fl_X1_19 (by rw [ho]; rfl) dX1_copyFrom_17 ?_
  obtain ⟨w20, e20, hf⟩ := k_ltE hf
  refine k_putw X hU hS (sW_13 hk) fp_X1_19 rfl e20 rfl rfl dX1_copyFrom_20 (fun H locs hU hS => ?_)
  refine lv_aload_n X.1 X.2.1 dX1_copyFrom_23 rfl (lv_at hl 0 rfl) ?_
  refine lv_aload_n X.1 X.2.1 dX1_copyFrom_24 rfl (lv_at hl 1 rfl) ?_
  refine k_geto (v := .int (o 13 2)) hne X hU (sW_13 hk2) fl_X1_23 (by rw [ho]; rfl) dX1_copyFrom_25 ?_
  obtain ⟨w28, e28, hf⟩ := k_ltE hf
  refine k_putw X hU hS (sW_13 hk) fp_X1_23 rfl e28 rfl rfl dX1_copyFrom_28 (fun H locs hU hS => ?_)
  have hz := Option.some.inj hf
  subst hz
  exact k_vret X hU hS hr hlk dX1_copyFrom_31
def rm_X1_forget : Room := { frames := 0, cells := 0, slots := 0, locals := 0 }
set_option maxRecDepth 100000 in
set_option maxHeartbeats 4000000 in
theorem c_X1_forget {l : Launch} {D : va_G} {G : Nat → ClassId} {ad : Nat → Nat → Nat} {u : k_U} (hI : k_ok ad) {k : Nat} (hk : k_isW k) {w : k_M} (hw : u k = w) {sz : Nat} {r : k_M} (hf : f_X1_forget w = some r) : Met l yX1_forget (.code yX1_forget cX1_forget 1 none :: lw_g) rm_X1_forget (k_Pre D G ad u sz [.ref (ad k 13)]) (k_Qv D G ad (k_uc u k r) sz) 0 0 (k_A ad sz) := by
  refine k_ofW (by decide +kernel) hI (Nat.le_of_ble_eq_true rfl) ?_
  intro p e s m args below meth c X hr hlk hU hS ls hl
  have hl : lv_has ls 1 [(0, .ref (ad k 13))] := hl
  have hU : k_Uv D G ad (k_uc u k w) s.heap := by rw [← hw, k_uc_id]; exact hU
  unfold f_X1_forget at hf
  refine lv_aload_n X.1 X.2.1 dX1_forget_0 rfl (lv_at hl 0 rfl) ?_
  refine lv_iconst (v := 0) X.1 X.2.1 dX1_forget_1 (by decide) ?_
  obtain ⟨w2, e2, hf⟩ := k_ltE hf
  refine k_putw X hU hS (sW_13 hk) fp_X1_19 rfl e2 rfl rfl dX1_forget_2 (fun H locs hU hS => ?_)
  refine lv_aload_n X.1 X.2.1 dX1_forget_5 rfl (lv_at hl 0 rfl) ?_
  refine lv_iconst (v := 0) X.1 X.2.1 dX1_forget_6 (by decide) ?_
  obtain ⟨w7, e7, hf⟩ := k_ltE hf
  refine k_putw X hU hS (sW_13 hk) fp_X1_23 rfl e7 rfl rfl dX1_forget_7 (fun H locs hU hS => ?_)
  have hz := Option.some.inj hf
  subst hz
  exact k_vret X hU hS hr hlk dX1_forget_10
def rm_X1_record : Room := { frames := 0, cells := 0, slots := 0, locals := 0 }
set_option maxRecDepth 100000 in
set_option maxHeartbeats 4000000 in
theorem c_X1_record {l : Launch} {D : va_G} {G : Nat → ClassId} {ad : Nat → Nat → Nat} {u : k_U} (hI : k_ok ad) {k : Nat} (hk : k_isW k) {w : k_M} (hw : u k = w) {a1 : Int32} {a2 : Int32} {a3 : Int32} {a4 : Int32} {sz : Nat} {r : k_M} (hf : f_X1_record w a1 a2 a3 a4 = some r) : Met l yX1_record (.code yX1_record cX1_record 6 none :: lw_g) rm_X1_record (k_Pre D G ad u sz [.ref (ad k 13), .int a1, .int a2, .int a3, .int a4]) (k_Qv D G ad (k_uc u k r) sz) 0 0 (k_A ad sz) := by
  refine k_ofW (by decide +kernel) hI (Nat.le_of_ble_eq_true rfl) ?_
  intro p e s m args below meth c X hr hlk hU hS ls hl
  have hl : lv_has ls 6 [(0, .ref (ad k 13)), (1, .int a1), (2, .int a2), (3, .int a3), (4, .int a4)] := hl
  have hU : k_Uv D G ad (k_uc u k w) s.heap := by rw [← hw, k_uc_id]; exact hU
  unfold f_X1_record at hf
  refine lv_aload_n X.1 X.2.1 dX1_record_0 rfl (lv_at hl 0 rfl) ?_
  refine k_getw (v := .int (w 13 1)) X hU (sW_13 hk) fl_X1_19 rfl dX1_record_1 ?_
  refine lv_aload_n X.1 X.2.1 dX1_record_4 rfl (lv_at hl 0 rfl) ?_
  refine k_getw (v := .int (w 13 2)) X hU (sW_13 hk) fl_X1_23 rfl dX1_record_5 ?_
  refine lv_iadd X.1 X.2.1 dX1_record_8 ?_
  refine lv_bipush (v := 30) X.1 X.2.1 dX1_record_9 (by decide) ?_
  refine lv_irem X.1 X.2.1 dX1_record_11 (by decide) ?_
  refine lv_iconst (v := 4) X.1 X.2.1 dX1_record_12 (by decide) ?_
  refine lv_imul X.1 X.2.1 dX1_record_13 ?_
  obtain ⟨x14, e14, hf⟩ := k_ltE hf
  refine k_nmi e14 ?_
  refine lv_istore (lv' := [(5, .int x14), (0, .ref (ad k 13)), (1, .int a1), (2, .int a2), (3, .int a3), (4, .int a4)]) X.1 X.2.1 dX1_record_14 hl (by decide) rfl (fun ls hl => ?_)
  refine lv_aload_n X.1 X.2.1 dX1_record_16 rfl (lv_at hl 1 rfl) ?_
  refine k_getw (v := .ref (ad k 14)) X hU (sW_13 hk) fl_X1_9 rfl dX1_record_17 ?_
  refine lv_iload X.1 X.2.1 dX1_record_20 (lv_at hl 0 rfl) ?_
  refine lv_iload_n X.1 X.2.1 dX1_record_22 rfl (lv_at hl 2 rfl) ?_
  obtain ⟨hi23, hf⟩ := k_ckE hf
  obtain ⟨w23, e23, hf⟩ := k_ltE hf
  refine k_istw X hU hS (sW_14 hk) e23 (k_vin (n := 120) hi23 (by decide)) rfl dX1_record_23 (fun H locs hU hS => ?_)
  refine lv_aload_n X.1 X.2.1 dX1_record_24 rfl (lv_at hl 1 rfl) ?_
  refine k_getw (v := .ref (ad k 14)) X hU (sW_13 hk) fl_X1_9 rfl dX1_record_25 ?_
  refine lv_iload X.1 X.2.1 dX1_record_28 (lv_at hl 0 rfl) ?_
  refine lv_iconst (v := 1) X.1 X.2.1 dX1_record_30 (by decide) ?_
  refine lv_iadd X.1 X.2.1 dX1_record_31 ?_
  refine lv_iload_n X.1 X.2.1 dX1_record_32 rfl (lv_at hl 3 rfl) ?_
  obtain ⟨hi33, hf⟩ := k_ckE hf
  obtain ⟨w33, e33, hf⟩ := k_ltE hf
  refine k_istw X hU hS (sW_14 hk) e33 (k_vin (n := 120) hi33 (by decide)) rfl dX1_record_33 (fun H locs hU hS => ?_)
  refine lv_aload_n X.1 X.2.1 dX1_record_34 rfl (lv_at hl 1 rfl) ?_
  refine k_getw (v := .ref (ad k 14)) X hU (sW_13 hk) fl_X1_9 rfl dX1_record_35 ?_
  refine lv_iload X.1 X.2.1 dX1_record_38 (lv_at hl 0 rfl) ?_
  refine lv_iconst (v := 2) X.1 X.2.1 dX1_record_40 (by decide) ?_
  refine lv_iadd X.1 X.2.1 dX1_record_41 ?_
  refine lv_iload_n X.1 X.2.1 dX1_record_42 rfl (lv_at hl 4 rfl) ?_
  obtain ⟨hi43, hf⟩ := k_ckE hf
  obtain ⟨w43, e43, hf⟩ := k_ltE hf
  refine k_istw X hU hS (sW_14 hk) e43 (k_vin (n := 120) hi43 (by decide)) rfl dX1_record_43 (fun H locs hU hS => ?_)
  refine lv_aload_n X.1 X.2.1 dX1_record_44 rfl (lv_at hl 1 rfl) ?_
  refine k_getw (v := .ref (ad k 14)) X hU (sW_13 hk) fl_X1_9 rfl dX1_record_45 ?_
  refine lv_iload X.1 X.2.1 dX1_record_48 (lv_at hl 0 rfl) ?_
  refine lv_iconst (v := 3) X.1 X.2.1 dX1_record_50 (by decide) ?_
  refine lv_iadd X.1 X.2.1 dX1_record_51 ?_
  refine lv_iload X.1 X.2.1 dX1_record_52 (lv_at hl 5 rfl) ?_
  obtain ⟨hi54, hf⟩ := k_ckE hf
  obtain ⟨w54, e54, hf⟩ := k_ltE hf
  refine k_istw X hU hS (sW_14 hk) e54 (k_vin (n := 120) hi54 (by decide)) rfl dX1_record_54 (fun H locs hU hS => ?_)
  refine lv_aload_n X.1 X.2.1 dX1_record_55 rfl (lv_at hl 1 rfl) ?_
  refine k_getw (v := .int (w54 13 2)) X hU (sW_13 hk) fl_X1_23 rfl dX1_record_56 ?_
  refine lv_bipush (v := 30) X.1 X.2.1 dX1_record_59 (by decide) ?_
  refine lv_icmp_ge (tgt := 77) X.1 X.2.1 dX1_record_61 (by decide) (fun c61 => ?_) (fun c61 => ?_)
  · replace hf := k_ifP hf c61
    refine lv_aload_n X.1 X.2.1 dX1_record_77 rfl (lv_at hl 1 rfl) ?_
    refine lv_aload_n X.1 X.2.1 dX1_record_78 rfl (lv_at hl 1 rfl) ?_
    refine k_getw (v := .int (w54 13 1)) X hU (sW_13 hk) fl_X1_19 rfl dX1_record_79 ?_
    refine lv_iconst (v := 1) X.1 X.2.1 dX1_record_82 (by decide) ?_
    refine lv_iadd X.1 X.2.1 dX1_record_83 ?_
    refine lv_bipush (v := 30) X.1 X.2.1 dX1_record_84 (by decide) ?_
    refine lv_irem X.1 X.2.1 dX1_record_86 (by decide) ?_
    obtain ⟨w87, e87, hf⟩ := k_ltE hf
    refine k_putw X hU hS (sW_13 hk) fp_X1_19 rfl e87 rfl rfl dX1_record_87 (fun H locs hU hS => ?_)
    have hz := Option.some.inj hf
    subst hz
    exact k_vret X hU hS hr hlk dX1_record_90
  · replace hf := k_ifN hf c61
    refine lv_aload_n X.1 X.2.1 dX1_record_64 rfl (lv_at hl 1 rfl) ?_
    refine lv_dup X.1 X.2.1 dX1_record_65 rfl ?_
    refine k_getw (v := .int (w54 13 2)) X hU (sW_13 hk) fl_X1_23 rfl dX1_record_66 ?_
    refine lv_iconst (v := 1) X.1 X.2.1 dX1_record_69 (by decide) ?_
    refine lv_iadd X.1 X.2.1 dX1_record_70 ?_
    obtain ⟨w71, e71, hf⟩ := k_ltE hf
    refine k_putw X hU hS (sW_13 hk) fp_X1_23 rfl e71 rfl rfl dX1_record_71 (fun H locs hU hS => ?_)
    refine lv_goto (tgt := 90) X.1 X.2.1 dX1_record_74 (by decide) ?_
    have hz := Option.some.inj hf
    subst hz
    exact k_vret X hU hS hr hlk dX1_record_90
def rm_X1_partOf : Room := { frames := 0, cells := 0, slots := 0, locals := 0 }
set_option maxRecDepth 100000 in
set_option maxHeartbeats 4000000 in
theorem c_X1_partOf {l : Launch} {D : va_G} {G : Nat → ClassId} {ad : Nat → Nat → Nat} {u : k_U} (hI : k_ok ad) {k : Nat} (hk : k_isW k) {w : k_M} (hw : u k = w) {a1 : Int32} {a2 : Int32} {sz : Nat} {r : Int32} (hf : f_X1_partOf w a1 a2 = some r) : Met l yX1_partOf (.code yX1_partOf cX1_partOf 3 (some .int) :: lw_g) rm_X1_partOf (k_Pre D G ad u sz [.ref (ad k 13), .int a1, .int a2]) (k_Qi D G ad u r sz) 0 0 (k_A ad sz) := by
  refine k_ofW (by decide +kernel) hI (Nat.le_of_ble_eq_true rfl) ?_
  intro p e s m args below meth c X hr hlk hU hS ls hl
  have hl : lv_has ls 3 [(0, .ref (ad k 13)), (1, .int a1), (2, .int a2)] := hl
  have hU : k_Uv D G ad (k_uc u k w) s.heap := by rw [← hw, k_uc_id]; exact hU
  unfold f_X1_partOf at hf
  refine lv_aload_n X.1 X.2.1 dX1_partOf_0 rfl (lv_at hl 0 rfl) ?_
  refine k_getw (v := .ref (ad k 14)) X hU (sW_13 hk) fl_X1_9 rfl dX1_partOf_1 ?_
  refine lv_aload_n X.1 X.2.1 dX1_partOf_4 rfl (lv_at hl 0 rfl) ?_
  refine k_getw (v := .int (w 13 1)) X hU (sW_13 hk) fl_X1_19 rfl dX1_partOf_5 ?_
  refine lv_iload_n X.1 X.2.1 dX1_partOf_8 rfl (lv_at hl 1 rfl) ?_
  refine lv_iadd X.1 X.2.1 dX1_partOf_9 ?_
  refine lv_bipush (v := 30) X.1 X.2.1 dX1_partOf_10 (by decide) ?_
  refine lv_irem X.1 X.2.1 dX1_partOf_12 (by decide) ?_
  refine lv_iconst (v := 4) X.1 X.2.1 dX1_partOf_13 (by decide) ?_
  refine lv_imul X.1 X.2.1 dX1_partOf_14 ?_
  refine lv_iload_n X.1 X.2.1 dX1_partOf_15 rfl (lv_at hl 2 rfl) ?_
  refine lv_iadd X.1 X.2.1 dX1_partOf_16 ?_
  obtain ⟨hi17, hf⟩ := k_ckE hf
  refine k_ildw X hU (sW_14 hk) (k_vin (n := 120) hi17 (by decide)) rfl dX1_partOf_17 ?_
  rw [← hw, k_uc_id] at hU
  have hz := Option.some.inj hf
  subst hz
  exact k_iret (v := w 14 ((((((w 13 1) + a1) - ((w 13 1) + a1) / 30 * 30) * 4) + a2).toNatClampNeg)) X hU hS hr hlk rfl rfl dX1_partOf_18
def rm_X2_copyFrom : Room := { frames := 1, cells := 0, slots := 0, locals := 24 }
set_option maxRecDepth 100000 in
set_option maxHeartbeats 4000000 in
theorem c_X2_copyFrom {l : Launch} {D : va_G} {G : Nat → ClassId} {ad : Nat → Nat → Nat} {u : k_U} (hI : k_ok ad) {k : Nat} (hk : k_isW k) {k2 : Nat} (hk2 : k_isW k2) (hne : k2 ≠ k) {w : k_M} (hw : u k = w) {o : k_M} (ho : u k2 = o) {tc : Nat} (hc : k_isT tc) {sz : Nat} {r : k_M} (hf : f_X2_copyFrom w o tc = some r) : Met l yX2_copyFrom (.code yX2_copyFrom cX2_copyFrom 2 none :: lw_g) rm_X2_copyFrom (k_Pre D G ad u sz [.ref (ad k tc), .ref (ad k2 tc)]) (k_Qv D G ad (k_uc u k r) sz) 0 0 (k_A ad sz) := by
  refine k_ofW (by decide +kernel) hI (Nat.le_of_ble_eq_true rfl) ?_
  intro p e s m args below meth c X hr hlk hU hS ls hl
  have hl : lv_has ls 2 [(0, .ref (ad k tc)), (1, .ref (ad k2 tc))] := hl
  have hU : k_Uv D G ad (k_uc u k w) s.heap := by rw [← hw, k_uc_id]; exact hU
  unfold f_X2_copyFrom at hf
  refine lv_aload_n X.1 X.2.1 dX2_copyFrom_0 rfl (lv_at hl 1 rfl) ?_
  refine k_geto (v := .ref (ad k2 (tc + 1))) hne X hU (k_sT hk2 hc) fl_X2_11 rfl dX2_copyFrom_1 ?_
  refine lv_iconst (v := 0) X.1 X.2.1 dX2_copyFrom_4 (by decide) ?_
  refine lv_aload_n X.1 X.2.1 dX2_copyFrom_5 rfl (lv_at hl 0 rfl) ?_
  refine k_getw (v := .ref (ad k (tc + 1))) X hU (k_sT hk hc) fl_X2_11 rfl dX2_copyFrom_6 ?_
  refine lv_iconst (v := 0) X.1 X.2.1 dX2_copyFrom_9 (by decide) ?_
  refine lv_bipush (v := 8) X.1 X.2.1 dX2_copyFrom_10 (by decide) ?_
  obtain ⟨w12, e12, hf⟩ := k_ltE hf
  refine k_cpyo (n0 := 8) (w := w12) hne X hU hS (cpX2_18) (k_sT1 hk2 hc) (k_sT1 hk hc) (by decide) (by decide) (by decide) (by rw [ho]; exact e12) hl.1 (Nat.le_of_ble_eq_true rfl) (Nat.le_of_ble_eq_true rfl) dX2_copyFrom_12 (fun H locs hU hS => ?_)
  refine lv_aload_n X.1 X.2.1 dX2_copyFrom_15 rfl (lv_at hl 1 rfl) ?_
  refine k_geto (v := .ref (ad k2 (tc + 2))) hne X hU (k_sT hk2 hc) fl_X2_15 rfl dX2_copyFrom_16 ?_
  refine lv_iconst (v := 0) X.1 X.2.1 dX2_copyFrom_19 (by decide) ?_
  refine lv_aload_n X.1 X.2.1 dX2_copyFrom_20 rfl (lv_at hl 0 rfl) ?_
  refine k_getw (v := .ref (ad k (tc + 2))) X hU (k_sT hk hc) fl_X2_15 rfl dX2_copyFrom_21 ?_
  refine lv_iconst (v := 0) X.1 X.2.1 dX2_copyFrom_24 (by decide) ?_
  refine lv_bipush (v := 8) X.1 X.2.1 dX2_copyFrom_25 (by decide) ?_
  obtain ⟨w27, e27, hf⟩ := k_ltE hf
  refine k_cpyo (n0 := 8) (w := w27) hne X hU hS (cpX2_18) (k_sT2 hk2 hc) (k_sT2 hk hc) (by decide) (by decide) (by decide) (by rw [ho]; exact e27) hl.1 (Nat.le_of_ble_eq_true rfl) (Nat.le_of_ble_eq_true rfl) dX2_copyFrom_27 (fun H locs hU hS => ?_)
  refine lv_aload_n X.1 X.2.1 dX2_copyFrom_30 rfl (lv_at hl 0 rfl) ?_
  refine lv_aload_n X.1 X.2.1 dX2_copyFrom_31 rfl (lv_at hl 1 rfl) ?_
  refine k_geto (v := .int (o tc 2)) hne X hU (k_sT hk2 hc) fl_X2_24 (by rw [ho]; rfl) dX2_copyFrom_32 ?_
  obtain ⟨w35, e35, hf⟩ := k_ltE hf
  refine k_putw X hU hS (k_sT hk hc) fp_X2_24 rfl e35 rfl rfl dX2_copyFrom_35 (fun H locs hU hS => ?_)
  have hz := Option.some.inj hf
  subst hz
  exact k_vret X hU hS hr hlk dX2_copyFrom_38
def rm_X2_placeOf : Room := { frames := 0, cells := 0, slots := 0, locals := 0 }
set_option maxRecDepth 100000 in
set_option maxHeartbeats 4000000 in
theorem c_X2_placeOf {l : Launch} {D : va_G} {G : Nat → ClassId} {ad : Nat → Nat → Nat} {u : k_U} (hI : k_ok ad) {k : Nat} (hk : k_isW k) {w : k_M} (hw : u k = w) {tc : Nat} {a1 : Int32} (hc : k_isT tc) {sz : Nat} {r : Int32} (hf : f_X2_placeOf w tc a1 = some r) : Met l yX2_placeOf (.code yX2_placeOf cX2_placeOf 3 (some .int) :: lw_g) rm_X2_placeOf (k_Pre D G ad u sz [.ref (ad k tc), .int a1]) (k_Qi D G ad u r sz) 0 0 (k_A ad sz) := by
  refine k_ofW (by decide +kernel) hI (Nat.le_of_ble_eq_true rfl) ?_
  intro p e s m args below meth c X hr hlk hU hS ls hl
  have hl : lv_has ls 3 [(0, .ref (ad k tc)), (1, .int a1)] := hl
  have hU : k_Uv D G ad (k_uc u k w) s.heap := by rw [← hw, k_uc_id]; exact hU
  have L2 : ∀ (n2 : Nat) (H : Heap) (locs : List Loc) (ls : Array Slot) (a1 : Int32) (a2 : Int32), k_Uv D G ad (k_uc u k w) H → va_S (k_A ad sz) s.heap H locs → lv_has ls 3 [(0, .ref (ad k tc)), (1, .int a1), (2, .int a2)] → f_X2_placeOf_2 n2 w tc a1 a2 = some r → W p l e rm_X2_placeOf s m args below meth c H locs 0 0 (MQ below (k_Qi D G ad u r sz) args s 0 0 (k_A ad sz)) (F0 m 2 ls []) := by
    intro n2
    induction n2 with
    | zero =>
      intro H locs ls a1 a2 hU hS hl hf
      cases (show none = some r from hf)
    | succ n2 ih2 =>
      intro H locs ls a1 a2 hU hS hl hf
      replace hf : f_X2_placeOf_2_b (f_X2_placeOf_2 n2) w tc a1 a2 = some r := hf
      unfold f_X2_placeOf_2_b at hf
      refine lv_iload_n X.1 X.2.1 dX2_placeOf_2 rfl (lv_at hl 2 rfl) ?_
      refine lv_aload_n X.1 X.2.1 dX2_placeOf_3 rfl (lv_at hl 0 rfl) ?_
      refine k_getw (v := .int (w tc 2)) X hU (k_sT hk hc) fl_X2_24 rfl dX2_placeOf_4 ?_
      refine lv_icmp_ge (tgt := 28) X.1 X.2.1 dX2_placeOf_7 (by decide) (fun c7 => ?_) (fun c7 => ?_)
      · replace hf := k_ifP hf c7
        refine lv_iconst (v := (-1)) X.1 X.2.1 dX2_placeOf_28 (by decide) ?_
        rw [← hw, k_uc_id] at hU
        have hz := Option.some.inj hf
        subst hz
        exact k_iret (v := (-1)) X hU hS hr hlk rfl rfl dX2_placeOf_29
      · replace hf := k_ifN hf c7
        refine lv_aload_n X.1 X.2.1 dX2_placeOf_10 rfl (lv_at hl 0 rfl) ?_
        refine k_getw (v := .ref (ad k (tc + 1))) X hU (k_sT hk hc) fl_X2_11 rfl dX2_placeOf_11 ?_
        refine lv_iload_n X.1 X.2.1 dX2_placeOf_14 rfl (lv_at hl 2 rfl) ?_
        obtain ⟨hi15, hf⟩ := k_ckE hf
        refine k_ildw X hU (k_sT1 hk hc) (k_vin (n := 8) hi15 (by decide)) rfl dX2_placeOf_15 ?_
        refine lv_iload_n X.1 X.2.1 dX2_placeOf_16 rfl (lv_at hl 1 rfl) ?_
        refine lv_icmp_ne (tgt := 22) X.1 X.2.1 dX2_placeOf_17 (by decide) (fun c17 => ?_) (fun c17 => ?_)
        · replace hf := k_ifN hf c17
          obtain ⟨x22, e22, hf⟩ := k_ltE hf
          refine lv_iinc (v := x22) (lv' := [(2, .int x22), (0, .ref (ad k tc)), (1, .int a1)]) X.1 X.2.1 dX2_placeOf_22 hl (k := 2) rfl (by rw [e22]; rfl) (by decide) rfl (fun ls hl => ?_)
          refine lv_goto (tgt := 2) X.1 X.2.1 dX2_placeOf_25 (by decide) ?_
          exact ih2 _ _ _ a1 x22 hU hS (lv_sub hl [1, 2, 0] rfl) hf
        · replace hf := k_ifP hf c17
          refine lv_iload_n X.1 X.2.1 dX2_placeOf_20 rfl (lv_at hl 2 rfl) ?_
          rw [← hw, k_uc_id] at hU
          have hz := Option.some.inj hf
          subst hz
          exact k_iret (v := a2) X hU hS hr hlk rfl rfl dX2_placeOf_21
  unfold f_X2_placeOf at hf
  refine lv_iconst (v := 0) X.1 X.2.1 dX2_placeOf_0 (by decide) ?_
  refine lv_istore_n (lv' := [(2, .int 0), (0, .ref (ad k tc)), (1, .int a1)]) X.1 X.2.1 dX2_placeOf_1 rfl hl (by decide) rfl (fun ls hl => ?_)
  exact L2 k_N _ _ _ a1 0 hU hS (lv_sub hl [1, 2, 0] rfl) hf
def rm_X2_hasPlaceFor : Room := { frames := 1, cells := 0, slots := 0, locals := 22 }
set_option maxRecDepth 100000 in
set_option maxHeartbeats 4000000 in
theorem c_X2_hasPlaceFor {l : Launch} {D : va_G} {G : Nat → ClassId} {ad : Nat → Nat → Nat} {u : k_U} (hI : k_ok ad) {k : Nat} (hk : k_isW k) {w : k_M} (hw : u k = w) {tc : Nat} {a1 : Int32} (hc : k_isT tc) {sz : Nat} {r : Int32} (hf : f_X2_hasPlaceFor w tc a1 = some r) : Met l yX2_hasPlaceFor (.code yX2_hasPlaceFor cX2_hasPlaceFor 2 (some .boolean) :: lw_g) rm_X2_hasPlaceFor (k_Pre D G ad u sz [.ref (ad k tc), .int a1]) (k_Qi D G ad u r sz) 0 0 (k_A ad sz) := by
  refine k_ofW (by decide +kernel) hI (Nat.le_of_ble_eq_true rfl) ?_
  intro p e s m args below meth c X hr hlk hU hS ls hl
  have hl : lv_has ls 2 [(0, .ref (ad k tc)), (1, .int a1)] := hl
  have hU : k_Uv D G ad (k_uc u k w) s.heap := by rw [← hw, k_uc_id]; exact hU
  unfold f_X2_hasPlaceFor at hf
  refine lv_aload_n X.1 X.2.1 dX2_hasPlaceFor_0 rfl (lv_at hl 0 rfl) ?_
  refine k_getw (v := .int (w tc 2)) X hU (k_sT hk hc) fl_X2_24 rfl dX2_hasPlaceFor_1 ?_
  refine lv_bipush (v := 8) X.1 X.2.1 dX2_hasPlaceFor_4 (by decide) ?_
  refine lv_icmp_lt (tgt := 18) X.1 X.2.1 dX2_hasPlaceFor_6 (by decide) (fun c6 => ?_) (fun c6 => ?_)
  · replace hf := k_ifP hf c6
    refine lv_iconst (v := 1) X.1 X.2.1 dX2_hasPlaceFor_18 (by decide) ?_
    refine lv_goto (tgt := 23) X.1 X.2.1 dX2_hasPlaceFor_19 (by decide) ?_
    rw [← hw, k_uc_id] at hU
    have hz := Option.some.inj hf
    subst hz
    exact k_iret (v := 1) X hU hS hr hlk rfl rfl dX2_hasPlaceFor_23
  · replace hf := k_ifN hf c6
    refine lv_aload_n X.1 X.2.1 dX2_hasPlaceFor_9 rfl (lv_at hl 0 rfl) ?_
    refine lv_iload_n X.1 X.2.1 dX2_hasPlaceFor_10 rfl (lv_at hl 1 rfl) ?_
    obtain ⟨r11, hr11, hf⟩ := k_bdE hf
    refine k_backi X hS (k_runV (As := [.int a1]) (rest := []) X hU (k_sT hk hc) (by decide) rfl vl_X2_28 (c_X2_placeOf X.2.2.2.2.2.2.1 hk (k_uc_s _ _ _) hc hr11) rfl rfl rfl hl.1 ⟨Nat.le_of_ble_eq_true rfl, Nat.le_of_ble_eq_true rfl⟩ (Nat.le_of_ble_eq_true rfl) dX2_hasPlaceFor_11 ⟨Nat.zero_le _, Nat.zero_le _⟩) (fun H locs hU hS => ?_)
    refine lv_iconst (v := (-1)) X.1 X.2.1 dX2_hasPlaceFor_14 (by decide) ?_
    refine lv_icmp_eq (tgt := 22) X.1 X.2.1 dX2_hasPlaceFor_15 (by decide) (fun c15 => ?_) (fun c15 => ?_)
    · replace hf := k_ifP hf c15
      refine lv_iconst (v := 0) X.1 X.2.1 dX2_hasPlaceFor_22 (by decide) ?_
      rw [← hw, k_uc_id] at hU
      have hz := Option.some.inj hf
      subst hz
      exact k_iret (v := 0) X hU hS hr hlk rfl rfl dX2_hasPlaceFor_23
    · replace hf := k_ifN hf c15
      refine lv_iconst (v := 1) X.1 X.2.1 dX2_hasPlaceFor_18 (by decide) ?_
      refine lv_goto (tgt := 23) X.1 X.2.1 dX2_hasPlaceFor_19 (by decide) ?_
      rw [← hw, k_uc_id] at hU
      have hz := Option.some.inj hf
      subst hz
      exact k_iret (v := 1) X hU hS hr hlk rfl rfl dX2_hasPlaceFor_23
def rm_X2_put : Room := { frames := 1, cells := 0, slots := 0, locals := 22 }
set_option maxRecDepth 100000 in
set_option maxHeartbeats 4000000 in
theorem c_X2_put {l : Launch} {D : va_G} {G : Nat → ClassId} {ad : Nat → Nat → Nat} {u : k_U} (hI : k_ok ad) {k : Nat} (hk : k_isW k) {w : k_M} (hw : u k = w) {tc : Nat} {a1 : Int32} {a2 : Int32} (hc : k_isT tc) {sz : Nat} {r : k_M} (hf : f_X2_put w tc a1 a2 = some r) : Met l yX2_put (.code yX2_put cX2_put 4 none :: lw_g) rm_X2_put (k_Pre D G ad u sz [.ref (ad k tc), .int a1, .int a2]) (k_Qv D G ad (k_uc u k r) sz) 0 0 (k_A ad sz) := by
  refine k_ofW (by decide +kernel) hI (Nat.le_of_ble_eq_true rfl) ?_
  intro p e s m args below meth c X hr hlk hU hS ls hl
  have hl : lv_has ls 4 [(0, .ref (ad k tc)), (1, .int a1), (2, .int a2)] := hl
  have hU : k_Uv D G ad (k_uc u k w) s.heap := by rw [← hw, k_uc_id]; exact hU
  have J35 : ∀ (H : Heap) (locs : List Loc) (ls : Array Slot) (w : k_M) (a1 : Int32) (a2 : Int32) (a3 : Int32), k_Uv D G ad (k_uc u k w) H → va_S (k_A ad sz) s.heap H locs → lv_has ls 4 [(0, .ref (ad k tc)), (1, .int a1), (2, .int a2), (3, .int a3)] → f_X2_put_35 w tc a1 a2 a3 = some r → W p l e rm_X2_put s m args below meth c H locs 0 0 (MQ below (k_Qv D G ad (k_uc u k r) sz) args s 0 0 (k_A ad sz)) (F0 m 35 ls []) := by
    intro H locs ls w a1 a2 a3 hU hS hl hf
    unfold f_X2_put_35 at hf
    refine lv_iload_n X.1 X.2.1 dX2_put_35 rfl (lv_at hl 3 rfl) ?_
    refine lv_iconst (v := (-1)) X.1 X.2.1 dX2_put_36 (by decide) ?_
    refine lv_icmp_eq (tgt := 54) X.1 X.2.1 dX2_put_37 (by decide) (fun c37 => ?_) (fun c37 => ?_)
    · replace hf := k_ifP hf c37
      have hz := Option.some.inj hf
      subst hz
      exact k_vret X hU hS hr hlk dX2_put_54
    · replace hf := k_ifN hf c37
      refine lv_aload_n X.1 X.2.1 dX2_put_40 rfl (lv_at hl 0 rfl) ?_
      refine k_getw (v := .ref (ad k (tc + 1))) X hU (k_sT hk hc) fl_X2_11 rfl dX2_put_41 ?_
      refine lv_iload_n X.1 X.2.1 dX2_put_44 rfl (lv_at hl 3 rfl) ?_
      refine lv_iload_n X.1 X.2.1 dX2_put_45 rfl (lv_at hl 1 rfl) ?_
      obtain ⟨hi46, hf⟩ := k_ckE hf
      obtain ⟨w46, e46, hf⟩ := k_ltE hf
      refine k_istw X hU hS (k_sT1 hk hc) e46 (k_vin (n := 8) hi46 (by decide)) rfl dX2_put_46 (fun H locs hU hS => ?_)
      refine lv_aload_n X.1 X.2.1 dX2_put_47 rfl (lv_at hl 0 rfl) ?_
      refine k_getw (v := .ref (ad k (tc + 2))) X hU (k_sT hk hc) fl_X2_15 rfl dX2_put_48 ?_
      refine lv_iload_n X.1 X.2.1 dX2_put_51 rfl (lv_at hl 3 rfl) ?_
      refine lv_iload_n X.1 X.2.1 dX2_put_52 rfl (lv_at hl 2 rfl) ?_
      obtain ⟨hi53, hf⟩ := k_ckE hf
      obtain ⟨w53, e53, hf⟩ := k_ltE hf
      refine k_istw X hU hS (k_sT2 hk hc) e53 (k_vin (n := 8) hi53 (by decide)) rfl dX2_put_53 (fun H locs hU hS => ?_)
      have hz := Option.some.inj hf
      subst hz
      exact k_vret X hU hS hr hlk dX2_put_54
  unfold f_X2_put at hf
  refine lv_aload_n X.1 X.2.1 dX2_put_0 rfl (lv_at hl 0 rfl) ?_
  refine lv_iload_n X.1 X.2.1 dX2_put_1 rfl (lv_at hl 1 rfl) ?_
  obtain ⟨r2, hr2, hf⟩ := k_bdE hf
  refine k_backi X hS (k_runV (As := [.int a1]) (rest := []) X hU (k_sT hk hc) (by decide) rfl vl_X2_28 (c_X2_placeOf X.2.2.2.2.2.2.1 hk (k_uc_s _ _ _) hc hr2) rfl rfl rfl hl.1 ⟨Nat.le_of_ble_eq_true rfl, Nat.le_of_ble_eq_true rfl⟩ (Nat.le_of_ble_eq_true rfl) dX2_put_2 ⟨Nat.zero_le _, Nat.zero_le _⟩) (fun H locs hU hS => ?_)
  refine lv_istore_n (lv' := [(3, .int r2), (0, .ref (ad k tc)), (1, .int a1), (2, .int a2)]) X.1 X.2.1 dX2_put_5 rfl hl (by decide) rfl (fun ls hl => ?_)
  refine lv_iload_n X.1 X.2.1 dX2_put_6 rfl (lv_at hl 0 rfl) ?_
  refine lv_iconst (v := (-1)) X.1 X.2.1 dX2_put_7 (by decide) ?_
  refine lv_icmp_ne (tgt := 35) X.1 X.2.1 dX2_put_8 (by decide) (fun c8 => ?_) (fun c8 => ?_)
  · replace hf := k_ifN hf c8
    exact J35 _ _ _ w a1 a2 r2 hU hS (lv_sub hl [1, 2, 3, 0] rfl) hf
  · replace hf := k_ifP hf c8
    refine lv_aload_n X.1 X.2.1 dX2_put_11 rfl (lv_at hl 1 rfl) ?_
    refine k_getw (v := .int (w tc 2)) X hU (k_sT hk hc) fl_X2_24 rfl dX2_put_12 ?_
    refine lv_bipush (v := 8) X.1 X.2.1 dX2_put_15 (by decide) ?_
    refine lv_icmp_ge (tgt := 35) X.1 X.2.1 dX2_put_17 (by decide) (fun c17 => ?_) (fun c17 => ?_)
    · replace hf := k_ifP hf c17
      exact J35 _ _ _ w a1 a2 r2 hU hS (lv_sub hl [1, 2, 3, 0] rfl) hf
    · replace hf := k_ifN hf c17
      refine lv_aload_n X.1 X.2.1 dX2_put_20 rfl (lv_at hl 1 rfl) ?_
      refine k_getw (v := .int (w tc 2)) X hU (k_sT hk hc) fl_X2_24 rfl dX2_put_21 ?_
      obtain ⟨x24, e24, hf⟩ := k_ltE hf
      refine k_nmi e24 ?_
      refine lv_istore_n (lv' := [(3, .int x24), (0, .ref (ad k tc)), (1, .int a1), (2, .int a2)]) X.1 X.2.1 dX2_put_24 rfl hl (by decide) rfl (fun ls hl => ?_)
      refine lv_aload_n X.1 X.2.1 dX2_put_25 rfl (lv_at hl 1 rfl) ?_
      refine lv_dup X.1 X.2.1 dX2_put_26 rfl ?_
      refine k_getw (v := .int (w tc 2)) X hU (k_sT hk hc) fl_X2_24 rfl dX2_put_27 ?_
      refine lv_iconst (v := 1) X.1 X.2.1 dX2_put_30 (by decide) ?_
      refine lv_iadd X.1 X.2.1 dX2_put_31 ?_
      obtain ⟨w32, e32, hf⟩ := k_ltE hf
      refine k_putw X hU hS (k_sT hk hc) fp_X2_24 rfl e32 rfl rfl dX2_put_32 (fun H locs hU hS => ?_)
      exact J35 _ _ _ w32 a1 a2 x24 hU hS (lv_sub hl [1, 2, 3, 0] rfl) hf
def rm_X2_valueAtOrAbove : Room := { frames := 0, cells := 0, slots := 0, locals := 0 }
set_option maxRecDepth 100000 in
set_option maxHeartbeats 4000000 in
theorem c_X2_valueAtOrAbove {l : Launch} {D : va_G} {G : Nat → ClassId} {ad : Nat → Nat → Nat} {u : k_U} (hI : k_ok ad) {k : Nat} (hk : k_isW k) {w : k_M} (hw : u k = w) {tc : Nat} {a1 : Int32} {a2 : Int32} (hc : k_isT tc) {sz : Nat} {r : Int32} (hf : f_X2_valueAtOrAbove w tc a1 a2 = some r) : Met l yX2_valueAtOrAbove (.code yX2_valueAtOrAbove cX2_valueAtOrAbove 5 (some .int) :: lw_g) rm_X2_valueAtOrAbove (k_Pre D G ad u sz [.ref (ad k tc), .int a1, .int a2]) (k_Qi D G ad u r sz) 0 0 (k_A ad sz) := by
  refine k_ofW (by decide +kernel) hI (Nat.le_of_ble_eq_true rfl) ?_
  intro p e s m args below meth c X hr hlk hU hS ls hl
  have hl : lv_has ls 5 [(0, .ref (ad k tc)), (1, .int a1), (2, .int a2)] := hl
  have hU : k_Uv D G ad (k_uc u k w) s.heap := by rw [← hw, k_uc_id]; exact hU
  have L5 : ∀ (n5 : Nat) (H : Heap) (locs : List Loc) (ls : Array Slot) (a1 : Int32) (a2 : Int32) (a3 : Int32) (a4 : Int32), k_Uv D G ad (k_uc u k w) H → va_S (k_A ad sz) s.heap H locs → lv_has ls 5 [(0, .ref (ad k tc)), (1, .int a1), (2, .int a2), (3, .int a3), (4, .int a4)] → f_X2_valueAtOrAbove_5 n5 w tc a1 a2 a3 a4 = some r → W p l e rm_X2_valueAtOrAbove s m args below meth c H locs 0 0 (MQ below (k_Qi D G ad u r sz) args s 0 0 (k_A ad sz)) (F0 m 5 ls []) := by
    intro n5
    induction n5 with
    | zero =>
      intro H locs ls a1 a2 a3 a4 hU hS hl hf
      cases (show none = some r from hf)
    | succ n5 ih5 =>
      have J49 : ∀ (H : Heap) (locs : List Loc) (ls : Array Slot) (a1 : Int32) (a2 : Int32) (a3 : Int32) (a4 : Int32), k_Uv D G ad (k_uc u k w) H → va_S (k_A ad sz) s.heap H locs → lv_has ls 5 [(0, .ref (ad k tc)), (1, .int a1), (2, .int a2), (3, .int a3), (4, .int a4)] → f_X2_valueAtOrAbove_49 (f_X2_valueAtOrAbove_5 n5) w tc a1 a2 a3 a4 = some r → W p l e rm_X2_valueAtOrAbove s m args below meth c H locs 0 0 (MQ below (k_Qi D G ad u r sz) args s 0 0 (k_A ad sz)) (F0 m 49 ls []) := by
        intro H locs ls a1 a2 a3 a4 hU hS hl hf
        unfold f_X2_valueAtOrAbove_49 at hf
        obtain ⟨x49, e49, hf⟩ := k_ltE hf
        refine lv_iinc (v := x49) (lv' := [(4, .int x49), (0, .ref (ad k tc)), (1, .int a1), (2, .int a2), (3, .int a3)]) X.1 X.2.1 dX2_valueAtOrAbove_49 hl (k := 4) rfl (by rw [e49]; rfl) (by decide) rfl (fun ls hl => ?_)
        refine lv_goto (tgt := 5) X.1 X.2.1 dX2_valueAtOrAbove_52 (by decide) ?_
        exact ih5 _ _ _ a1 a2 a3 x49 hU hS (lv_sub hl [1, 2, 3, 4, 0] rfl) hf
      have J46 : ∀ (H : Heap) (locs : List Loc) (ls : Array Slot) (a1 : Int32) (a2 : Int32) (a4 : Int32), k_Uv D G ad (k_uc u k w) H → va_S (k_A ad sz) s.heap H locs → lv_has ls 5 [(0, .ref (ad k tc)), (1, .int a1), (2, .int a2), (4, .int a4)] → f_X2_valueAtOrAbove_46 (f_X2_valueAtOrAbove_5 n5) w tc a1 a2 a4 = some r → W p l e rm_X2_valueAtOrAbove s m args below meth c H locs 0 0 (MQ below (k_Qi D G ad u r sz) args s 0 0 (k_A ad sz)) (F0 m 46 ls []) := by
        intro H locs ls a1 a2 a4 hU hS hl hf
        unfold f_X2_valueAtOrAbove_46 at hf
        refine lv_iload X.1 X.2.1 dX2_valueAtOrAbove_46 (lv_at hl 3 rfl) ?_
        refine lv_istore_n (lv' := [(3, .int a4), (0, .ref (ad k tc)), (1, .int a1), (2, .int a2), (4, .int a4)]) X.1 X.2.1 dX2_valueAtOrAbove_48 rfl hl (by decide) rfl (fun ls hl => ?_)
        exact J49 _ _ _ a1 a2 a4 a4 hU hS (lv_sub hl [1, 2, 3, 0, 4] rfl) hf
      intro H locs ls a1 a2 a3 a4 hU hS hl hf
      replace hf : f_X2_valueAtOrAbove_5_b (f_X2_valueAtOrAbove_5 n5) w tc a1 a2 a3 a4 = some r := hf
      unfold f_X2_valueAtOrAbove_5_b at hf
      refine lv_iload X.1 X.2.1 dX2_valueAtOrAbove_5 (lv_at hl 4 rfl) ?_
      refine lv_aload_n X.1 X.2.1 dX2_valueAtOrAbove_7 rfl (lv_at hl 0 rfl) ?_
      refine k_getw (v := .int (w tc 2)) X hU (k_sT hk hc) fl_X2_24 rfl dX2_valueAtOrAbove_8 ?_
      refine lv_icmp_ge (tgt := 55) X.1 X.2.1 dX2_valueAtOrAbove_11 (by decide) (fun c11 => ?_) (fun c11 => ?_)
      · replace hf := k_ifP hf c11
        refine lv_iload_n X.1 X.2.1 dX2_valueAtOrAbove_55 rfl (lv_at hl 3 rfl) ?_
        refine lv_iconst (v := (-1)) X.1 X.2.1 dX2_valueAtOrAbove_56 (by decide) ?_
        refine lv_icmp_ne (tgt := 64) X.1 X.2.1 dX2_valueAtOrAbove_57 (by decide) (fun c57 => ?_) (fun c57 => ?_)
        · replace hf := k_ifN hf c57
          refine lv_aload_n X.1 X.2.1 dX2_valueAtOrAbove_64 rfl (lv_at hl 0 rfl) ?_
          refine k_getw (v := .ref (ad k (tc + 2))) X hU (k_sT hk hc) fl_X2_15 rfl dX2_valueAtOrAbove_65 ?_
          refine lv_iload_n X.1 X.2.1 dX2_valueAtOrAbove_68 rfl (lv_at hl 3 rfl) ?_
          obtain ⟨hi69, hf⟩ := k_ckE hf
          refine k_ildw X hU (k_sT2 hk hc) (k_vin (n := 8) hi69 (by decide)) rfl dX2_valueAtOrAbove_69 ?_
          rw [← hw, k_uc_id] at hU
          have hz := Option.some.inj hf
          subst hz
          exact k_iret (v := w (tc + 2) a3.toNatClampNeg) X hU hS hr hlk rfl rfl dX2_valueAtOrAbove_70
        · replace hf := k_ifP hf c57
          refine lv_iload_n X.1 X.2.1 dX2_valueAtOrAbove_60 rfl (lv_at hl 2 rfl) ?_
          refine lv_goto (tgt := 70) X.1 X.2.1 dX2_valueAtOrAbove_61 (by decide) ?_
          rw [← hw, k_uc_id] at hU
          have hz := Option.some.inj hf
          subst hz
          exact k_iret (v := a2) X hU hS hr hlk rfl rfl dX2_valueAtOrAbove_70
      · replace hf := k_ifN hf c11
        refine lv_aload_n X.1 X.2.1 dX2_valueAtOrAbove_14 rfl (lv_at hl 0 rfl) ?_
        refine k_getw (v := .ref (ad k (tc + 1))) X hU (k_sT hk hc) fl_X2_11 rfl dX2_valueAtOrAbove_15 ?_
        refine lv_iload X.1 X.2.1 dX2_valueAtOrAbove_18 (lv_at hl 4 rfl) ?_
        obtain ⟨hi20, hf⟩ := k_ckE hf
        refine k_ildw X hU (k_sT1 hk hc) (k_vin (n := 8) hi20 (by decide)) rfl dX2_valueAtOrAbove_20 ?_
        refine lv_iload_n X.1 X.2.1 dX2_valueAtOrAbove_21 rfl (lv_at hl 1 rfl) ?_
        refine lv_icmp_lt (tgt := 49) X.1 X.2.1 dX2_valueAtOrAbove_22 (by decide) (fun c22 => ?_) (fun c22 => ?_)
        · replace hf := k_ifP hf c22
          exact J49 _ _ _ a1 a2 a3 a4 hU hS (lv_sub hl [0, 1, 2, 3, 4] rfl) hf
        · replace hf := k_ifN hf c22
          refine lv_iload_n X.1 X.2.1 dX2_valueAtOrAbove_25 rfl (lv_at hl 3 rfl) ?_
          refine lv_iconst (v := (-1)) X.1 X.2.1 dX2_valueAtOrAbove_26 (by decide) ?_
          refine lv_icmp_eq (tgt := 46) X.1 X.2.1 dX2_valueAtOrAbove_27 (by decide) (fun c27 => ?_) (fun c27 => ?_)
          · replace hf := k_ifP hf c27
            exact J46 _ _ _ a1 a2 a4 hU hS (lv_sub hl [0, 1, 2, 4] rfl) hf
          · replace hf := k_ifN hf c27
            refine lv_aload_n X.1 X.2.1 dX2_valueAtOrAbove_30 rfl (lv_at hl 0 rfl) ?_
            refine k_getw (v := .ref (ad k (tc + 1))) X hU (k_sT hk hc) fl_X2_11 rfl dX2_valueAtOrAbove_31 ?_
            refine lv_iload X.1 X.2.1 dX2_valueAtOrAbove_34 (lv_at hl 4 rfl) ?_
            obtain ⟨hi36, hf⟩ := k_ckE hf
            refine k_ildw X hU (k_sT1 hk hc) (k_vin (n := 8) hi36 (by decide)) rfl dX2_valueAtOrAbove_36 ?_
            refine lv_aload_n X.1 X.2.1 dX2_valueAtOrAbove_37 rfl (lv_at hl 0 rfl) ?_
            refine k_getw (v := .ref (ad k (tc + 1))) X hU (k_sT hk hc) fl_X2_11 rfl dX2_valueAtOrAbove_38 ?_
            refine lv_iload_n X.1 X.2.1 dX2_valueAtOrAbove_41 rfl (lv_at hl 3 rfl) ?_
            obtain ⟨hi42, hf⟩ := k_ckE hf
            refine k_ildw X hU (k_sT1 hk hc) (k_vin (n := 8) hi42 (by decide)) rfl dX2_valueAtOrAbove_42 ?_
            refine lv_icmp_ge (tgt := 49) X.1 X.2.1 dX2_valueAtOrAbove_43 (by decide) (fun c43 => ?_) (fun c43 => ?_)
            · replace hf := k_ifP hf c43
              exact J49 _ _ _ a1 a2 a3 a4 hU hS (lv_sub hl [0, 1, 2, 3, 4] rfl) hf
            · replace hf := k_ifN hf c43
              exact J46 _ _ _ a1 a2 a4 hU hS (lv_sub hl [0, 1, 2, 4] rfl) hf
  unfold f_X2_valueAtOrAbove at hf
  refine lv_iconst (v := (-1)) X.1 X.2.1 dX2_valueAtOrAbove_0 (by decide) ?_
  refine lv_istore_n (lv' := [(3, .int (-1)), (0, .ref (ad k tc)), (1, .int a1), (2, .int a2)]) X.1 X.2.1 dX2_valueAtOrAbove_1 rfl hl (by decide) rfl (fun ls hl => ?_)
  refine lv_iconst (v := 0) X.1 X.2.1 dX2_valueAtOrAbove_2 (by decide) ?_
  refine lv_istore (lv' := [(4, .int 0), (3, .int (-1)), (0, .ref (ad k tc)), (1, .int a1), (2, .int a2)]) X.1 X.2.1 dX2_valueAtOrAbove_3 hl (by decide) rfl (fun ls hl => ?_)
  exact L5 k_N _ _ _ a1 a2 (-1) 0 hU hS (lv_sub hl [2, 3, 4, 1, 0] rfl) hf
def rm_X2_valueAtOrBelow : Room := { frames := 0, cells := 0, slots := 0, locals := 0 }
set_option maxRecDepth 100000 in
set_option maxHeartbeats 4000000 in
theorem c_X2_valueAtOrBelow {l : Launch} {D : va_G} {G : Nat → ClassId} {ad : Nat → Nat → Nat} {u : k_U} (hI : k_ok ad) {k : Nat} (hk : k_isW k) {w : k_M} (hw : u k = w) {tc : Nat} {a1 : Int32} {a2 : Int32} (hc : k_isT tc) {sz : Nat} {r : Int32} (hf : f_X2_valueAtOrBelow w tc a1 a2 = some r) : Met l yX2_valueAtOrBelow (.code yX2_valueAtOrBelow cX2_valueAtOrBelow 5 (some .int) :: lw_g) rm_X2_valueAtOrBelow (k_Pre D G ad u sz [.ref (ad k tc), .int a1, .int a2]) (k_Qi D G ad u r sz) 0 0 (k_A ad sz) := by
  refine k_ofW (by decide +kernel) hI (Nat.le_of_ble_eq_true rfl) ?_
  intro p e s m args below meth c X hr hlk hU hS ls hl
  have hl : lv_has ls 5 [(0, .ref (ad k tc)), (1, .int a1), (2, .int a2)] := hl
  have hU : k_Uv D G ad (k_uc u k w) s.heap := by rw [← hw, k_uc_id]; exact hU
  have L5 : ∀ (n5 : Nat) (H : Heap) (locs : List Loc) (ls : Array Slot) (a1 : Int32) (a2 : Int32) (a3 : Int32) (a4 : Int32), k_Uv D G ad (k_uc u k w) H → va_S (k_A ad sz) s.heap H locs → lv_has ls 5 [(0, .ref (ad k tc)), (1, .int a1), (2, .int a2), (3, .int a3), (4, .int a4)] → f_X2_valueAtOrBelow_5 n5 w tc a1 a2 a3 a4 = some r → W p l e rm_X2_valueAtOrBelow s m args below meth c H locs 0 0 (MQ below (k_Qi D G ad u r sz) args s 0 0 (k_A ad sz)) (F0 m 5 ls []) := by
    intro n5
    induction n5 with
    | zero =>
      intro H locs ls a1 a2 a3 a4 hU hS hl hf
      cases (show none = some r from hf)
    | succ n5 ih5 =>
      have J49 : ∀ (H : Heap) (locs : List Loc) (ls : Array Slot) (a1 : Int32) (a2 : Int32) (a3 : Int32) (a4 : Int32), k_Uv D G ad (k_uc u k w) H → va_S (k_A ad sz) s.heap H locs → lv_has ls 5 [(0, .ref (ad k tc)), (1, .int a1), (2, .int a2), (3, .int a3), (4, .int a4)] → f_X2_valueAtOrBelow_49 (f_X2_valueAtOrBelow_5 n5) w tc a1 a2 a3 a4 = some r → W p l e rm_X2_valueAtOrBelow s m args below meth c H locs 0 0 (MQ below (k_Qi D G ad u r sz) args s 0 0 (k_A ad sz)) (F0 m 49 ls []) := by
        intro H locs ls a1 a2 a3 a4 hU hS hl hf
        unfold f_X2_valueAtOrBelow_49 at hf
        obtain ⟨x49, e49, hf⟩ := k_ltE hf
        refine lv_iinc (v := x49) (lv' := [(4, .int x49), (0, .ref (ad k tc)), (1, .int a1), (2, .int a2), (3, .int a3)]) X.1 X.2.1 dX2_valueAtOrBelow_49 hl (k := 4) rfl (by rw [e49]; rfl) (by decide) rfl (fun ls hl => ?_)
        refine lv_goto (tgt := 5) X.1 X.2.1 dX2_valueAtOrBelow_52 (by decide) ?_
        exact ih5 _ _ _ a1 a2 a3 x49 hU hS (lv_sub hl [1, 2, 3, 4, 0] rfl) hf
      have J46 : ∀ (H : Heap) (locs : List Loc) (ls : Array Slot) (a1 : Int32) (a2 : Int32) (a4 : Int32), k_Uv D G ad (k_uc u k w) H → va_S (k_A ad sz) s.heap H locs → lv_has ls 5 [(0, .ref (ad k tc)), (1, .int a1), (2, .int a2), (4, .int a4)] → f_X2_valueAtOrBelow_46 (f_X2_valueAtOrBelow_5 n5) w tc a1 a2 a4 = some r → W p l e rm_X2_valueAtOrBelow s m args below meth c H locs 0 0 (MQ below (k_Qi D G ad u r sz) args s 0 0 (k_A ad sz)) (F0 m 46 ls []) := by
        intro H locs ls a1 a2 a4 hU hS hl hf
        unfold f_X2_valueAtOrBelow_46 at hf
        refine lv_iload X.1 X.2.1 dX2_valueAtOrBelow_46 (lv_at hl 3 rfl) ?_
        refine lv_istore_n (lv' := [(3, .int a4), (0, .ref (ad k tc)), (1, .int a1), (2, .int a2), (4, .int a4)]) X.1 X.2.1 dX2_valueAtOrBelow_48 rfl hl (by decide) rfl (fun ls hl => ?_)
        exact J49 _ _ _ a1 a2 a4 a4 hU hS (lv_sub hl [1, 2, 3, 0, 4] rfl) hf
      intro H locs ls a1 a2 a3 a4 hU hS hl hf
      replace hf : f_X2_valueAtOrBelow_5_b (f_X2_valueAtOrBelow_5 n5) w tc a1 a2 a3 a4 = some r := hf
      unfold f_X2_valueAtOrBelow_5_b at hf
      refine lv_iload X.1 X.2.1 dX2_valueAtOrBelow_5 (lv_at hl 4 rfl) ?_
      refine lv_aload_n X.1 X.2.1 dX2_valueAtOrBelow_7 rfl (lv_at hl 0 rfl) ?_
      refine k_getw (v := .int (w tc 2)) X hU (k_sT hk hc) fl_X2_24 rfl dX2_valueAtOrBelow_8 ?_
      refine lv_icmp_ge (tgt := 55) X.1 X.2.1 dX2_valueAtOrBelow_11 (by decide) (fun c11 => ?_) (fun c11 => ?_)
      · replace hf := k_ifP hf c11
        refine lv_iload_n X.1 X.2.1 dX2_valueAtOrBelow_55 rfl (lv_at hl 3 rfl) ?_
        refine lv_iconst (v := (-1)) X.1 X.2.1 dX2_valueAtOrBelow_56 (by decide) ?_
        refine lv_icmp_ne (tgt := 64) X.1 X.2.1 dX2_valueAtOrBelow_57 (by decide) (fun c57 => ?_) (fun c57 => ?_)
        · replace hf := k_ifN hf c57
          refine lv_aload_n X.1 X.2.1 dX2_valueAtOrBelow_64 rfl (lv_at hl 0 rfl) ?_
          refine k_getw (v := .ref (ad k (tc + 2))) X hU (k_sT hk hc) fl_X2_15 rfl dX2_valueAtOrBelow_65 ?_
          refine lv_iload_n X.1 X.2.1 dX2_valueAtOrBelow_68 rfl (lv_at hl 3 rfl) ?_
          obtain ⟨hi69, hf⟩ := k_ckE hf
          refine k_ildw X hU (k_sT2 hk hc) (k_vin (n := 8) hi69 (by decide)) rfl dX2_valueAtOrBelow_69 ?_
          rw [← hw, k_uc_id] at hU
          have hz := Option.some.inj hf
          subst hz
          exact k_iret (v := w (tc + 2) a3.toNatClampNeg) X hU hS hr hlk rfl rfl dX2_valueAtOrBelow_70
        · replace hf := k_ifP hf c57
          refine lv_iload_n X.1 X.2.1 dX2_valueAtOrBelow_60 rfl (lv_at hl 2 rfl) ?_
          refine lv_goto (tgt := 70) X.1 X.2.1 dX2_valueAtOrBelow_61 (by decide) ?_
          rw [← hw, k_uc_id] at hU
          have hz := Option.some.inj hf
          subst hz
          exact k_iret (v := a2) X hU hS hr hlk rfl rfl dX2_valueAtOrBelow_70
      · replace hf := k_ifN hf c11
        refine lv_aload_n X.1 X.2.1 dX2_valueAtOrBelow_14 rfl (lv_at hl 0 rfl) ?_
        refine k_getw (v := .ref (ad k (tc + 1))) X hU (k_sT hk hc) fl_X2_11 rfl dX2_valueAtOrBelow_15 ?_
        refine lv_iload X.1 X.2.1 dX2_valueAtOrBelow_18 (lv_at hl 4 rfl) ?_
        obtain ⟨hi20, hf⟩ := k_ckE hf
        refine k_ildw X hU (k_sT1 hk hc) (k_vin (n := 8) hi20 (by decide)) rfl dX2_valueAtOrBelow_20 ?_
        refine lv_iload_n X.1 X.2.1 dX2_valueAtOrBelow_21 rfl (lv_at hl 1 rfl) ?_
        refine lv_icmp_gt (tgt := 49) X.1 X.2.1 dX2_valueAtOrBelow_22 (by decide) (fun c22 => ?_) (fun c22 => ?_)
        · replace hf := k_ifP hf c22
          exact J49 _ _ _ a1 a2 a3 a4 hU hS (lv_sub hl [0, 1, 2, 3, 4] rfl) hf
        · replace hf := k_ifN hf c22
          refine lv_iload_n X.1 X.2.1 dX2_valueAtOrBelow_25 rfl (lv_at hl 3 rfl) ?_
          refine lv_iconst (v := (-1)) X.1 X.2.1 dX2_valueAtOrBelow_26 (by decide) ?_
          refine lv_icmp_eq (tgt := 46) X.1 X.2.1 dX2_valueAtOrBelow_27 (by decide) (fun c27 => ?_) (fun c27 => ?_)
          · replace hf := k_ifP hf c27
            exact J46 _ _ _ a1 a2 a4 hU hS (lv_sub hl [0, 1, 2, 4] rfl) hf
          · replace hf := k_ifN hf c27
            refine lv_aload_n X.1 X.2.1 dX2_valueAtOrBelow_30 rfl (lv_at hl 0 rfl) ?_
            refine k_getw (v := .ref (ad k (tc + 1))) X hU (k_sT hk hc) fl_X2_11 rfl dX2_valueAtOrBelow_31 ?_
            refine lv_iload X.1 X.2.1 dX2_valueAtOrBelow_34 (lv_at hl 4 rfl) ?_
            obtain ⟨hi36, hf⟩ := k_ckE hf
            refine k_ildw X hU (k_sT1 hk hc) (k_vin (n := 8) hi36 (by decide)) rfl dX2_valueAtOrBelow_36 ?_
            refine lv_aload_n X.1 X.2.1 dX2_valueAtOrBelow_37 rfl (lv_at hl 0 rfl) ?_
            refine k_getw (v := .ref (ad k (tc + 1))) X hU (k_sT hk hc) fl_X2_11 rfl dX2_valueAtOrBelow_38 ?_
            refine lv_iload_n X.1 X.2.1 dX2_valueAtOrBelow_41 rfl (lv_at hl 3 rfl) ?_
            obtain ⟨hi42, hf⟩ := k_ckE hf
            refine k_ildw X hU (k_sT1 hk hc) (k_vin (n := 8) hi42 (by decide)) rfl dX2_valueAtOrBelow_42 ?_
            refine lv_icmp_le (tgt := 49) X.1 X.2.1 dX2_valueAtOrBelow_43 (by decide) (fun c43 => ?_) (fun c43 => ?_)
            · replace hf := k_ifP hf c43
              exact J49 _ _ _ a1 a2 a3 a4 hU hS (lv_sub hl [0, 1, 2, 3, 4] rfl) hf
            · replace hf := k_ifN hf c43
              exact J46 _ _ _ a1 a2 a4 hU hS (lv_sub hl [0, 1, 2, 4] rfl) hf
  unfold f_X2_valueAtOrBelow at hf
  refine lv_iconst (v := (-1)) X.1 X.2.1 dX2_valueAtOrBelow_0 (by decide) ?_
  refine lv_istore_n (lv' := [(3, .int (-1)), (0, .ref (ad k tc)), (1, .int a1), (2, .int a2)]) X.1 X.2.1 dX2_valueAtOrBelow_1 rfl hl (by decide) rfl (fun ls hl => ?_)
  refine lv_iconst (v := 0) X.1 X.2.1 dX2_valueAtOrBelow_2 (by decide) ?_
  refine lv_istore (lv' := [(4, .int 0), (3, .int (-1)), (0, .ref (ad k tc)), (1, .int a1), (2, .int a2)]) X.1 X.2.1 dX2_valueAtOrBelow_3 hl (by decide) rfl (fun ls hl => ?_)
  exact L5 k_N _ _ _ a1 a2 (-1) 0 hU hS (lv_sub hl [2, 3, 4, 1, 0] rfl) hf
def rm_X7_wipe : Room := { frames := 0, cells := 0, slots := 0, locals := 0 }
set_option maxRecDepth 100000 in
set_option maxHeartbeats 4000000 in
theorem c_X7_wipe {l : Launch} {D : va_G} {G : Nat → ClassId} {ad : Nat → Nat → Nat} {u : k_U} (hI : k_ok ad) {w : k_M} (hw : u 3 = w) {sz : Nat} {r : k_M} (hf : f_X7_wipe w = some r) : Met l yX7_wipe (.code yX7_wipe cX7_wipe 1 none :: lw_g) rm_X7_wipe (k_Pre D G ad u sz [.ref (ad 3 0)]) (k_Qv D G ad (k_uc u 3 r) sz) 0 0 (k_A ad sz) := by
  refine k_ofW (by decide +kernel) hI (Nat.le_of_ble_eq_true rfl) ?_
  intro p e s m args below meth c X hr hlk hU hS ls hl
  have hl : lv_has ls 1 [(0, .ref (ad 3 0))] := hl
  have hU : k_Uv D G ad (k_uc u 3 w) s.heap := by rw [← hw, k_uc_id]; exact hU
  unfold f_X7_wipe at hf
  refine lv_aload_n X.1 X.2.1 dX7_wipe_0 rfl (lv_at hl 0 rfl) ?_
  refine lv_iconst (v := 0) X.1 X.2.1 dX7_wipe_1 (by decide) ?_
  obtain ⟨w2, e2, hf⟩ := k_ltE hf
  refine k_putw X hU hS sh_3_0 fp_X7_13 rfl e2 rfl rfl dX7_wipe_2 (fun H locs hU hS => ?_)
  have hz := Option.some.inj hf
  subst hz
  exact k_vret X hU hS hr hlk dX7_wipe_5
def rm_X7_put : Room := { frames := 0, cells := 0, slots := 0, locals := 0 }
set_option maxRecDepth 100000 in
set_option maxHeartbeats 4000000 in
theorem c_X7_put {l : Launch} {D : va_G} {G : Nat → ClassId} {ad : Nat → Nat → Nat} {u : k_U} (hI : k_ok ad) {w : k_M} (hw : u 3 = w) {a1 : Int32} {sz : Nat} {r : k_M} (hf : f_X7_put w a1 = some r) : Met l yX7_put (.code yX7_put cX7_put 2 none :: lw_g) rm_X7_put (k_Pre D G ad u sz [.ref (ad 3 0), .int a1]) (k_Qv D G ad (k_uc u 3 r) sz) 0 0 (k_A ad sz) := by
  refine k_ofW (by decide +kernel) hI (Nat.le_of_ble_eq_true rfl) ?_
  intro p e s m args below meth c X hr hlk hU hS ls hl
  have hl : lv_has ls 2 [(0, .ref (ad 3 0)), (1, .int a1)] := hl
  have hU : k_Uv D G ad (k_uc u 3 w) s.heap := by rw [← hw, k_uc_id]; exact hU
  unfold f_X7_put at hf
  refine lv_aload_n X.1 X.2.1 dX7_put_0 rfl (lv_at hl 0 rfl) ?_
  refine k_getw (v := .int (w 0 1)) X hU sh_3_0 fl_X7_13 rfl dX7_put_1 ?_
  refine lv_bipush (v := 64) X.1 X.2.1 dX7_put_4 (by decide) ?_
  refine lv_icmp_ge (tgt := 29) X.1 X.2.1 dX7_put_6 (by decide) (fun c6 => ?_) (fun c6 => ?_)
  · replace hf := k_ifP hf c6
    have hz := Option.some.inj hf
    subst hz
    exact k_vret X hU hS hr hlk dX7_put_29
  · replace hf := k_ifN hf c6
    refine lv_aload_n X.1 X.2.1 dX7_put_9 rfl (lv_at hl 0 rfl) ?_
    refine k_getw (v := .ref (ad 3 1)) X hU sh_3_0 fl_X7_9 rfl dX7_put_10 ?_
    refine lv_aload_n X.1 X.2.1 dX7_put_13 rfl (lv_at hl 0 rfl) ?_
    refine k_getw (v := .int (w 0 1)) X hU sh_3_0 fl_X7_13 rfl dX7_put_14 ?_
    refine lv_iload_n X.1 X.2.1 dX7_put_17 rfl (lv_at hl 1 rfl) ?_
    obtain ⟨hi18, hf⟩ := k_ckE hf
    obtain ⟨w18, e18, hf⟩ := k_ltE hf
    refine k_istw X hU hS sh_3_1 e18 (k_vin (n := 64) hi18 (by decide)) rfl dX7_put_18 (fun H locs hU hS => ?_)
    refine lv_aload_n X.1 X.2.1 dX7_put_19 rfl (lv_at hl 0 rfl) ?_
    refine lv_dup X.1 X.2.1 dX7_put_20 rfl ?_
    refine k_getw (v := .int (w18 0 1)) X hU sh_3_0 fl_X7_13 rfl dX7_put_21 ?_
    refine lv_iconst (v := 1) X.1 X.2.1 dX7_put_24 (by decide) ?_
    refine lv_iadd X.1 X.2.1 dX7_put_25 ?_
    obtain ⟨w26, e26, hf⟩ := k_ltE hf
    refine k_putw X hU hS sh_3_0 fp_X7_13 rfl e26 rfl rfl dX7_put_26 (fun H locs hU hS => ?_)
    have hz := Option.some.inj hf
    subst hz
    exact k_vret X hU hS hr hlk dX7_put_29
def rm_X7_putNumber : Room := { frames := 1, cells := 0, slots := 0, locals := 21 }
set_option maxRecDepth 100000 in
set_option maxHeartbeats 4000000 in
theorem c_X7_putNumber {l : Launch} {D : va_G} {G : Nat → ClassId} {ad : Nat → Nat → Nat} {u : k_U} (hI : k_ok ad) {w : k_M} (hw : u 3 = w) {a1 : Int32} {sz : Nat} {r : k_M} (hf : f_X7_putNumber w a1 = some r) : Met l yX7_putNumber (.code yX7_putNumber cX7_putNumber 2 none :: lw_g) rm_X7_putNumber (k_Pre D G ad u sz [.ref (ad 3 0), .int a1]) (k_Qv D G ad (k_uc u 3 r) sz) 0 0 (k_A ad sz) := by
  refine k_ofW (by decide +kernel) hI (Nat.le_of_ble_eq_true rfl) ?_
  intro p e s m args below meth c X hr hlk hU hS ls hl
  have hl : lv_has ls 2 [(0, .ref (ad 3 0)), (1, .int a1)] := hl
  have hU : k_Uv D G ad (k_uc u 3 w) s.heap := by rw [← hw, k_uc_id]; exact hU
  have J21 : ∀ (H : Heap) (locs : List Loc) (ls : Array Slot) (w : k_M) (a1 : Int32), k_Uv D G ad (k_uc u 3 w) H → va_S (k_A ad sz) s.heap H locs → lv_has ls 2 [(0, .ref (ad 3 0)), (1, .int a1)] → f_X7_putNumber_21 w a1 = some r → W p l e rm_X7_putNumber s m args below meth c H locs 0 0 (MQ below (k_Qv D G ad (k_uc u 3 r) sz) args s 0 0 (k_A ad sz)) (F0 m 21 ls []) := by
    intro H locs ls w a1 hU hS hl hf
    unfold f_X7_putNumber_21 at hf
    refine lv_aload_n X.1 X.2.1 dX7_putNumber_21 rfl (lv_at hl 0 rfl) ?_
    refine lv_bipush (v := 48) X.1 X.2.1 dX7_putNumber_22 (by decide) ?_
    refine lv_iload_n X.1 X.2.1 dX7_putNumber_24 rfl (lv_at hl 1 rfl) ?_
    refine lv_bipush (v := 10) X.1 X.2.1 dX7_putNumber_25 (by decide) ?_
    refine lv_irem X.1 X.2.1 dX7_putNumber_27 (by decide) ?_
    refine lv_iadd X.1 X.2.1 dX7_putNumber_28 ?_
    refine lv_i2c (v := ((48 + (a1 - a1 / 10 * 10)).toUInt32 % 65536).toInt32) X.1 X.2.1 dX7_putNumber_29 rfl ?_
    obtain ⟨r30, hr30, hf⟩ := k_bdE hf
    refine k_backv X hS (k_runV (As := [.int (((48 + (a1 - a1 / 10 * 10)).toUInt32 % 65536).toInt32)]) (rest := []) X hU sh_3_0 (by decide) rfl vl_X7_17 (c_X7_put X.2.2.2.2.2.2.1 (k_uc_s _ _ _) hr30) rfl rfl rfl hl.1 ⟨Nat.le_of_ble_eq_true rfl, Nat.le_of_ble_eq_true rfl⟩ (Nat.le_of_ble_eq_true rfl) dX7_putNumber_30 ⟨Nat.zero_le _, Nat.zero_le _⟩) (fun H locs hU hS => ?_)
    rw [k_uc_uc] at hU
    have hz := Option.some.inj hf
    subst hz
    exact k_vret X hU hS hr hlk dX7_putNumber_33
  unfold f_X7_putNumber at hf
  refine lv_iload_n X.1 X.2.1 dX7_putNumber_0 rfl (lv_at hl 1 rfl) ?_
  refine lv_bipush (v := 10) X.1 X.2.1 dX7_putNumber_1 (by decide) ?_
  refine lv_icmp_lt (tgt := 21) X.1 X.2.1 dX7_putNumber_3 (by decide) (fun c3 => ?_) (fun c3 => ?_)
  · replace hf := k_ifP hf c3
    exact J21 _ _ _ w a1 hU hS (lv_sub hl [0, 1] rfl) hf
  · replace hf := k_ifN hf c3
    refine lv_aload_n X.1 X.2.1 dX7_putNumber_6 rfl (lv_at hl 0 rfl) ?_
    refine lv_bipush (v := 48) X.1 X.2.1 dX7_putNumber_7 (by decide) ?_
    refine lv_iload_n X.1 X.2.1 dX7_putNumber_9 rfl (lv_at hl 1 rfl) ?_
    refine lv_bipush (v := 10) X.1 X.2.1 dX7_putNumber_10 (by decide) ?_
    refine lv_idiv X.1 X.2.1 dX7_putNumber_12 (by decide) ?_
    refine lv_bipush (v := 10) X.1 X.2.1 dX7_putNumber_13 (by decide) ?_
    refine lv_irem X.1 X.2.1 dX7_putNumber_15 (by decide) ?_
    refine lv_iadd X.1 X.2.1 dX7_putNumber_16 ?_
    refine lv_i2c (v := ((48 + ((a1 / 10) - (a1 / 10) / 10 * 10)).toUInt32 % 65536).toInt32) X.1 X.2.1 dX7_putNumber_17 rfl ?_
    obtain ⟨r18, hr18, hf⟩ := k_bdE hf
    refine k_backv X hS (k_runV (As := [.int (((48 + ((a1 / 10) - (a1 / 10) / 10 * 10)).toUInt32 % 65536).toInt32)]) (rest := []) X hU sh_3_0 (by decide) rfl vl_X7_17 (c_X7_put X.2.2.2.2.2.2.1 (k_uc_s _ _ _) hr18) rfl rfl rfl hl.1 ⟨Nat.le_of_ble_eq_true rfl, Nat.le_of_ble_eq_true rfl⟩ (Nat.le_of_ble_eq_true rfl) dX7_putNumber_18 ⟨Nat.zero_le _, Nat.zero_le _⟩) (fun H locs hU hS => ?_)
    rw [k_uc_uc] at hU
    exact J21 _ _ _ r18 a1 hU hS (lv_sub hl [0, 1] rfl) hf
def rm_X8_copyFrom : Room := { frames := 1, cells := 0, slots := 0, locals := 24 }
set_option maxRecDepth 100000 in
set_option maxHeartbeats 4000000 in
theorem c_X8_copyFrom {l : Launch} {D : va_G} {G : Nat → ClassId} {ad : Nat → Nat → Nat} {u : k_U} (hI : k_ok ad) {k : Nat} (hk : k_isW k) {k2 : Nat} (hk2 : k_isW k2) (hne : k2 ≠ k) {w : k_M} (hw : u k = w) {o : k_M} (ho : u k2 = o) {sz : Nat} {r : k_M} (hf : f_X8_copyFrom w o = some r) : Met l yX8_copyFrom (.code yX8_copyFrom cX8_copyFrom 2 none :: lw_g) rm_X8_copyFrom (k_Pre D G ad u sz [.ref (ad k 9), .ref (ad k2 9)]) (k_Qv D G ad (k_uc u k r) sz) 0 0 (k_A ad sz) := by
  refine k_ofW (by decide +kernel) hI (Nat.le_of_ble_eq_true rfl) ?_
  intro p e s m args below meth c X hr hlk hU hS ls hl
  have hl : lv_has ls 2 [(0, .ref (ad k 9)), (1, .ref (ad k2 9))] := hl
  have hU : k_Uv D G ad (k_uc u k w) s.heap := by rw [← hw, k_uc_id]; exact hU
  unfold f_X8_copyFrom at hf
  refine lv_aload_n X.1 X.2.1 dX8_copyFrom_0 rfl (lv_at hl 1 rfl) ?_
  refine k_geto (v := .ref (ad k2 10)) hne X hU (sW_9 hk2) fl_X8_11 rfl dX8_copyFrom_1 ?_
  refine lv_iconst (v := 0) X.1 X.2.1 dX8_copyFrom_4 (by decide) ?_
  refine lv_aload_n X.1 X.2.1 dX8_copyFrom_5 rfl (lv_at hl 0 rfl) ?_
  refine k_getw (v := .ref (ad k 10)) X hU (sW_9 hk) fl_X8_11 rfl dX8_copyFrom_6 ?_
  refine lv_iconst (v := 0) X.1 X.2.1 dX8_copyFrom_9 (by decide) ?_
  refine lv_bipush (v := 8) X.1 X.2.1 dX8_copyFrom_10 (by decide) ?_
  obtain ⟨w12, e12, hf⟩ := k_ltE hf
  refine k_cpyo (n0 := 8) (w := w12) hne X hU hS (cpX8_21) (sW_10 hk2) (sW_10 hk) (by decide) (by decide) (by decide) (by rw [ho]; exact e12) hl.1 (Nat.le_of_ble_eq_true rfl) (Nat.le_of_ble_eq_true rfl) dX8_copyFrom_12 (fun H locs hU hS => ?_)
  refine lv_aload_n X.1 X.2.1 dX8_copyFrom_15 rfl (lv_at hl 1 rfl) ?_
  refine k_geto (v := .ref (ad k2 11)) hne X hU (sW_9 hk2) fl_X8_15 rfl dX8_copyFrom_16 ?_
  refine lv_iconst (v := 0) X.1 X.2.1 dX8_copyFrom_19 (by decide) ?_
  refine lv_aload_n X.1 X.2.1 dX8_copyFrom_20 rfl (lv_at hl 0 rfl) ?_
  refine k_getw (v := .ref (ad k 11)) X hU (sW_9 hk) fl_X8_15 rfl dX8_copyFrom_21 ?_
  refine lv_iconst (v := 0) X.1 X.2.1 dX8_copyFrom_24 (by decide) ?_
  refine lv_bipush (v := 8) X.1 X.2.1 dX8_copyFrom_25 (by decide) ?_
  obtain ⟨w27, e27, hf⟩ := k_ltE hf
  refine k_cpyo (n0 := 8) (w := w27) hne X hU hS (cpX8_21) (sW_11 hk2) (sW_11 hk) (by decide) (by decide) (by decide) (by rw [ho]; exact e27) hl.1 (Nat.le_of_ble_eq_true rfl) (Nat.le_of_ble_eq_true rfl) dX8_copyFrom_27 (fun H locs hU hS => ?_)
  refine lv_aload_n X.1 X.2.1 dX8_copyFrom_30 rfl (lv_at hl 1 rfl) ?_
  refine k_geto (v := .ref (ad k2 12)) hne X hU (sW_9 hk2) fl_X8_18 rfl dX8_copyFrom_31 ?_
  refine lv_iconst (v := 0) X.1 X.2.1 dX8_copyFrom_34 (by decide) ?_
  refine lv_aload_n X.1 X.2.1 dX8_copyFrom_35 rfl (lv_at hl 0 rfl) ?_
  refine k_getw (v := .ref (ad k 12)) X hU (sW_9 hk) fl_X8_18 rfl dX8_copyFrom_36 ?_
  refine lv_iconst (v := 0) X.1 X.2.1 dX8_copyFrom_39 (by decide) ?_
  refine lv_bipush (v := 8) X.1 X.2.1 dX8_copyFrom_40 (by decide) ?_
  obtain ⟨w42, e42, hf⟩ := k_ltE hf
  refine k_cpyo (n0 := 8) (w := w42) hne X hU hS (cpX8_21) (sW_12 hk2) (sW_12 hk) (by decide) (by decide) (by decide) (by rw [ho]; exact e42) hl.1 (Nat.le_of_ble_eq_true rfl) (Nat.le_of_ble_eq_true rfl) dX8_copyFrom_42 (fun H locs hU hS => ?_)
  refine lv_aload_n X.1 X.2.1 dX8_copyFrom_45 rfl (lv_at hl 0 rfl) ?_
  refine lv_aload_n X.1 X.2.1 dX8_copyFrom_46 rfl (lv_at hl 1 rfl) ?_
  refine k_geto (v := .int (o 9 3)) hne X hU (sW_9 hk2) fl_X8_27 (by rw [ho]; rfl) dX8_copyFrom_47 ?_
  obtain ⟨w50, e50, hf⟩ := k_ltE hf
  refine k_putw X hU hS (sW_9 hk) fp_X8_27 rfl e50 rfl rfl dX8_copyFrom_50 (fun H locs hU hS => ?_)
  have hz := Option.some.inj hf
  subst hz
  exact k_vret X hU hS hr hlk dX8_copyFrom_53
def rm_X8_has : Room := { frames := 0, cells := 0, slots := 0, locals := 0 }
set_option maxRecDepth 100000 in
set_option maxHeartbeats 4000000 in
theorem c_X8_has {l : Launch} {D : va_G} {G : Nat → ClassId} {ad : Nat → Nat → Nat} {u : k_U} (hI : k_ok ad) {k : Nat} (hk : k_isW k) {w : k_M} (hw : u k = w) {a1 : Int32} {sz : Nat} {r : Int32} (hf : f_X8_has w a1 = some r) : Met l yX8_has (.code yX8_has cX8_has 2 (some .boolean) :: lw_g) rm_X8_has (k_Pre D G ad u sz [.ref (ad k 9), .int a1]) (k_Qi D G ad u r sz) 0 0 (k_A ad sz) := by
  refine k_ofW (by decide +kernel) hI (Nat.le_of_ble_eq_true rfl) ?_
  intro p e s m args below meth c X hr hlk hU hS ls hl
  have hl : lv_has ls 2 [(0, .ref (ad k 9)), (1, .int a1)] := hl
  have hU : k_Uv D G ad (k_uc u k w) s.heap := by rw [← hw, k_uc_id]; exact hU
  unfold f_X8_has at hf
  refine lv_iload_n X.1 X.2.1 dX8_has_0 rfl (lv_at hl 1 rfl) ?_
  refine lv_if_lt (tgt := 16) X.1 X.2.1 dX8_has_1 (by decide) (fun c1 => ?_) (fun c1 => ?_)
  · replace hf := k_ifP hf c1
    refine lv_iconst (v := 0) X.1 X.2.1 dX8_has_16 (by decide) ?_
    rw [← hw, k_uc_id] at hU
    have hz := Option.some.inj hf
    subst hz
    exact k_iret (v := 0) X hU hS hr hlk rfl rfl dX8_has_17
  · replace hf := k_ifN hf c1
    refine lv_iload_n X.1 X.2.1 dX8_has_4 rfl (lv_at hl 1 rfl) ?_
    refine lv_aload_n X.1 X.2.1 dX8_has_5 rfl (lv_at hl 0 rfl) ?_
    refine k_getw (v := .int (w 9 3)) X hU (sW_9 hk) fl_X8_27 rfl dX8_has_6 ?_
    refine lv_icmp_ge (tgt := 16) X.1 X.2.1 dX8_has_9 (by decide) (fun c9 => ?_) (fun c9 => ?_)
    · replace hf := k_ifP hf c9
      refine lv_iconst (v := 0) X.1 X.2.1 dX8_has_16 (by decide) ?_
      rw [← hw, k_uc_id] at hU
      have hz := Option.some.inj hf
      subst hz
      exact k_iret (v := 0) X hU hS hr hlk rfl rfl dX8_has_17
    · replace hf := k_ifN hf c9
      refine lv_iconst (v := 1) X.1 X.2.1 dX8_has_12 (by decide) ?_
      refine lv_goto (tgt := 17) X.1 X.2.1 dX8_has_13 (by decide) ?_
      rw [← hw, k_uc_id] at hU
      have hz := Option.some.inj hf
      subst hz
      exact k_iret (v := 1) X hU hS hr hlk rfl rfl dX8_has_17
def rm_X8_add : Room := { frames := 0, cells := 0, slots := 0, locals := 0 }
set_option maxRecDepth 100000 in
set_option maxHeartbeats 4000000 in
theorem c_X8_add {l : Launch} {D : va_G} {G : Nat → ClassId} {ad : Nat → Nat → Nat} {u : k_U} (hI : k_ok ad) {k : Nat} (hk : k_isW k) {w : k_M} (hw : u k = w) {a1 : Int32} {a2 : Int32} {a3 : Int32} {sz : Nat} {r : k_M} (hf : f_X8_add w a1 a2 a3 = some r) : Met l yX8_add (.code yX8_add cX8_add 4 none :: lw_g) rm_X8_add (k_Pre D G ad u sz [.ref (ad k 9), .int a1, .int a2, .int a3]) (k_Qv D G ad (k_uc u k r) sz) 0 0 (k_A ad sz) := by
  refine k_ofW (by decide +kernel) hI (Nat.le_of_ble_eq_true rfl) ?_
  intro p e s m args below meth c X hr hlk hU hS ls hl
  have hl : lv_has ls 4 [(0, .ref (ad k 9)), (1, .int a1), (2, .int a2), (3, .int a3)] := hl
  have hU : k_Uv D G ad (k_uc u k w) s.heap := by rw [← hw, k_uc_id]; exact hU
  unfold f_X8_add at hf
  refine lv_aload_n X.1 X.2.1 dX8_add_0 rfl (lv_at hl 0 rfl) ?_
  refine k_getw (v := .int (w 9 3)) X hU (sW_9 hk) fl_X8_27 rfl dX8_add_1 ?_
  refine lv_bipush (v := 8) X.1 X.2.1 dX8_add_4 (by decide) ?_
  refine lv_icmp_ge (tgt := 49) X.1 X.2.1 dX8_add_6 (by decide) (fun c6 => ?_) (fun c6 => ?_)
  · replace hf := k_ifP hf c6
    have hz := Option.some.inj hf
    subst hz
    exact k_vret X hU hS hr hlk dX8_add_49
  · replace hf := k_ifN hf c6
    refine lv_aload_n X.1 X.2.1 dX8_add_9 rfl (lv_at hl 0 rfl) ?_
    refine k_getw (v := .ref (ad k 10)) X hU (sW_9 hk) fl_X8_11 rfl dX8_add_10 ?_
    refine lv_aload_n X.1 X.2.1 dX8_add_13 rfl (lv_at hl 0 rfl) ?_
    refine k_getw (v := .int (w 9 3)) X hU (sW_9 hk) fl_X8_27 rfl dX8_add_14 ?_
    refine lv_iload_n X.1 X.2.1 dX8_add_17 rfl (lv_at hl 1 rfl) ?_
    obtain ⟨hi18, hf⟩ := k_ckE hf
    obtain ⟨w18, e18, hf⟩ := k_ltE hf
    refine k_istw X hU hS (sW_10 hk) e18 (k_vin (n := 8) hi18 (by decide)) rfl dX8_add_18 (fun H locs hU hS => ?_)
    refine lv_aload_n X.1 X.2.1 dX8_add_19 rfl (lv_at hl 0 rfl) ?_
    refine k_getw (v := .ref (ad k 11)) X hU (sW_9 hk) fl_X8_15 rfl dX8_add_20 ?_
    refine lv_aload_n X.1 X.2.1 dX8_add_23 rfl (lv_at hl 0 rfl) ?_
    refine k_getw (v := .int (w18 9 3)) X hU (sW_9 hk) fl_X8_27 rfl dX8_add_24 ?_
    refine lv_iload_n X.1 X.2.1 dX8_add_27 rfl (lv_at hl 2 rfl) ?_
    obtain ⟨hi28, hf⟩ := k_ckE hf
    obtain ⟨w28, e28, hf⟩ := k_ltE hf
    refine k_istw X hU hS (sW_11 hk) e28 (k_vin (n := 8) hi28 (by decide)) rfl dX8_add_28 (fun H locs hU hS => ?_)
    refine lv_aload_n X.1 X.2.1 dX8_add_29 rfl (lv_at hl 0 rfl) ?_
    refine k_getw (v := .ref (ad k 12)) X hU (sW_9 hk) fl_X8_18 rfl dX8_add_30 ?_
    refine lv_aload_n X.1 X.2.1 dX8_add_33 rfl (lv_at hl 0 rfl) ?_
    refine k_getw (v := .int (w28 9 3)) X hU (sW_9 hk) fl_X8_27 rfl dX8_add_34 ?_
    refine lv_iload_n X.1 X.2.1 dX8_add_37 rfl (lv_at hl 3 rfl) ?_
    obtain ⟨hi38, hf⟩ := k_ckE hf
    obtain ⟨w38, e38, hf⟩ := k_ltE hf
    refine k_istw X hU hS (sW_12 hk) e38 (k_vin (n := 8) hi38 (by decide)) rfl dX8_add_38 (fun H locs hU hS => ?_)
    refine lv_aload_n X.1 X.2.1 dX8_add_39 rfl (lv_at hl 0 rfl) ?_
    refine lv_dup X.1 X.2.1 dX8_add_40 rfl ?_
    refine k_getw (v := .int (w38 9 3)) X hU (sW_9 hk) fl_X8_27 rfl dX8_add_41 ?_
    refine lv_iconst (v := 1) X.1 X.2.1 dX8_add_44 (by decide) ?_
    refine lv_iadd X.1 X.2.1 dX8_add_45 ?_
    obtain ⟨w46, e46, hf⟩ := k_ltE hf
    refine k_putw X hU hS (sW_9 hk) fp_X8_27 rfl e46 rfl rfl dX8_add_46 (fun H locs hU hS => ?_)
    have hz := Option.some.inj hf
    subst hz
    exact k_vret X hU hS hr hlk dX8_add_49
def rm_X8_distanceTo : Room := { frames := 0, cells := 0, slots := 0, locals := 0 }
set_option maxRecDepth 100000 in
set_option maxHeartbeats 4000000 in
theorem c_X8_distanceTo {l : Launch} {D : va_G} {G : Nat → ClassId} {ad : Nat → Nat → Nat} {u : k_U} (hI : k_ok ad) {k : Nat} (hk : k_isW k) {w : k_M} (hw : u k = w) {a1 : Int32} {a2 : Int32} {sz : Nat} {r : Int32} (hf : f_X8_distanceTo w a1 a2 = some r) : Met l yX8_distanceTo (.code yX8_distanceTo cX8_distanceTo 3 (some .int) :: lw_g) rm_X8_distanceTo (k_Pre D G ad u sz [.ref (ad k 9), .int a1, .int a2]) (k_Qi D G ad u r sz) 0 0 (k_A ad sz) := by
  refine k_ofW (by decide +kernel) hI (Nat.le_of_ble_eq_true rfl) ?_
  intro p e s m args below meth c X hr hlk hU hS ls hl
  have hl : lv_has ls 3 [(0, .ref (ad k 9)), (1, .int a1), (2, .int a2)] := hl
  have hU : k_Uv D G ad (k_uc u k w) s.heap := by rw [← hw, k_uc_id]; exact hU
  unfold f_X8_distanceTo at hf
  refine lv_iload_n X.1 X.2.1 dX8_distanceTo_0 rfl (lv_at hl 2 rfl) ?_
  refine lv_aload_n X.1 X.2.1 dX8_distanceTo_1 rfl (lv_at hl 0 rfl) ?_
  refine k_getw (v := .ref (ad k 10)) X hU (sW_9 hk) fl_X8_11 rfl dX8_distanceTo_2 ?_
  refine lv_iload_n X.1 X.2.1 dX8_distanceTo_5 rfl (lv_at hl 1 rfl) ?_
  obtain ⟨hi6, hf⟩ := k_ckE hf
  refine k_ildw X hU (sW_10 hk) (k_vin (n := 8) hi6 (by decide)) rfl dX8_distanceTo_6 ?_
  refine lv_icmp_ge (tgt := 19) X.1 X.2.1 dX8_distanceTo_7 (by decide) (fun c7 => ?_) (fun c7 => ?_)
  · replace hf := k_ifP hf c7
    refine lv_iload_n X.1 X.2.1 dX8_distanceTo_19 rfl (lv_at hl 2 rfl) ?_
    refine lv_aload_n X.1 X.2.1 dX8_distanceTo_20 rfl (lv_at hl 0 rfl) ?_
    refine k_getw (v := .ref (ad k 11)) X hU (sW_9 hk) fl_X8_15 rfl dX8_distanceTo_21 ?_
    refine lv_iload_n X.1 X.2.1 dX8_distanceTo_24 rfl (lv_at hl 1 rfl) ?_
    obtain ⟨hi25, hf⟩ := k_ckE hf
    refine k_ildw X hU (sW_11 hk) (k_vin (n := 8) hi25 (by decide)) rfl dX8_distanceTo_25 ?_
    refine lv_icmp_le (tgt := 40) X.1 X.2.1 dX8_distanceTo_26 (by decide) (fun c26 => ?_) (fun c26 => ?_)
    · replace hf := k_ifP hf c26
      refine lv_iconst (v := 0) X.1 X.2.1 dX8_distanceTo_40 (by decide) ?_
      rw [← hw, k_uc_id] at hU
      have hz := Option.some.inj hf
      subst hz
      exact k_iret (v := 0) X hU hS hr hlk rfl rfl dX8_distanceTo_41
    · replace hf := k_ifN hf c26
      refine lv_iload_n X.1 X.2.1 dX8_distanceTo_29 rfl (lv_at hl 2 rfl) ?_
      refine lv_aload_n X.1 X.2.1 dX8_distanceTo_30 rfl (lv_at hl 0 rfl) ?_
      refine k_getw (v := .ref (ad k 11)) X hU (sW_9 hk) fl_X8_15 rfl dX8_distanceTo_31 ?_
      refine lv_iload_n X.1 X.2.1 dX8_distanceTo_34 rfl (lv_at hl 1 rfl) ?_
      obtain ⟨hi35, hf⟩ := k_ckE hf
      refine k_ildw X hU (sW_11 hk) (k_vin (n := 8) hi35 (by decide)) rfl dX8_distanceTo_35 ?_
      refine lv_isub X.1 X.2.1 dX8_distanceTo_36 ?_
      refine lv_goto (tgt := 41) X.1 X.2.1 dX8_distanceTo_37 (by decide) ?_
      rw [← hw, k_uc_id] at hU
      have hz := Option.some.inj hf
      subst hz
      exact k_iret (v := (a2 - (w 11 a1.toNatClampNeg))) X hU hS hr hlk rfl rfl dX8_distanceTo_41
  · replace hf := k_ifN hf c7
    refine lv_aload_n X.1 X.2.1 dX8_distanceTo_10 rfl (lv_at hl 0 rfl) ?_
    refine k_getw (v := .ref (ad k 10)) X hU (sW_9 hk) fl_X8_11 rfl dX8_distanceTo_11 ?_
    refine lv_iload_n X.1 X.2.1 dX8_distanceTo_14 rfl (lv_at hl 1 rfl) ?_
    obtain ⟨hi15, hf⟩ := k_ckE hf
    refine k_ildw X hU (sW_10 hk) (k_vin (n := 8) hi15 (by decide)) rfl dX8_distanceTo_15 ?_
    refine lv_iload_n X.1 X.2.1 dX8_distanceTo_16 rfl (lv_at hl 2 rfl) ?_
    refine lv_isub X.1 X.2.1 dX8_distanceTo_17 ?_
    rw [← hw, k_uc_id] at hU
    have hz := Option.some.inj hf
    subst hz
    exact k_iret (v := ((w 10 a1.toNatClampNeg) - a2)) X hU hS hr hlk rfl rfl dX8_distanceTo_18
def rm_X8_firstWith : Room := { frames := 1, cells := 0, slots := 0, locals := 22 }
set_option maxRecDepth 100000 in
set_option maxHeartbeats 4000000 in
theorem c_X8_firstWith {l : Launch} {D : va_G} {G : Nat → ClassId} {ad : Nat → Nat → Nat} {u : k_U} (hI : k_ok ad) {k : Nat} (hk : k_isW k) {w : k_M} (hw : u k = w) {a1 : Int32} {sz : Nat} {r : Int32} (hf : f_X8_firstWith w a1 = some r) : Met l yX8_firstWith (.code yX8_firstWith cX8_firstWith 3 (some .int) :: lw_g) rm_X8_firstWith (k_Pre D G ad u sz [.ref (ad k 9), .int a1]) (k_Qi D G ad u r sz) 0 0 (k_A ad sz) := by
  refine k_ofW (by decide +kernel) hI (Nat.le_of_ble_eq_true rfl) ?_
  intro p e s m args below meth c X hr hlk hU hS ls hl
  have hl : lv_has ls 3 [(0, .ref (ad k 9)), (1, .int a1)] := hl
  have hU : k_Uv D G ad (k_uc u k w) s.heap := by rw [← hw, k_uc_id]; exact hU
  have L2 : ∀ (n2 : Nat) (H : Heap) (locs : List Loc) (ls : Array Slot) (a1 : Int32) (a2 : Int32), k_Uv D G ad (k_uc u k w) H → va_S (k_A ad sz) s.heap H locs → lv_has ls 3 [(0, .ref (ad k 9)), (1, .int a1), (2, .int a2)] → f_X8_firstWith_2 n2 w a1 a2 = some r → W p l e rm_X8_firstWith s m args below meth c H locs 0 0 (MQ below (k_Qi D G ad u r sz) args s 0 0 (k_A ad sz)) (F0 m 2 ls []) := by
    intro n2
    induction n2 with
    | zero =>
      intro H locs ls a1 a2 hU hS hl hf
      cases (show none = some r from hf)
    | succ n2 ih2 =>
      intro H locs ls a1 a2 hU hS hl hf
      replace hf : f_X8_firstWith_2_b (f_X8_firstWith_2 n2) w a1 a2 = some r := hf
      unfold f_X8_firstWith_2_b at hf
      refine lv_iload_n X.1 X.2.1 dX8_firstWith_2 rfl (lv_at hl 2 rfl) ?_
      refine lv_aload_n X.1 X.2.1 dX8_firstWith_3 rfl (lv_at hl 0 rfl) ?_
      refine k_getw (v := .int (w 9 3)) X hU (sW_9 hk) fl_X8_27 rfl dX8_firstWith_4 ?_
      refine lv_icmp_ge (tgt := 27) X.1 X.2.1 dX8_firstWith_7 (by decide) (fun c7 => ?_) (fun c7 => ?_)
      · replace hf := k_ifP hf c7
        refine lv_iconst (v := (-1)) X.1 X.2.1 dX8_firstWith_27 (by decide) ?_
        rw [← hw, k_uc_id] at hU
        have hz := Option.some.inj hf
        subst hz
        exact k_iret (v := (-1)) X hU hS hr hlk rfl rfl dX8_firstWith_28
      · replace hf := k_ifN hf c7
        refine lv_aload_n X.1 X.2.1 dX8_firstWith_10 rfl (lv_at hl 0 rfl) ?_
        refine lv_iload_n X.1 X.2.1 dX8_firstWith_11 rfl (lv_at hl 2 rfl) ?_
        refine lv_iload_n X.1 X.2.1 dX8_firstWith_12 rfl (lv_at hl 1 rfl) ?_
        obtain ⟨r13, hr13, hf⟩ := k_bdE hf
        refine k_backi X hS (k_runV (As := [.int a2, .int a1]) (rest := []) X hU (sW_9 hk) (by decide) rfl vl_X8_31 (c_X8_distanceTo X.2.2.2.2.2.2.1 hk (k_uc_s _ _ _) hr13) rfl rfl rfl hl.1 ⟨Nat.le_of_ble_eq_true rfl, Nat.le_of_ble_eq_true rfl⟩ (Nat.le_of_ble_eq_true rfl) dX8_firstWith_13 ⟨Nat.zero_le _, Nat.zero_le _⟩) (fun H locs hU hS => ?_)
        refine lv_if_ne (tgt := 21) X.1 X.2.1 dX8_firstWith_16 (by decide) (fun c16 => ?_) (fun c16 => ?_)
        · replace hf := k_ifN hf c16
          obtain ⟨x21, e21, hf⟩ := k_ltE hf
          refine lv_iinc (v := x21) (lv' := [(2, .int x21), (0, .ref (ad k 9)), (1, .int a1)]) X.1 X.2.1 dX8_firstWith_21 hl (k := 2) rfl (by rw [e21]; rfl) (by decide) rfl (fun ls hl => ?_)
          refine lv_goto (tgt := 2) X.1 X.2.1 dX8_firstWith_24 (by decide) ?_
          exact ih2 _ _ _ a1 x21 hU hS (lv_sub hl [1, 2, 0] rfl) hf
        · replace hf := k_ifP hf c16
          refine lv_iload_n X.1 X.2.1 dX8_firstWith_19 rfl (lv_at hl 2 rfl) ?_
          rw [← hw, k_uc_id] at hU
          have hz := Option.some.inj hf
          subst hz
          exact k_iret (v := a2) X hU hS hr hlk rfl rfl dX8_firstWith_20
  unfold f_X8_firstWith at hf
  refine lv_iconst (v := 0) X.1 X.2.1 dX8_firstWith_0 (by decide) ?_
  refine lv_istore_n (lv' := [(2, .int 0), (0, .ref (ad k 9)), (1, .int a1)]) X.1 X.2.1 dX8_firstWith_1 rfl hl (by decide) rfl (fun ls hl => ?_)
  exact L2 k_N _ _ _ a1 0 hU hS (lv_sub hl [1, 2, 0] rfl) hf
def rm_X8_allWith : Room := { frames := 1, cells := 0, slots := 0, locals := 22 }
set_option maxRecDepth 100000 in
set_option maxHeartbeats 4000000 in
theorem c_X8_allWith {l : Launch} {D : va_G} {G : Nat → ClassId} {ad : Nat → Nat → Nat} {u : k_U} (hI : k_ok ad) {k : Nat} (hk : k_isW k) {w : k_M} (hw : u k = w) {a1 : Int32} {sz : Nat} {r : Int32} (hf : f_X8_allWith w a1 = some r) : Met l yX8_allWith (.code yX8_allWith cX8_allWith 4 (some .int) :: lw_g) rm_X8_allWith (k_Pre D G ad u sz [.ref (ad k 9), .int a1]) (k_Qi D G ad u r sz) 0 0 (k_A ad sz) := by
  refine k_ofW (by decide +kernel) hI (Nat.le_of_ble_eq_true rfl) ?_
  intro p e s m args below meth c X hr hlk hU hS ls hl
  have hl : lv_has ls 4 [(0, .ref (ad k 9)), (1, .int a1)] := hl
  have hU : k_Uv D G ad (k_uc u k w) s.heap := by rw [← hw, k_uc_id]; exact hU
  have L4 : ∀ (n4 : Nat) (H : Heap) (locs : List Loc) (ls : Array Slot) (a1 : Int32) (a2 : Int32) (a3 : Int32), k_Uv D G ad (k_uc u k w) H → va_S (k_A ad sz) s.heap H locs → lv_has ls 4 [(0, .ref (ad k 9)), (1, .int a1), (2, .int a2), (3, .int a3)] → f_X8_allWith_4 n4 w a1 a2 a3 = some r → W p l e rm_X8_allWith s m args below meth c H locs 0 0 (MQ below (k_Qi D G ad u r sz) args s 0 0 (k_A ad sz)) (F0 m 4 ls []) := by
    intro n4
    induction n4 with
    | zero =>
      intro H locs ls a1 a2 a3 hU hS hl hf
      cases (show none = some r from hf)
    | succ n4 ih4 =>
      have J27 : ∀ (H : Heap) (locs : List Loc) (ls : Array Slot) (a1 : Int32) (a2 : Int32) (a3 : Int32), k_Uv D G ad (k_uc u k w) H → va_S (k_A ad sz) s.heap H locs → lv_has ls 4 [(0, .ref (ad k 9)), (1, .int a1), (2, .int a2), (3, .int a3)] → f_X8_allWith_27 (f_X8_allWith_4 n4) w a1 a2 a3 = some r → W p l e rm_X8_allWith s m args below meth c H locs 0 0 (MQ below (k_Qi D G ad u r sz) args s 0 0 (k_A ad sz)) (F0 m 27 ls []) := by
        intro H locs ls a1 a2 a3 hU hS hl hf
        unfold f_X8_allWith_27 at hf
        obtain ⟨x27, e27, hf⟩ := k_ltE hf
        refine lv_iinc (v := x27) (lv' := [(3, .int x27), (0, .ref (ad k 9)), (1, .int a1), (2, .int a2)]) X.1 X.2.1 dX8_allWith_27 hl (k := 3) rfl (by rw [e27]; rfl) (by decide) rfl (fun ls hl => ?_)
        refine lv_goto (tgt := 4) X.1 X.2.1 dX8_allWith_30 (by decide) ?_
        exact ih4 _ _ _ a1 a2 x27 hU hS (lv_sub hl [1, 2, 3, 0] rfl) hf
      intro H locs ls a1 a2 a3 hU hS hl hf
      replace hf : f_X8_allWith_4_b (f_X8_allWith_4 n4) w a1 a2 a3 = some r := hf
      unfold f_X8_allWith_4_b at hf
      refine lv_iload_n X.1 X.2.1 dX8_allWith_4 rfl (lv_at hl 3 rfl) ?_
      refine lv_aload_n X.1 X.2.1 dX8_allWith_5 rfl (lv_at hl 0 rfl) ?_
      refine k_getw (v := .int (w 9 3)) X hU (sW_9 hk) fl_X8_27 rfl dX8_allWith_6 ?_
      refine lv_icmp_ge (tgt := 33) X.1 X.2.1 dX8_allWith_9 (by decide) (fun c9 => ?_) (fun c9 => ?_)
      · replace hf := k_ifP hf c9
        refine lv_iload_n X.1 X.2.1 dX8_allWith_33 rfl (lv_at hl 2 rfl) ?_
        rw [← hw, k_uc_id] at hU
        have hz := Option.some.inj hf
        subst hz
        exact k_iret (v := a2) X hU hS hr hlk rfl rfl dX8_allWith_34
      · replace hf := k_ifN hf c9
        refine lv_aload_n X.1 X.2.1 dX8_allWith_12 rfl (lv_at hl 0 rfl) ?_
        refine lv_iload_n X.1 X.2.1 dX8_allWith_13 rfl (lv_at hl 3 rfl) ?_
        refine lv_iload_n X.1 X.2.1 dX8_allWith_14 rfl (lv_at hl 1 rfl) ?_
        obtain ⟨r15, hr15, hf⟩ := k_bdE hf
        refine k_backi X hS (k_runV (As := [.int a3, .int a1]) (rest := []) X hU (sW_9 hk) (by decide) rfl vl_X8_31 (c_X8_distanceTo X.2.2.2.2.2.2.1 hk (k_uc_s _ _ _) hr15) rfl rfl rfl hl.1 ⟨Nat.le_of_ble_eq_true rfl, Nat.le_of_ble_eq_true rfl⟩ (Nat.le_of_ble_eq_true rfl) dX8_allWith_15 ⟨Nat.zero_le _, Nat.zero_le _⟩) (fun H locs hU hS => ?_)
        refine lv_if_ne (tgt := 27) X.1 X.2.1 dX8_allWith_18 (by decide) (fun c18 => ?_) (fun c18 => ?_)
        · replace hf := k_ifN hf c18
          exact J27 _ _ _ a1 a2 a3 hU hS (lv_sub hl [0, 1, 2, 3] rfl) hf
        · replace hf := k_ifP hf c18
          refine lv_iload_n X.1 X.2.1 dX8_allWith_21 rfl (lv_at hl 2 rfl) ?_
          refine lv_iconst (v := 1) X.1 X.2.1 dX8_allWith_22 (by decide) ?_
          refine lv_iload_n X.1 X.2.1 dX8_allWith_23 rfl (lv_at hl 3 rfl) ?_
          refine lv_ishl X.1 X.2.1 dX8_allWith_24 ?_
          refine lv_ior X.1 X.2.1 dX8_allWith_25 ?_
          obtain ⟨x26, e26, hf⟩ := k_ltE hf
          refine k_nmi e26 ?_
          refine lv_istore_n (lv' := [(2, .int x26), (0, .ref (ad k 9)), (1, .int a1), (3, .int a3)]) X.1 X.2.1 dX8_allWith_26 rfl hl (by decide) rfl (fun ls hl => ?_)
          exact J27 _ _ _ a1 x26 a3 hU hS (lv_sub hl [1, 2, 0, 3] rfl) hf
  unfold f_X8_allWith at hf
  refine lv_iconst (v := 0) X.1 X.2.1 dX8_allWith_0 (by decide) ?_
  refine lv_istore_n (lv' := [(2, .int 0), (0, .ref (ad k 9)), (1, .int a1)]) X.1 X.2.1 dX8_allWith_1 rfl hl (by decide) rfl (fun ls hl => ?_)
  refine lv_iconst (v := 0) X.1 X.2.1 dX8_allWith_2 (by decide) ?_
  refine lv_istore_n (lv' := [(3, .int 0), (2, .int 0), (0, .ref (ad k 9)), (1, .int a1)]) X.1 X.2.1 dX8_allWith_3 rfl hl (by decide) rfl (fun ls hl => ?_)
  exact L4 k_N _ _ _ a1 0 0 hU hS (lv_sub hl [2, 3, 1, 0] rfl) hf
def rm_X9_begin : Room := { frames := 1, cells := 0, slots := 0, locals := 20 }
set_option maxRecDepth 100000 in
set_option maxHeartbeats 4000000 in
theorem c_X9_begin {l : Launch} {D : va_G} {G : Nat → ClassId} {ad : Nat → Nat → Nat} {u : k_U} (hI : k_ok ad) {k : Nat} (hk : k_isW k) {w : k_M} (hw : u k = w) {a1 : Int32} {a2 : Int32} {a3 : Int32} {sz : Nat} {r : k_M} (hf : f_X9_begin w a1 a2 a3 = some r) : Met l yX9_begin (.code yX9_begin cX9_begin 4 none :: lw_g) rm_X9_begin (k_Pre D G ad u sz [.ref (ad k 0), .int a1, .int a2, .int a3]) (k_Qv D G ad (k_uc u k r) sz) 0 0 (k_A ad sz) := by
  refine k_ofW (by decide +kernel) hI (Nat.le_of_ble_eq_true rfl) ?_
  intro p e s m args below meth c X hr hlk hU hS ls hl
  have hl : lv_has ls 4 [(0, .ref (ad k 0)), (1, .int a1), (2, .int a2), (3, .int a3)] := hl
  have hU : k_Uv D G ad (k_uc u k w) s.heap := by rw [← hw, k_uc_id]; exact hU
  unfold f_X9_begin at hf
  refine lv_aload_n X.1 X.2.1 dX9_begin_0 rfl (lv_at hl 0 rfl) ?_
  refine lv_iload_n X.1 X.2.1 dX9_begin_1 rfl (lv_at hl 1 rfl) ?_
  obtain ⟨w2, e2, hf⟩ := k_ltE hf
  refine k_putw X hU hS (sW_0 hk) fp_X9_50 rfl e2 rfl rfl dX9_begin_2 (fun H locs hU hS => ?_)
  refine lv_aload_n X.1 X.2.1 dX9_begin_5 rfl (lv_at hl 0 rfl) ?_
  refine lv_iload_n X.1 X.2.1 dX9_begin_6 rfl (lv_at hl 2 rfl) ?_
  obtain ⟨w7, e7, hf⟩ := k_ltE hf
  refine k_putw X hU hS (sW_0 hk) fp_X9_53 rfl e7 rfl rfl dX9_begin_7 (fun H locs hU hS => ?_)
  refine lv_aload_n X.1 X.2.1 dX9_begin_10 rfl (lv_at hl 0 rfl) ?_
  refine lv_iload_n X.1 X.2.1 dX9_begin_11 rfl (lv_at hl 3 rfl) ?_
  obtain ⟨w12, e12, hf⟩ := k_ltE hf
  refine k_putw X hU hS (sW_0 hk) fp_X9_9 rfl e12 rfl rfl dX9_begin_12 (fun H locs hU hS => ?_)
  refine lv_aload_n X.1 X.2.1 dX9_begin_15 rfl (lv_at hl 0 rfl) ?_
  refine lv_iconst (v := 0) X.1 X.2.1 dX9_begin_16 (by decide) ?_
  obtain ⟨w17, e17, hf⟩ := k_ltE hf
  refine k_putw X hU hS (sW_0 hk) fp_X9_56 rfl e17 rfl rfl dX9_begin_17 (fun H locs hU hS => ?_)
  refine lv_aload_n X.1 X.2.1 dX9_begin_20 rfl (lv_at hl 0 rfl) ?_
  refine lv_iconst (v := 0) X.1 X.2.1 dX9_begin_21 (by decide) ?_
  obtain ⟨w22, e22, hf⟩ := k_ltE hf
  refine k_putw X hU hS (sW_0 hk) fp_X9_59 rfl e22 rfl rfl dX9_begin_22 (fun H locs hU hS => ?_)
  refine lv_aload_n X.1 X.2.1 dX9_begin_25 rfl (lv_at hl 0 rfl) ?_
  refine lv_iconst (v := 0) X.1 X.2.1 dX9_begin_26 (by decide) ?_
  obtain ⟨w27, e27, hf⟩ := k_ltE hf
  refine k_putw X hU hS (sW_0 hk) fp_X9_62 rfl e27 rfl rfl dX9_begin_27 (fun H locs hU hS => ?_)
  refine lv_aload_n X.1 X.2.1 dX9_begin_30 rfl (lv_at hl 0 rfl) ?_
  refine lv_iconst (v := 0) X.1 X.2.1 dX9_begin_31 (by decide) ?_
  obtain ⟨w32, e32, hf⟩ := k_ltE hf
  refine k_putw X hU hS (sW_0 hk) fp_X9_65 rfl e32 rfl rfl dX9_begin_32 (fun H locs hU hS => ?_)
  refine lv_aload_n X.1 X.2.1 dX9_begin_35 rfl (lv_at hl 0 rfl) ?_
  refine lv_bipush (v := 20) X.1 X.2.1 dX9_begin_36 (by decide) ?_
  obtain ⟨w38, e38, hf⟩ := k_ltE hf
  refine k_putw X hU hS (sW_0 hk) fp_X9_68 rfl e38 rfl rfl dX9_begin_38 (fun H locs hU hS => ?_)
  refine lv_aload_n X.1 X.2.1 dX9_begin_41 rfl (lv_at hl 0 rfl) ?_
  refine lv_iconst (v := 0) X.1 X.2.1 dX9_begin_42 (by decide) ?_
  obtain ⟨w43, e43, hf⟩ := k_ltE hf
  refine k_putw X hU hS (sW_0 hk) fp_X9_71 rfl e43 rfl rfl dX9_begin_43 (fun H locs hU hS => ?_)
  refine lv_aload_n X.1 X.2.1 dX9_begin_46 rfl (lv_at hl 0 rfl) ?_
  refine lv_iconst (v := 0) X.1 X.2.1 dX9_begin_47 (by decide) ?_
  obtain ⟨w48, e48, hf⟩ := k_ltE hf
  refine k_putw X hU hS (sW_0 hk) fp_X9_74 rfl e48 rfl rfl dX9_begin_48 (fun H locs hU hS => ?_)
  refine lv_aload_n X.1 X.2.1 dX9_begin_51 rfl (lv_at hl 0 rfl) ?_
  refine lv_iconst (v := 0) X.1 X.2.1 dX9_begin_52 (by decide) ?_
  obtain ⟨w53, e53, hf⟩ := k_ltE hf
  refine k_putw X hU hS (sW_0 hk) fp_X9_77 rfl e53 rfl rfl dX9_begin_53 (fun H locs hU hS => ?_)
  refine lv_aload_n X.1 X.2.1 dX9_begin_56 rfl (lv_at hl 0 rfl) ?_
  refine lv_iconst (v := 0) X.1 X.2.1 dX9_begin_57 (by decide) ?_
  obtain ⟨w58, e58, hf⟩ := k_ltE hf
  refine k_putw X hU hS (sW_0 hk) fp_X9_80 rfl e58 rfl rfl dX9_begin_58 (fun H locs hU hS => ?_)
  refine lv_aload_n X.1 X.2.1 dX9_begin_61 rfl (lv_at hl 0 rfl) ?_
  refine k_getw (v := .ref (ad k 3)) X hU (sW_0 hk) fl_X9_29 rfl dX9_begin_62 ?_
  refine lv_iconst (v := 0) X.1 X.2.1 dX9_begin_65 (by decide) ?_
  obtain ⟨w66, e66, hf⟩ := k_ltE hf
  refine k_putw X hU hS (k_sT hk k_isT_3) fp_X9_84 rfl e66 rfl rfl dX9_begin_66 (fun H locs hU hS => ?_)
  refine lv_aload_n X.1 X.2.1 dX9_begin_69 rfl (lv_at hl 0 rfl) ?_
  refine k_getw (v := .ref (ad k 6)) X hU (sW_0 hk) fl_X9_33 rfl dX9_begin_70 ?_
  refine lv_iconst (v := 0) X.1 X.2.1 dX9_begin_73 (by decide) ?_
  obtain ⟨w74, e74, hf⟩ := k_ltE hf
  refine k_putw X hU hS (k_sT hk k_isT_6) fp_X9_84 rfl e74 rfl rfl dX9_begin_74 (fun H locs hU hS => ?_)
  refine lv_aload_n X.1 X.2.1 dX9_begin_77 rfl (lv_at hl 0 rfl) ?_
  refine k_getw (v := .ref (ad k 9)) X hU (sW_0 hk) fl_X9_39 rfl dX9_begin_78 ?_
  refine lv_iconst (v := 0) X.1 X.2.1 dX9_begin_81 (by decide) ?_
  obtain ⟨w82, e82, hf⟩ := k_ltE hf
  refine k_putw X hU hS (sW_9 hk) fp_X9_87 rfl e82 rfl rfl dX9_begin_82 (fun H locs hU hS => ?_)
  refine lv_aload_n X.1 X.2.1 dX9_begin_85 rfl (lv_at hl 0 rfl) ?_
  refine k_getw (v := .ref (ad k 13)) X hU (sW_0 hk) fl_X9_46 rfl dX9_begin_86 ?_
  obtain ⟨r89, hr89, hf⟩ := k_bdE hf
  refine k_backv X hS (k_runV (As := []) (rest := []) X hU (sW_13 hk) (by decide) rfl vl_X9_88 (c_X1_forget X.2.2.2.2.2.2.1 hk (k_uc_s _ _ _) hr89) rfl rfl rfl hl.1 ⟨Nat.le_of_ble_eq_true rfl, Nat.le_of_ble_eq_true rfl⟩ (Nat.le_of_ble_eq_true rfl) dX9_begin_89 ⟨Nat.zero_le _, Nat.zero_le _⟩) (fun H locs hU hS => ?_)
  rw [k_uc_uc] at hU
  have hz := Option.some.inj hf
  subst hz
  exact k_vret X hU hS hr hlk dX9_begin_92
def rm_X9_copyFrom : Room := { frames := 2, cells := 0, slots := 0, locals := 45 }
set_option maxRecDepth 100000 in
set_option maxHeartbeats 4000000 in
theorem c_X9_copyFrom {l : Launch} {D : va_G} {G : Nat → ClassId} {ad : Nat → Nat → Nat} {u : k_U} (hI : k_ok ad) {k : Nat} (hk : k_isW k) {k2 : Nat} (hk2 : k_isW k2) (hne : k2 ≠ k) {w : k_M} (hw : u k = w) {o : k_M} (ho : u k2 = o) {sz : Nat} {r : k_M} (hf : f_X9_copyFrom w o = some r) : Met l yX9_copyFrom (.code yX9_copyFrom cX9_copyFrom 3 none :: lw_g) rm_X9_copyFrom (k_Pre D G ad u sz [.ref (ad k 0), .ref (ad k2 0)]) (k_Qv D G ad (k_uc u k r) sz) 0 0 (k_A ad sz) := by
  refine k_ofW (by decide +kernel) hI (Nat.le_of_ble_eq_true rfl) ?_
  intro p e s m args below meth c X hr hlk hU hS ls hl
  have hl : lv_has ls 3 [(0, .ref (ad k 0)), (1, .ref (ad k2 0))] := hl
  have hU : k_Uv D G ad (k_uc u k w) s.heap := by rw [← hw, k_uc_id]; exact hU
  have L98 : ∀ (n98 : Nat) (H : Heap) (locs : List Loc) (ls : Array Slot) (w : k_M) (a2 : Int32), k_Uv D G ad (k_uc u k w) H → va_S (k_A ad sz) s.heap H locs → lv_has ls 3 [(0, .ref (ad k 0)), (1, .ref (ad k2 0)), (2, .int a2)] → f_X9_copyFrom_98 n98 w o a2 = some r → W p l e rm_X9_copyFrom s m args below meth c H locs 0 0 (MQ below (k_Qv D G ad (k_uc u k r) sz) args s 0 0 (k_A ad sz)) (F0 m 98 ls []) := by
    intro n98
    induction n98 with
    | zero =>
      intro H locs ls w a2 hU hS hl hf
      cases (show none = some r from hf)
    | succ n98 ih98 =>
      intro H locs ls w a2 hU hS hl hf
      replace hf : f_X9_copyFrom_98_b (f_X9_copyFrom_98 n98) w o a2 = some r := hf
      unfold f_X9_copyFrom_98_b at hf
      refine lv_iload_n X.1 X.2.1 dX9_copyFrom_98 rfl (lv_at hl 2 rfl) ?_
      refine lv_aload_n X.1 X.2.1 dX9_copyFrom_99 rfl (lv_at hl 0 rfl) ?_
      refine k_getw (v := .int (w 0 10)) X hU (sW_0 hk) fl_X9_77 rfl dX9_copyFrom_100 ?_
      refine lv_icmp_ge (tgt := 127) X.1 X.2.1 dX9_copyFrom_103 (by decide) (fun c103 => ?_) (fun c103 => ?_)
      · replace hf := k_ifP hf c103
        refine lv_aload_n X.1 X.2.1 dX9_copyFrom_127 rfl (lv_at hl 0 rfl) ?_
        refine k_getw (v := .ref (ad k 2)) X hU (sW_0 hk) fl_X9_22 rfl dX9_copyFrom_128 ?_
        refine lv_aload_n X.1 X.2.1 dX9_copyFrom_131 rfl (lv_at hl 1 rfl) ?_
        refine k_geto (v := .ref (ad k2 2)) hne X hU (sW_0 hk2) fl_X9_22 rfl dX9_copyFrom_132 ?_
        obtain ⟨r135, hr135, hf⟩ := k_bdE hf
        refine k_backv X hS (k_runV (As := [.ref (ad k2 2)]) (rest := []) X hU (k_sC hk k_isC_2) (by decide) rfl vl_X9_91 (c_X0_copyFrom X.2.2.2.2.2.2.1 hk hk2 hne (k_uc_s _ _ _) (by rw [k_uc_n _ _ hne]; exact ho) k_isC_2 k_isC_2 hr135) rfl rfl rfl hl.1 ⟨Nat.le_of_ble_eq_true rfl, Nat.le_of_ble_eq_true rfl⟩ (Nat.le_of_ble_eq_true rfl) dX9_copyFrom_135 ⟨Nat.zero_le _, Nat.zero_le _⟩) (fun H locs hU hS => ?_)
        rw [k_uc_uc] at hU
        refine lv_aload_n X.1 X.2.1 dX9_copyFrom_138 rfl (lv_at hl 0 rfl) ?_
        refine k_getw (v := .ref (ad k 3)) X hU (sW_0 hk) fl_X9_29 rfl dX9_copyFrom_139 ?_
        refine lv_aload_n X.1 X.2.1 dX9_copyFrom_142 rfl (lv_at hl 1 rfl) ?_
        refine k_geto (v := .ref (ad k2 3)) hne X hU (sW_0 hk2) fl_X9_29 rfl dX9_copyFrom_143 ?_
        obtain ⟨r146, hr146, hf⟩ := k_bdE hf
        refine k_backv X hS (k_runV (As := [.ref (ad k2 3)]) (rest := []) X hU (k_sT hk k_isT_3) (by decide) rfl vl_X9_95 (c_X2_copyFrom X.2.2.2.2.2.2.1 hk hk2 hne (k_uc_s _ _ _) (by rw [k_uc_n _ _ hne]; exact ho) k_isT_3 hr146) rfl rfl rfl hl.1 ⟨Nat.le_of_ble_eq_true rfl, Nat.le_of_ble_eq_true rfl⟩ (Nat.le_of_ble_eq_true rfl) dX9_copyFrom_146 ⟨Nat.zero_le _, Nat.zero_le _⟩) (fun H locs hU hS => ?_)
        rw [k_uc_uc] at hU
        refine lv_aload_n X.1 X.2.1 dX9_copyFrom_149 rfl (lv_at hl 0 rfl) ?_
        refine k_getw (v := .ref (ad k 6)) X hU (sW_0 hk) fl_X9_33 rfl dX9_copyFrom_150 ?_
        refine lv_aload_n X.1 X.2.1 dX9_copyFrom_153 rfl (lv_at hl 1 rfl) ?_
        refine k_geto (v := .ref (ad k2 6)) hne X hU (sW_0 hk2) fl_X9_33 rfl dX9_copyFrom_154 ?_
        obtain ⟨r157, hr157, hf⟩ := k_bdE hf
        refine k_backv X hS (k_runV (As := [.ref (ad k2 6)]) (rest := []) X hU (k_sT hk k_isT_6) (by decide) rfl vl_X9_95 (c_X2_copyFrom X.2.2.2.2.2.2.1 hk hk2 hne (k_uc_s _ _ _) (by rw [k_uc_n _ _ hne]; exact ho) k_isT_6 hr157) rfl rfl rfl hl.1 ⟨Nat.le_of_ble_eq_true rfl, Nat.le_of_ble_eq_true rfl⟩ (Nat.le_of_ble_eq_true rfl) dX9_copyFrom_157 ⟨Nat.zero_le _, Nat.zero_le _⟩) (fun H locs hU hS => ?_)
        rw [k_uc_uc] at hU
        refine lv_aload_n X.1 X.2.1 dX9_copyFrom_160 rfl (lv_at hl 0 rfl) ?_
        refine k_getw (v := .ref (ad k 9)) X hU (sW_0 hk) fl_X9_39 rfl dX9_copyFrom_161 ?_
        refine lv_aload_n X.1 X.2.1 dX9_copyFrom_164 rfl (lv_at hl 1 rfl) ?_
        refine k_geto (v := .ref (ad k2 9)) hne X hU (sW_0 hk2) fl_X9_39 rfl dX9_copyFrom_165 ?_
        obtain ⟨r168, hr168, hf⟩ := k_bdE hf
        refine k_backv X hS (k_runV (As := [.ref (ad k2 9)]) (rest := []) X hU (sW_9 hk) (by decide) rfl vl_X9_98 (c_X8_copyFrom X.2.2.2.2.2.2.1 hk hk2 hne (k_uc_s _ _ _) (by rw [k_uc_n _ _ hne]; exact ho) hr168) rfl rfl rfl hl.1 ⟨Nat.le_of_ble_eq_true rfl, Nat.le_of_ble_eq_true rfl⟩ (Nat.le_of_ble_eq_true rfl) dX9_copyFrom_168 ⟨Nat.zero_le _, Nat.zero_le _⟩) (fun H locs hU hS => ?_)
        rw [k_uc_uc] at hU
        refine lv_aload_n X.1 X.2.1 dX9_copyFrom_171 rfl (lv_at hl 0 rfl) ?_
        refine k_getw (v := .ref (ad k 13)) X hU (sW_0 hk) fl_X9_46 rfl dX9_copyFrom_172 ?_
        refine lv_aload_n X.1 X.2.1 dX9_copyFrom_175 rfl (lv_at hl 1 rfl) ?_
        refine k_geto (v := .ref (ad k2 13)) hne X hU (sW_0 hk2) fl_X9_46 rfl dX9_copyFrom_176 ?_
        obtain ⟨r179, hr179, hf⟩ := k_bdE hf
        refine k_backv X hS (k_runV (As := [.ref (ad k2 13)]) (rest := []) X hU (sW_13 hk) (by decide) rfl vl_X9_101 (c_X1_copyFrom X.2.2.2.2.2.2.1 hk hk2 hne (k_uc_s _ _ _) (by rw [k_uc_n _ _ hne]; exact ho) hr179) rfl rfl rfl hl.1 ⟨Nat.le_of_ble_eq_true rfl, Nat.le_of_ble_eq_true rfl⟩ (Nat.le_of_ble_eq_true rfl) dX9_copyFrom_179 ⟨Nat.zero_le _, Nat.zero_le _⟩) (fun H locs hU hS => ?_)
        rw [k_uc_uc] at hU
        have hz := Option.some.inj hf
        subst hz
        exact k_vret X hU hS hr hlk dX9_copyFrom_182
      · replace hf := k_ifN hf c103
        refine lv_aload_n X.1 X.2.1 dX9_copyFrom_106 rfl (lv_at hl 0 rfl) ?_
        refine k_getw (v := .ref (ad k 1)) X hU (sW_0 hk) fl_X9_17 rfl dX9_copyFrom_107 ?_
        refine lv_iload_n X.1 X.2.1 dX9_copyFrom_110 rfl (lv_at hl 2 rfl) ?_
        obtain ⟨hi111, hf⟩ := k_ckE hf
        have hj111 := (k_vin (n := 8) hi111 (by decide))
        refine k_ald (C := "LayeredChute$Chute") (tag := 23) (t0 := 3) (z := (k, (15 + a2.toNatClampNeg))) X hU (by decide) rfl (sW_1 hk) hj111 (k_rWl_at hj111) dX9_copyFrom_111 ?_
        refine lv_aload_n X.1 X.2.1 dX9_copyFrom_112 rfl (lv_at hl 1 rfl) ?_
        refine k_geto (v := .ref (ad k2 1)) hne X hU (sW_0 hk2) fl_X9_17 rfl dX9_copyFrom_113 ?_
        refine lv_iload_n X.1 X.2.1 dX9_copyFrom_116 rfl (lv_at hl 2 rfl) ?_
        obtain ⟨hi117, hf⟩ := k_ckE hf
        have hj117 := (k_vin (n := 8) hi117 (by decide))
        refine k_ald (C := "LayeredChute$Chute") (tag := 23) (t0 := 3) (z := (k2, (15 + a2.toNatClampNeg))) X hU (by decide) rfl (sW_1 hk2) hj117 (k_rWl_at hj117) dX9_copyFrom_117 ?_
        obtain ⟨r118, hr118, hf⟩ := k_bdE hf
        refine k_backv X hS (k_runV (As := [.ref (ad k2 (15 + a2.toNatClampNeg))]) (rest := []) X hU (k_sC hk (k_isC_l (k_vlt hj111))) (by decide) rfl vl_X9_91 (c_X0_copyFrom X.2.2.2.2.2.2.1 hk hk2 hne (k_uc_s _ _ _) (by rw [k_uc_n _ _ hne]; exact ho) (k_isC_l (k_vlt hj111)) (k_isC_l (k_vlt hj117)) hr118) rfl rfl rfl hl.1 ⟨Nat.le_of_ble_eq_true rfl, Nat.le_of_ble_eq_true rfl⟩ (Nat.le_of_ble_eq_true rfl) dX9_copyFrom_118 ⟨Nat.zero_le _, Nat.zero_le _⟩) (fun H locs hU hS => ?_)
        rw [k_uc_uc] at hU
        obtain ⟨x121, e121, hf⟩ := k_ltE hf
        refine lv_iinc (v := x121) (lv' := [(2, .int x121), (0, .ref (ad k 0)), (1, .ref (ad k2 0))]) X.1 X.2.1 dX9_copyFrom_121 hl (k := 2) rfl (by rw [e121]; rfl) (by decide) rfl (fun ls hl => ?_)
        refine lv_goto (tgt := 98) X.1 X.2.1 dX9_copyFrom_124 (by decide) ?_
        exact ih98 _ _ _ r118 x121 hU hS (lv_sub hl [1, 2, 0] rfl) hf
  unfold f_X9_copyFrom at hf
  refine lv_aload_n X.1 X.2.1 dX9_copyFrom_0 rfl (lv_at hl 0 rfl) ?_
  refine lv_aload_n X.1 X.2.1 dX9_copyFrom_1 rfl (lv_at hl 1 rfl) ?_
  refine k_geto (v := .int (o 0 0)) hne X hU (sW_0 hk2) fl_X9_50 (by rw [ho]; rfl) dX9_copyFrom_2 ?_
  obtain ⟨w5, e5, hf⟩ := k_ltE hf
  refine k_putw X hU hS (sW_0 hk) fp_X9_50 rfl e5 rfl rfl dX9_copyFrom_5 (fun H locs hU hS => ?_)
  refine lv_aload_n X.1 X.2.1 dX9_copyFrom_8 rfl (lv_at hl 0 rfl) ?_
  refine lv_aload_n X.1 X.2.1 dX9_copyFrom_9 rfl (lv_at hl 1 rfl) ?_
  refine k_geto (v := .int (o 0 1)) hne X hU (sW_0 hk2) fl_X9_53 (by rw [ho]; rfl) dX9_copyFrom_10 ?_
  obtain ⟨w13, e13, hf⟩ := k_ltE hf
  refine k_putw X hU hS (sW_0 hk) fp_X9_53 rfl e13 rfl rfl dX9_copyFrom_13 (fun H locs hU hS => ?_)
  refine lv_aload_n X.1 X.2.1 dX9_copyFrom_16 rfl (lv_at hl 0 rfl) ?_
  refine lv_aload_n X.1 X.2.1 dX9_copyFrom_17 rfl (lv_at hl 1 rfl) ?_
  refine k_geto (v := .int (o 0 2)) hne X hU (sW_0 hk2) fl_X9_56 (by rw [ho]; rfl) dX9_copyFrom_18 ?_
  obtain ⟨w21, e21, hf⟩ := k_ltE hf
  refine k_putw X hU hS (sW_0 hk) fp_X9_56 rfl e21 rfl rfl dX9_copyFrom_21 (fun H locs hU hS => ?_)
  refine lv_aload_n X.1 X.2.1 dX9_copyFrom_24 rfl (lv_at hl 0 rfl) ?_
  refine lv_aload_n X.1 X.2.1 dX9_copyFrom_25 rfl (lv_at hl 1 rfl) ?_
  refine k_geto (v := .int (o 0 3)) hne X hU (sW_0 hk2) fl_X9_9 (by rw [ho]; rfl) dX9_copyFrom_26 ?_
  obtain ⟨w29, e29, hf⟩ := k_ltE hf
  refine k_putw X hU hS (sW_0 hk) fp_X9_9 rfl e29 rfl rfl dX9_copyFrom_29 (fun H locs hU hS => ?_)
  refine lv_aload_n X.1 X.2.1 dX9_copyFrom_32 rfl (lv_at hl 0 rfl) ?_
  refine lv_aload_n X.1 X.2.1 dX9_copyFrom_33 rfl (lv_at hl 1 rfl) ?_
  refine k_geto (v := .int (o 0 4)) hne X hU (sW_0 hk2) fl_X9_59 (by rw [ho]; rfl) dX9_copyFrom_34 ?_
  obtain ⟨w37, e37, hf⟩ := k_ltE hf
  refine k_putw X hU hS (sW_0 hk) fp_X9_59 rfl e37 rfl rfl dX9_copyFrom_37 (fun H locs hU hS => ?_)
  refine lv_aload_n X.1 X.2.1 dX9_copyFrom_40 rfl (lv_at hl 0 rfl) ?_
  refine lv_aload_n X.1 X.2.1 dX9_copyFrom_41 rfl (lv_at hl 1 rfl) ?_
  refine k_geto (v := .int (o 0 5)) hne X hU (sW_0 hk2) fl_X9_62 (by rw [ho]; rfl) dX9_copyFrom_42 ?_
  obtain ⟨w45, e45, hf⟩ := k_ltE hf
  refine k_putw X hU hS (sW_0 hk) fp_X9_62 rfl e45 rfl rfl dX9_copyFrom_45 (fun H locs hU hS => ?_)
  refine lv_aload_n X.1 X.2.1 dX9_copyFrom_48 rfl (lv_at hl 0 rfl) ?_
  refine lv_aload_n X.1 X.2.1 dX9_copyFrom_49 rfl (lv_at hl 1 rfl) ?_
  refine k_geto (v := .int (o 0 6)) hne X hU (sW_0 hk2) fl_X9_65 (by rw [ho]; rfl) dX9_copyFrom_50 ?_
  obtain ⟨w53, e53, hf⟩ := k_ltE hf
  refine k_putw X hU hS (sW_0 hk) fp_X9_65 rfl e53 rfl rfl dX9_copyFrom_53 (fun H locs hU hS => ?_)
  refine lv_aload_n X.1 X.2.1 dX9_copyFrom_56 rfl (lv_at hl 0 rfl) ?_
  refine lv_aload_n X.1 X.2.1 dX9_copyFrom_57 rfl (lv_at hl 1 rfl) ?_
  refine k_geto (v := .int (o 0 7)) hne X hU (sW_0 hk2) fl_X9_68 (by rw [ho]; rfl) dX9_copyFrom_58 ?_
  obtain ⟨w61, e61, hf⟩ := k_ltE hf
  refine k_putw X hU hS (sW_0 hk) fp_X9_68 rfl e61 rfl rfl dX9_copyFrom_61 (fun H locs hU hS => ?_)
  refine lv_aload_n X.1 X.2.1 dX9_copyFrom_64 rfl (lv_at hl 0 rfl) ?_
  refine lv_aload_n X.1 X.2.1 dX9_copyFrom_65 rfl (lv_at hl 1 rfl) ?_
  refine k_geto (v := .int (o 0 8)) hne X hU (sW_0 hk2) fl_X9_71 (by rw [ho]; rfl) dX9_copyFrom_66 ?_
  obtain ⟨w69, e69, hf⟩ := k_ltE hf
  refine k_putw X hU hS (sW_0 hk) fp_X9_71 rfl e69 rfl rfl dX9_copyFrom_69 (fun H locs hU hS => ?_)
  refine lv_aload_n X.1 X.2.1 dX9_copyFrom_72 rfl (lv_at hl 0 rfl) ?_
  refine lv_aload_n X.1 X.2.1 dX9_copyFrom_73 rfl (lv_at hl 1 rfl) ?_
  refine k_geto (v := .int (o 0 9)) hne X hU (sW_0 hk2) fl_X9_74 (by rw [ho]; rfl) dX9_copyFrom_74 ?_
  obtain ⟨w77, e77, hf⟩ := k_ltE hf
  refine k_putw X hU hS (sW_0 hk) fp_X9_74 rfl e77 rfl rfl dX9_copyFrom_77 (fun H locs hU hS => ?_)
  refine lv_aload_n X.1 X.2.1 dX9_copyFrom_80 rfl (lv_at hl 0 rfl) ?_
  refine lv_aload_n X.1 X.2.1 dX9_copyFrom_81 rfl (lv_at hl 1 rfl) ?_
  refine k_geto (v := .int (o 0 10)) hne X hU (sW_0 hk2) fl_X9_77 (by rw [ho]; rfl) dX9_copyFrom_82 ?_
  obtain ⟨w85, e85, hf⟩ := k_ltE hf
  refine k_putw X hU hS (sW_0 hk) fp_X9_77 rfl e85 rfl rfl dX9_copyFrom_85 (fun H locs hU hS => ?_)
  refine lv_aload_n X.1 X.2.1 dX9_copyFrom_88 rfl (lv_at hl 0 rfl) ?_
  refine lv_aload_n X.1 X.2.1 dX9_copyFrom_89 rfl (lv_at hl 1 rfl) ?_
  refine k_geto (v := .int (o 0 11)) hne X hU (sW_0 hk2) fl_X9_80 (by rw [ho]; rfl) dX9_copyFrom_90 ?_
  obtain ⟨hi93, hf⟩ := k_ckE hf
  obtain ⟨w93, e93, hf⟩ := k_ltE hf
  refine k_putw X hU hS (sW_0 hk) fp_X9_80 rfl e93 (k_nb hi93) (k_fb hi93) dX9_copyFrom_93 (fun H locs hU hS => ?_)
  refine lv_iconst (v := 0) X.1 X.2.1 dX9_copyFrom_96 (by decide) ?_
  refine lv_istore_n (lv' := [(2, .int 0), (0, .ref (ad k 0)), (1, .ref (ad k2 0))]) X.1 X.2.1 dX9_copyFrom_97 rfl hl (by decide) rfl (fun ls hl => ?_)
  exact L98 k_N _ _ _ w93 0 hU hS (lv_sub hl [1, 2, 0] rfl) hf
def rm_X9_chuteCount : Room := { frames := 0, cells := 0, slots := 0, locals := 0 }
set_option maxRecDepth 100000 in
set_option maxHeartbeats 4000000 in
theorem c_X9_chuteCount {l : Launch} {D : va_G} {G : Nat → ClassId} {ad : Nat → Nat → Nat} {u : k_U} (hI : k_ok ad) {k : Nat} (hk : k_isW k) {w : k_M} (hw : u k = w) {sz : Nat} {r : Int32} (hf : f_X9_chuteCount w = some r) : Met l yX9_chuteCount (.code yX9_chuteCount cX9_chuteCount 1 (some .int) :: lw_g) rm_X9_chuteCount (k_Pre D G ad u sz [.ref (ad k 0)]) (k_Qi D G ad u r sz) 0 0 (k_A ad sz) := by
  refine k_ofW (by decide +kernel) hI (Nat.le_of_ble_eq_true rfl) ?_
  intro p e s m args below meth c X hr hlk hU hS ls hl
  have hl : lv_has ls 1 [(0, .ref (ad k 0))] := hl
  have hU : k_Uv D G ad (k_uc u k w) s.heap := by rw [← hw, k_uc_id]; exact hU
  unfold f_X9_chuteCount at hf
  refine lv_aload_n X.1 X.2.1 dX9_chuteCount_0 rfl (lv_at hl 0 rfl) ?_
  refine k_getw (v := .int (w 0 11)) X hU (sW_0 hk) fl_X9_80 rfl dX9_chuteCount_1 ?_
  refine lv_if_eq (tgt := 16) X.1 X.2.1 dX9_chuteCount_4 (by decide) (fun c4 => ?_) (fun c4 => ?_)
  · replace hf := k_ifP hf c4
    refine lv_aload_n X.1 X.2.1 dX9_chuteCount_16 rfl (lv_at hl 0 rfl) ?_
    refine k_getw (v := .int (w 0 10)) X hU (sW_0 hk) fl_X9_77 rfl dX9_chuteCount_17 ?_
    rw [← hw, k_uc_id] at hU
    have hz := Option.some.inj hf
    subst hz
    exact k_iret (v := w 0 10) X hU hS hr hlk rfl rfl dX9_chuteCount_20
  · replace hf := k_ifN hf c4
    refine lv_aload_n X.1 X.2.1 dX9_chuteCount_7 rfl (lv_at hl 0 rfl) ?_
    refine k_getw (v := .int (w 0 10)) X hU (sW_0 hk) fl_X9_77 rfl dX9_chuteCount_8 ?_
    refine lv_iconst (v := 1) X.1 X.2.1 dX9_chuteCount_11 (by decide) ?_
    refine lv_iadd X.1 X.2.1 dX9_chuteCount_12 ?_
    refine lv_goto (tgt := 20) X.1 X.2.1 dX9_chuteCount_13 (by decide) ?_
    rw [← hw, k_uc_id] at hU
    have hz := Option.some.inj hf
    subst hz
    exact k_iret (v := ((w 0 10) + 1)) X hU hS hr hlk rfl rfl dX9_chuteCount_20
def rm_X9_hasLayer : Room := { frames := 0, cells := 0, slots := 0, locals := 0 }
set_option maxRecDepth 100000 in
set_option maxHeartbeats 4000000 in
theorem c_X9_hasLayer {l : Launch} {D : va_G} {G : Nat → ClassId} {ad : Nat → Nat → Nat} {u : k_U} (hI : k_ok ad) {k : Nat} (hk : k_isW k) {w : k_M} (hw : u k = w) {a1 : Int32} {sz : Nat} {r : Int32} (hf : f_X9_hasLayer w a1 = some r) : Met l yX9_hasLayer (.code yX9_hasLayer cX9_hasLayer 2 (some .boolean) :: lw_g) rm_X9_hasLayer (k_Pre D G ad u sz [.ref (ad k 0), .int a1]) (k_Qi D G ad u r sz) 0 0 (k_A ad sz) := by
  refine k_ofW (by decide +kernel) hI (Nat.le_of_ble_eq_true rfl) ?_
  intro p e s m args below meth c X hr hlk hU hS ls hl
  have hl : lv_has ls 2 [(0, .ref (ad k 0)), (1, .int a1)] := hl
  have hU : k_Uv D G ad (k_uc u k w) s.heap := by rw [← hw, k_uc_id]; exact hU
  unfold f_X9_hasLayer at hf
  refine lv_iload_n X.1 X.2.1 dX9_hasLayer_0 rfl (lv_at hl 1 rfl) ?_
  refine lv_if_lt (tgt := 16) X.1 X.2.1 dX9_hasLayer_1 (by decide) (fun c1 => ?_) (fun c1 => ?_)
  · replace hf := k_ifP hf c1
    refine lv_iconst (v := 0) X.1 X.2.1 dX9_hasLayer_16 (by decide) ?_
    rw [← hw, k_uc_id] at hU
    have hz := Option.some.inj hf
    subst hz
    exact k_iret (v := 0) X hU hS hr hlk rfl rfl dX9_hasLayer_17
  · replace hf := k_ifN hf c1
    refine lv_iload_n X.1 X.2.1 dX9_hasLayer_4 rfl (lv_at hl 1 rfl) ?_
    refine lv_aload_n X.1 X.2.1 dX9_hasLayer_5 rfl (lv_at hl 0 rfl) ?_
    refine k_getw (v := .int (w 0 10)) X hU (sW_0 hk) fl_X9_77 rfl dX9_hasLayer_6 ?_
    refine lv_icmp_ge (tgt := 16) X.1 X.2.1 dX9_hasLayer_9 (by decide) (fun c9 => ?_) (fun c9 => ?_)
    · replace hf := k_ifP hf c9
      refine lv_iconst (v := 0) X.1 X.2.1 dX9_hasLayer_16 (by decide) ?_
      rw [← hw, k_uc_id] at hU
      have hz := Option.some.inj hf
      subst hz
      exact k_iret (v := 0) X hU hS hr hlk rfl rfl dX9_hasLayer_17
    · replace hf := k_ifN hf c9
      refine lv_iconst (v := 1) X.1 X.2.1 dX9_hasLayer_12 (by decide) ?_
      refine lv_goto (tgt := 17) X.1 X.2.1 dX9_hasLayer_13 (by decide) ?_
      rw [← hw, k_uc_id] at hU
      have hz := Option.some.inj hf
      subst hz
      exact k_iret (v := 1) X hU hS hr hlk rfl rfl dX9_hasLayer_17
def rm_X9_hasChute : Room := { frames := 1, cells := 0, slots := 0, locals := 20 }
set_option maxRecDepth 100000 in
set_option maxHeartbeats 4000000 in
theorem c_X9_hasChute {l : Launch} {D : va_G} {G : Nat → ClassId} {ad : Nat → Nat → Nat} {u : k_U} (hI : k_ok ad) {k : Nat} (hk : k_isW k) {w : k_M} (hw : u k = w) {a1 : Int32} {sz : Nat} {r : Int32} (hf : f_X9_hasChute w a1 = some r) : Met l yX9_hasChute (.code yX9_hasChute cX9_hasChute 2 (some .boolean) :: lw_g) rm_X9_hasChute (k_Pre D G ad u sz [.ref (ad k 0), .int a1]) (k_Qi D G ad u r sz) 0 0 (k_A ad sz) := by
  refine k_ofW (by decide +kernel) hI (Nat.le_of_ble_eq_true rfl) ?_
  intro p e s m args below meth c X hr hlk hU hS ls hl
  have hl : lv_has ls 2 [(0, .ref (ad k 0)), (1, .int a1)] := hl
  have hU : k_Uv D G ad (k_uc u k w) s.heap := by rw [← hw, k_uc_id]; exact hU
  unfold f_X9_hasChute at hf
  refine lv_iload_n X.1 X.2.1 dX9_hasChute_0 rfl (lv_at hl 1 rfl) ?_
  refine lv_if_lt (tgt := 16) X.1 X.2.1 dX9_hasChute_1 (by decide) (fun c1 => ?_) (fun c1 => ?_)
  · replace hf := k_ifP hf c1
    refine lv_iconst (v := 0) X.1 X.2.1 dX9_hasChute_16 (by decide) ?_
    rw [← hw, k_uc_id] at hU
    have hz := Option.some.inj hf
    subst hz
    exact k_iret (v := 0) X hU hS hr hlk rfl rfl dX9_hasChute_17
  · replace hf := k_ifN hf c1
    refine lv_iload_n X.1 X.2.1 dX9_hasChute_4 rfl (lv_at hl 1 rfl) ?_
    refine lv_aload_n X.1 X.2.1 dX9_hasChute_5 rfl (lv_at hl 0 rfl) ?_
    obtain ⟨r6, hr6, hf⟩ := k_bdE hf
    refine k_backi X hS (k_runV (As := []) (rest := [.int a1]) X hU (sW_0 hk) (by decide) rfl vl_X9_104 (c_X9_chuteCount X.2.2.2.2.2.2.1 hk (k_uc_s _ _ _) hr6) rfl rfl rfl hl.1 ⟨Nat.le_of_ble_eq_true rfl, Nat.le_of_ble_eq_true rfl⟩ (Nat.le_of_ble_eq_true rfl) dX9_hasChute_6 ⟨Nat.zero_le _, Nat.zero_le _⟩) (fun H locs hU hS => ?_)
    refine lv_icmp_ge (tgt := 16) X.1 X.2.1 dX9_hasChute_9 (by decide) (fun c9 => ?_) (fun c9 => ?_)
    · replace hf := k_ifP hf c9
      refine lv_iconst (v := 0) X.1 X.2.1 dX9_hasChute_16 (by decide) ?_
      rw [← hw, k_uc_id] at hU
      have hz := Option.some.inj hf
      subst hz
      exact k_iret (v := 0) X hU hS hr hlk rfl rfl dX9_hasChute_17
    · replace hf := k_ifN hf c9
      refine lv_iconst (v := 1) X.1 X.2.1 dX9_hasChute_12 (by decide) ?_
      refine lv_goto (tgt := 17) X.1 X.2.1 dX9_hasChute_13 (by decide) ?_
      rw [← hw, k_uc_id] at hU
      have hz := Option.some.inj hf
      subst hz
      exact k_iret (v := 1) X hU hS hr hlk rfl rfl dX9_hasChute_17
def rm_X9_chuteAt : Room := { frames := 1, cells := 0, slots := 0, locals := 21 }
set_option maxRecDepth 100000 in
set_option maxHeartbeats 4000000 in
theorem c_X9_chuteAt {l : Launch} {D : va_G} {G : Nat → ClassId} {ad : Nat → Nat → Nat} {u : k_U} (hI : k_ok ad) {k : Nat} (hk : k_isW k) {w : k_M} (hw : u k = w) {a1 : Int32} {sz : Nat} {r : Nat} (hf : f_X9_chuteAt w a1 = some r) : Met l yX9_chuteAt (.code yX9_chuteAt cX9_chuteAt 2 (some (.object "LayeredChute$Chute")) :: lw_g) rm_X9_chuteAt (k_Pre D G ad u sz [.ref (ad k 0), .int a1]) (k_Qr D G ad u (ad k r) sz) 0 0 (k_A ad sz) := by
  refine k_ofW (by decide +kernel) hI (Nat.le_of_ble_eq_true rfl) ?_
  intro p e s m args below meth c X hr hlk hU hS ls hl
  have hl : lv_has ls 2 [(0, .ref (ad k 0)), (1, .int a1)] := hl
  have hU : k_Uv D G ad (k_uc u k w) s.heap := by rw [← hw, k_uc_id]; exact hU
  unfold f_X9_chuteAt at hf
  refine lv_aload_n X.1 X.2.1 dX9_chuteAt_0 rfl (lv_at hl 0 rfl) ?_
  refine lv_iload_n X.1 X.2.1 dX9_chuteAt_1 rfl (lv_at hl 1 rfl) ?_
  obtain ⟨r2, hr2, hf⟩ := k_bdE hf
  refine k_backi X hS (k_runV (As := [.int a1]) (rest := []) X hU (sW_0 hk) (by decide) rfl vl_X9_108 (c_X9_hasLayer X.2.2.2.2.2.2.1 hk (k_uc_s _ _ _) hr2) rfl rfl rfl hl.1 ⟨Nat.le_of_ble_eq_true rfl, Nat.le_of_ble_eq_true rfl⟩ (Nat.le_of_ble_eq_true rfl) dX9_chuteAt_2 ⟨Nat.zero_le _, Nat.zero_le _⟩) (fun H locs hU hS => ?_)
  refine lv_if_eq (tgt := 17) X.1 X.2.1 dX9_chuteAt_5 (by decide) (fun c5 => ?_) (fun c5 => ?_)
  · replace hf := k_ifP hf c5
    refine lv_aload_n X.1 X.2.1 dX9_chuteAt_17 rfl (lv_at hl 0 rfl) ?_
    refine k_getw (v := .ref (ad k 2)) X hU (sW_0 hk) fl_X9_22 rfl dX9_chuteAt_18 ?_
    rw [← hw, k_uc_id] at hU
    have hz := Option.some.inj hf
    subst hz
    exact k_aret X hU hS hr hlk rfl dX9_chuteAt_21
  · replace hf := k_ifN hf c5
    refine lv_aload_n X.1 X.2.1 dX9_chuteAt_8 rfl (lv_at hl 0 rfl) ?_
    refine k_getw (v := .ref (ad k 1)) X hU (sW_0 hk) fl_X9_17 rfl dX9_chuteAt_9 ?_
    refine lv_iload_n X.1 X.2.1 dX9_chuteAt_12 rfl (lv_at hl 1 rfl) ?_
    obtain ⟨hi13, hf⟩ := k_ckE hf
    have hj13 := (k_vin (n := 8) hi13 (by decide))
    refine k_ald (C := "LayeredChute$Chute") (tag := 23) (t0 := 3) (z := (k, (15 + a1.toNatClampNeg))) X hU (by decide) rfl (sW_1 hk) hj13 (k_rWl_at hj13) dX9_chuteAt_13 ?_
    refine lv_goto (tgt := 21) X.1 X.2.1 dX9_chuteAt_14 (by decide) ?_
    rw [← hw, k_uc_id] at hU
    have hz := Option.some.inj hf
    subst hz
    exact k_aret X hU hS hr hlk rfl dX9_chuteAt_21
def rm_X9_hasLanded : Room := { frames := 0, cells := 0, slots := 0, locals := 0 }
set_option maxRecDepth 100000 in
set_option maxHeartbeats 4000000 in
theorem c_X9_hasLanded {l : Launch} {D : va_G} {G : Nat → ClassId} {ad : Nat → Nat → Nat} {u : k_U} (hI : k_ok ad) {k : Nat} (hk : k_isW k) {w : k_M} (hw : u k = w) {sz : Nat} {r : Int32} (hf : f_X9_hasLanded w = some r) : Met l yX9_hasLanded (.code yX9_hasLanded cX9_hasLanded 1 (some .boolean) :: lw_g) rm_X9_hasLanded (k_Pre D G ad u sz [.ref (ad k 0)]) (k_Qi D G ad u r sz) 0 0 (k_A ad sz) := by
  refine k_ofW (by decide +kernel) hI (Nat.le_of_ble_eq_true rfl) ?_
  intro p e s m args below meth c X hr hlk hU hS ls hl
  have hl : lv_has ls 1 [(0, .ref (ad k 0))] := hl
  have hU : k_Uv D G ad (k_uc u k w) s.heap := by rw [← hw, k_uc_id]; exact hU
  unfold f_X9_hasLanded at hf
  refine lv_aload_n X.1 X.2.1 dX9_hasLanded_0 rfl (lv_at hl 0 rfl) ?_
  refine k_getw (v := .int (w 0 0)) X hU (sW_0 hk) fl_X9_50 rfl dX9_hasLanded_1 ?_
  refine lv_if_ne (tgt := 11) X.1 X.2.1 dX9_hasLanded_4 (by decide) (fun c4 => ?_) (fun c4 => ?_)
  · replace hf := k_ifN hf c4
    refine lv_iconst (v := 0) X.1 X.2.1 dX9_hasLanded_11 (by decide) ?_
    rw [← hw, k_uc_id] at hU
    have hz := Option.some.inj hf
    subst hz
    exact k_iret (v := 0) X hU hS hr hlk rfl rfl dX9_hasLanded_12
  · replace hf := k_ifP hf c4
    refine lv_iconst (v := 1) X.1 X.2.1 dX9_hasLanded_7 (by decide) ?_
    refine lv_goto (tgt := 12) X.1 X.2.1 dX9_hasLanded_8 (by decide) ?_
    rw [← hw, k_uc_id] at hU
    have hz := Option.some.inj hf
    subst hz
    exact k_iret (v := 1) X hU hS hr hlk rfl rfl dX9_hasLanded_12
def rm_X9_air : Room := { frames := 0, cells := 0, slots := 0, locals := 0 }
set_option maxRecDepth 100000 in
set_option maxHeartbeats 4000000 in
theorem c_X9_air {l : Launch} {D : va_G} {G : Nat → ClassId} {ad : Nat → Nat → Nat} {u : k_U} (hI : k_ok ad) {k : Nat} (hk : k_isW k) {w : k_M} (hw : u k = w) {sz : Nat} {r : Int32} (hf : f_X9_air w = some r) : Met l yX9_air (.code yX9_air cX9_air 1 (some .int) :: lw_g) rm_X9_air (k_Pre D G ad u sz [.ref (ad k 0)]) (k_Qi D G ad u r sz) 0 0 (k_A ad sz) := by
  refine k_ofW (by decide +kernel) hI (Nat.le_of_ble_eq_true rfl) ?_
  intro p e s m args below meth c X hr hlk hU hS ls hl
  have hl : lv_has ls 1 [(0, .ref (ad k 0))] := hl
  have hU : k_Uv D G ad (k_uc u k w) s.heap := by rw [← hw, k_uc_id]; exact hU
  unfold f_X9_air at hf
  refine lv_bipush (v := 100) X.1 X.2.1 dX9_air_0 (by decide) ?_
  refine lv_aload_n X.1 X.2.1 dX9_air_2 rfl (lv_at hl 0 rfl) ?_
  refine k_getw (v := .int (w 0 0)) X hU (sW_0 hk) fl_X9_50 rfl dX9_air_3 ?_
  refine lv_sipush (v := 400) X.1 X.2.1 dX9_air_6 (by decide) ?_
  refine lv_idiv X.1 X.2.1 dX9_air_9 (by decide) ?_
  refine lv_isub X.1 X.2.1 dX9_air_10 ?_
  rw [← hw, k_uc_id] at hU
  have hz := Option.some.inj hf
  subst hz
  exact k_iret (v := (100 - ((w 0 0) / 400))) X hU hS hr hlk rfl rfl dX9_air_11
def rm_X9_asksForBrakes : Room := { frames := 1, cells := 0, slots := 0, locals := 24 }
set_option maxRecDepth 100000 in
set_option maxHeartbeats 4000000 in
theorem c_X9_asksForBrakes {l : Launch} {D : va_G} {G : Nat → ClassId} {ad : Nat → Nat → Nat} {u : k_U} (hI : k_ok ad) {k : Nat} (hk : k_isW k) {w : k_M} (hw : u k = w) {sz : Nat} {r : Int32} (hf : f_X9_asksForBrakes w = some r) : Met l yX9_asksForBrakes (.code yX9_asksForBrakes cX9_asksForBrakes 2 (some .boolean) :: lw_g) rm_X9_asksForBrakes (k_Pre D G ad u sz [.ref (ad k 0)]) (k_Qi D G ad u r sz) 0 0 (k_A ad sz) := by
  refine k_ofW (by decide +kernel) hI (Nat.le_of_ble_eq_true rfl) ?_
  intro p e s m args below meth c X hr hlk hU hS ls hl
  have hl : lv_has ls 2 [(0, .ref (ad k 0))] := hl
  have hU : k_Uv D G ad (k_uc u k w) s.heap := by rw [← hw, k_uc_id]; exact hU
  unfold f_X9_asksForBrakes at hf
  refine lv_aload_n X.1 X.2.1 dX9_asksForBrakes_0 rfl (lv_at hl 0 rfl) ?_
  refine k_getw (v := .ref (ad k 3)) X hU (sW_0 hk) fl_X9_29 rfl dX9_asksForBrakes_1 ?_
  refine lv_aload_n X.1 X.2.1 dX9_asksForBrakes_4 rfl (lv_at hl 0 rfl) ?_
  refine k_getw (v := .int (w 0 0)) X hU (sW_0 hk) fl_X9_50 rfl dX9_asksForBrakes_5 ?_
  refine lv_iconst (v := (-1)) X.1 X.2.1 dX9_asksForBrakes_8 (by decide) ?_
  obtain ⟨r9, hr9, hf⟩ := k_bdE hf
  refine k_backi X hS (k_runV (As := [.int (w 0 0), .int (-1)]) (rest := []) X hU (k_sT hk k_isT_3) (by decide) rfl vl_X9_112 (c_X2_valueAtOrAbove X.2.2.2.2.2.2.1 hk (k_uc_s _ _ _) k_isT_3 hr9) rfl rfl rfl hl.1 ⟨Nat.le_of_ble_eq_true rfl, Nat.le_of_ble_eq_true rfl⟩ (Nat.le_of_ble_eq_true rfl) dX9_asksForBrakes_9 ⟨Nat.zero_le _, Nat.zero_le _⟩) (fun H locs hU hS => ?_)
  refine lv_istore_n (lv' := [(1, .int r9), (0, .ref (ad k 0))]) X.1 X.2.1 dX9_asksForBrakes_12 rfl hl (by decide) rfl (fun ls hl => ?_)
  refine lv_iload_n X.1 X.2.1 dX9_asksForBrakes_13 rfl (lv_at hl 0 rfl) ?_
  refine lv_iconst (v := (-1)) X.1 X.2.1 dX9_asksForBrakes_14 (by decide) ?_
  refine lv_icmp_eq (tgt := 30) X.1 X.2.1 dX9_asksForBrakes_15 (by decide) (fun c15 => ?_) (fun c15 => ?_)
  · replace hf := k_ifP hf c15
    refine lv_iconst (v := 0) X.1 X.2.1 dX9_asksForBrakes_30 (by decide) ?_
    rw [← hw, k_uc_id] at hU
    have hz := Option.some.inj hf
    subst hz
    exact k_iret (v := 0) X hU hS hr hlk rfl rfl dX9_asksForBrakes_31
  · replace hf := k_ifN hf c15
    refine lv_aload_n X.1 X.2.1 dX9_asksForBrakes_18 rfl (lv_at hl 1 rfl) ?_
    refine k_getw (v := .int (w 0 1)) X hU (sW_0 hk) fl_X9_53 rfl dX9_asksForBrakes_19 ?_
    refine lv_iload_n X.1 X.2.1 dX9_asksForBrakes_22 rfl (lv_at hl 0 rfl) ?_
    refine lv_icmp_le (tgt := 30) X.1 X.2.1 dX9_asksForBrakes_23 (by decide) (fun c23 => ?_) (fun c23 => ?_)
    · replace hf := k_ifP hf c23
      refine lv_iconst (v := 0) X.1 X.2.1 dX9_asksForBrakes_30 (by decide) ?_
      rw [← hw, k_uc_id] at hU
      have hz := Option.some.inj hf
      subst hz
      exact k_iret (v := 0) X hU hS hr hlk rfl rfl dX9_asksForBrakes_31
    · replace hf := k_ifN hf c23
      refine lv_iconst (v := 1) X.1 X.2.1 dX9_asksForBrakes_26 (by decide) ?_
      refine lv_goto (tgt := 31) X.1 X.2.1 dX9_asksForBrakes_27 (by decide) ?_
      rw [← hw, k_uc_id] at hU
      have hz := Option.some.inj hf
      subst hz
      exact k_iret (v := 1) X hU hS hr hlk rfl rfl dX9_asksForBrakes_31
def rm_X9_openChutes : Room := { frames := 2, cells := 0, slots := 0, locals := 42 }
set_option maxRecDepth 100000 in
set_option maxHeartbeats 4000000 in
theorem c_X9_openChutes {l : Launch} {D : va_G} {G : Nat → ClassId} {ad : Nat → Nat → Nat} {u : k_U} (hI : k_ok ad) {k : Nat} (hk : k_isW k) {w : k_M} (hw : u k = w) {sz : Nat} {r : Int32} (hf : f_X9_openChutes w = some r) : Met l yX9_openChutes (.code yX9_openChutes cX9_openChutes 4 (some .int) :: lw_g) rm_X9_openChutes (k_Pre D G ad u sz [.ref (ad k 0)]) (k_Qi D G ad u r sz) 0 0 (k_A ad sz) := by
  refine k_ofW (by decide +kernel) hI (Nat.le_of_ble_eq_true rfl) ?_
  intro p e s m args below meth c X hr hlk hU hS ls hl
  have hl : lv_has ls 4 [(0, .ref (ad k 0))] := hl
  have hU : k_Uv D G ad (k_uc u k w) s.heap := by rw [← hw, k_uc_id]; exact hU
  have L9 : ∀ (n9 : Nat) (H : Heap) (locs : List Loc) (ls : Array Slot) (a1 : Int32) (a2 : Int32) (a3 : Int32), k_Uv D G ad (k_uc u k w) H → va_S (k_A ad sz) s.heap H locs → lv_has ls 4 [(0, .ref (ad k 0)), (1, .int a1), (2, .int a2), (3, .int a3)] → f_X9_openChutes_9 n9 w a1 a2 a3 = some r → W p l e rm_X9_openChutes s m args below meth c H locs 0 0 (MQ below (k_Qi D G ad u r sz) args s 0 0 (k_A ad sz)) (F0 m 9 ls []) := by
    intro n9
    induction n9 with
    | zero =>
      intro H locs ls a1 a2 a3 hU hS hl hf
      cases (show none = some r from hf)
    | succ n9 ih9 =>
      have J29 : ∀ (H : Heap) (locs : List Loc) (ls : Array Slot) (a1 : Int32) (a2 : Int32) (a3 : Int32), k_Uv D G ad (k_uc u k w) H → va_S (k_A ad sz) s.heap H locs → lv_has ls 4 [(0, .ref (ad k 0)), (1, .int a1), (2, .int a2), (3, .int a3)] → f_X9_openChutes_29 (f_X9_openChutes_9 n9) w a1 a2 a3 = some r → W p l e rm_X9_openChutes s m args below meth c H locs 0 0 (MQ below (k_Qi D G ad u r sz) args s 0 0 (k_A ad sz)) (F0 m 29 ls []) := by
        intro H locs ls a1 a2 a3 hU hS hl hf
        unfold f_X9_openChutes_29 at hf
        obtain ⟨x29, e29, hf⟩ := k_ltE hf
        refine lv_iinc (v := x29) (lv' := [(3, .int x29), (0, .ref (ad k 0)), (1, .int a1), (2, .int a2)]) X.1 X.2.1 dX9_openChutes_29 hl (k := 3) rfl (by rw [e29]; rfl) (by decide) rfl (fun ls hl => ?_)
        refine lv_goto (tgt := 9) X.1 X.2.1 dX9_openChutes_32 (by decide) ?_
        exact ih9 _ _ _ a1 a2 x29 hU hS (lv_sub hl [1, 2, 3, 0] rfl) hf
      intro H locs ls a1 a2 a3 hU hS hl hf
      replace hf : f_X9_openChutes_9_b (f_X9_openChutes_9 n9) w a1 a2 a3 = some r := hf
      unfold f_X9_openChutes_9_b at hf
      refine lv_iload_n X.1 X.2.1 dX9_openChutes_9 rfl (lv_at hl 3 rfl) ?_
      refine lv_iload_n X.1 X.2.1 dX9_openChutes_10 rfl (lv_at hl 2 rfl) ?_
      refine lv_icmp_ge (tgt := 35) X.1 X.2.1 dX9_openChutes_11 (by decide) (fun c11 => ?_) (fun c11 => ?_)
      · replace hf := k_ifP hf c11
        refine lv_iload_n X.1 X.2.1 dX9_openChutes_35 rfl (lv_at hl 1 rfl) ?_
        rw [← hw, k_uc_id] at hU
        have hz := Option.some.inj hf
        subst hz
        exact k_iret (v := a1) X hU hS hr hlk rfl rfl dX9_openChutes_36
      · replace hf := k_ifN hf c11
        refine lv_aload_n X.1 X.2.1 dX9_openChutes_14 rfl (lv_at hl 0 rfl) ?_
        refine lv_iload_n X.1 X.2.1 dX9_openChutes_15 rfl (lv_at hl 3 rfl) ?_
        obtain ⟨r16, hr16, hf⟩ := k_bdE hf
        refine k_backr X hS (k_runV (As := [.int a3]) (rest := []) X hU (sW_0 hk) (by decide) rfl vl_X9_116 (c_X9_chuteAt X.2.2.2.2.2.2.1 hk (k_uc_s _ _ _) hr16) rfl rfl rfl hl.1 ⟨Nat.le_of_ble_eq_true rfl, Nat.le_of_ble_eq_true rfl⟩ (Nat.le_of_ble_eq_true rfl) dX9_openChutes_16 ⟨Nat.zero_le _, Nat.zero_le _⟩) (fun H locs hU hS => ?_)
        obtain ⟨hi16, hf⟩ := k_ckE hf
        refine k_getw (v := .int (w r16 5)) X hU (k_sC hk hi16) fl_X9_120 rfl dX9_openChutes_19 ?_
        refine lv_iconst (v := 1) X.1 X.2.1 dX9_openChutes_22 (by decide) ?_
        refine lv_icmp_ne (tgt := 29) X.1 X.2.1 dX9_openChutes_23 (by decide) (fun c23 => ?_) (fun c23 => ?_)
        · replace hf := k_ifN hf c23
          exact J29 _ _ _ a1 a2 a3 hU hS (lv_sub hl [0, 1, 2, 3] rfl) hf
        · replace hf := k_ifP hf c23
          obtain ⟨x26, e26, hf⟩ := k_ltE hf
          refine lv_iinc (v := x26) (lv' := [(1, .int x26), (0, .ref (ad k 0)), (2, .int a2), (3, .int a3)]) X.1 X.2.1 dX9_openChutes_26 hl (k := 1) rfl (by rw [e26]; rfl) (by decide) rfl (fun ls hl => ?_)
          exact J29 _ _ _ x26 a2 a3 hU hS (lv_sub hl [1, 0, 2, 3] rfl) hf
  unfold f_X9_openChutes at hf
  refine lv_iconst (v := 0) X.1 X.2.1 dX9_openChutes_0 (by decide) ?_
  refine lv_istore_n (lv' := [(1, .int 0), (0, .ref (ad k 0))]) X.1 X.2.1 dX9_openChutes_1 rfl hl (by decide) rfl (fun ls hl => ?_)
  refine lv_aload_n X.1 X.2.1 dX9_openChutes_2 rfl (lv_at hl 1 rfl) ?_
  obtain ⟨r3, hr3, hf⟩ := k_bdE hf
  refine k_backi X hS (k_runV (As := []) (rest := []) X hU (sW_0 hk) (by decide) rfl vl_X9_104 (c_X9_chuteCount X.2.2.2.2.2.2.1 hk (k_uc_s _ _ _) hr3) rfl rfl rfl hl.1 ⟨Nat.le_of_ble_eq_true rfl, Nat.le_of_ble_eq_true rfl⟩ (Nat.le_of_ble_eq_true rfl) dX9_openChutes_3 ⟨Nat.zero_le _, Nat.zero_le _⟩) (fun H locs hU hS => ?_)
  refine lv_istore_n (lv' := [(2, .int r3), (1, .int 0), (0, .ref (ad k 0))]) X.1 X.2.1 dX9_openChutes_6 rfl hl (by decide) rfl (fun ls hl => ?_)
  refine lv_iconst (v := 0) X.1 X.2.1 dX9_openChutes_7 (by decide) ?_
  refine lv_istore_n (lv' := [(3, .int 0), (2, .int r3), (1, .int 0), (0, .ref (ad k 0))]) X.1 X.2.1 dX9_openChutes_8 rfl hl (by decide) rfl (fun ls hl => ?_)
  exact L9 k_N _ _ _ 0 r3 0 hU hS (lv_sub hl [3, 2, 1, 0] rfl) hf
def rm_X9_failedLayers : Room := { frames := 1, cells := 0, slots := 0, locals := 20 }
set_option maxRecDepth 100000 in
set_option maxHeartbeats 4000000 in
theorem c_X9_failedLayers {l : Launch} {D : va_G} {G : Nat → ClassId} {ad : Nat → Nat → Nat} {u : k_U} (hI : k_ok ad) {k : Nat} (hk : k_isW k) {w : k_M} (hw : u k = w) {sz : Nat} {r : Int32} (hf : f_X9_failedLayers w = some r) : Met l yX9_failedLayers (.code yX9_failedLayers cX9_failedLayers 3 (some .int) :: lw_g) rm_X9_failedLayers (k_Pre D G ad u sz [.ref (ad k 0)]) (k_Qi D G ad u r sz) 0 0 (k_A ad sz) := by
  refine k_ofW (by decide +kernel) hI (Nat.le_of_ble_eq_true rfl) ?_
  intro p e s m args below meth c X hr hlk hU hS ls hl
  have hl : lv_has ls 3 [(0, .ref (ad k 0))] := hl
  have hU : k_Uv D G ad (k_uc u k w) s.heap := by rw [← hw, k_uc_id]; exact hU
  have L4 : ∀ (n4 : Nat) (H : Heap) (locs : List Loc) (ls : Array Slot) (a1 : Int32) (a2 : Int32), k_Uv D G ad (k_uc u k w) H → va_S (k_A ad sz) s.heap H locs → lv_has ls 3 [(0, .ref (ad k 0)), (1, .int a1), (2, .int a2)] → f_X9_failedLayers_4 n4 w a1 a2 = some r → W p l e rm_X9_failedLayers s m args below meth c H locs 0 0 (MQ below (k_Qi D G ad u r sz) args s 0 0 (k_A ad sz)) (F0 m 4 ls []) := by
    intro n4
    induction n4 with
    | zero =>
      intro H locs ls a1 a2 hU hS hl hf
      cases (show none = some r from hf)
    | succ n4 ih4 =>
      have J27 : ∀ (H : Heap) (locs : List Loc) (ls : Array Slot) (a1 : Int32) (a2 : Int32), k_Uv D G ad (k_uc u k w) H → va_S (k_A ad sz) s.heap H locs → lv_has ls 3 [(0, .ref (ad k 0)), (1, .int a1), (2, .int a2)] → f_X9_failedLayers_27 (f_X9_failedLayers_4 n4) w a1 a2 = some r → W p l e rm_X9_failedLayers s m args below meth c H locs 0 0 (MQ below (k_Qi D G ad u r sz) args s 0 0 (k_A ad sz)) (F0 m 27 ls []) := by
        intro H locs ls a1 a2 hU hS hl hf
        unfold f_X9_failedLayers_27 at hf
        obtain ⟨x27, e27, hf⟩ := k_ltE hf
        refine lv_iinc (v := x27) (lv' := [(2, .int x27), (0, .ref (ad k 0)), (1, .int a1)]) X.1 X.2.1 dX9_failedLayers_27 hl (k := 2) rfl (by rw [e27]; rfl) (by decide) rfl (fun ls hl => ?_)
        refine lv_goto (tgt := 4) X.1 X.2.1 dX9_failedLayers_30 (by decide) ?_
        exact ih4 _ _ _ a1 x27 hU hS (lv_sub hl [1, 2, 0] rfl) hf
      intro H locs ls a1 a2 hU hS hl hf
      replace hf : f_X9_failedLayers_4_b (f_X9_failedLayers_4 n4) w a1 a2 = some r := hf
      unfold f_X9_failedLayers_4_b at hf
      refine lv_iload_n X.1 X.2.1 dX9_failedLayers_4 rfl (lv_at hl 2 rfl) ?_
      refine lv_aload_n X.1 X.2.1 dX9_failedLayers_5 rfl (lv_at hl 0 rfl) ?_
      refine k_getw (v := .int (w 0 10)) X hU (sW_0 hk) fl_X9_77 rfl dX9_failedLayers_6 ?_
      refine lv_icmp_ge (tgt := 33) X.1 X.2.1 dX9_failedLayers_9 (by decide) (fun c9 => ?_) (fun c9 => ?_)
      · replace hf := k_ifP hf c9
        refine lv_iload_n X.1 X.2.1 dX9_failedLayers_33 rfl (lv_at hl 1 rfl) ?_
        rw [← hw, k_uc_id] at hU
        have hz := Option.some.inj hf
        subst hz
        exact k_iret (v := a1) X hU hS hr hlk rfl rfl dX9_failedLayers_34
      · replace hf := k_ifN hf c9
        refine lv_aload_n X.1 X.2.1 dX9_failedLayers_12 rfl (lv_at hl 0 rfl) ?_
        refine k_getw (v := .ref (ad k 1)) X hU (sW_0 hk) fl_X9_17 rfl dX9_failedLayers_13 ?_
        refine lv_iload_n X.1 X.2.1 dX9_failedLayers_16 rfl (lv_at hl 2 rfl) ?_
        obtain ⟨hi17, hf⟩ := k_ckE hf
        have hj17 := (k_vin (n := 8) hi17 (by decide))
        refine k_ald (C := "LayeredChute$Chute") (tag := 23) (t0 := 3) (z := (k, (15 + a2.toNatClampNeg))) X hU (by decide) rfl (sW_1 hk) hj17 (k_rWl_at hj17) dX9_failedLayers_17 ?_
        obtain ⟨r18, hr18, hf⟩ := k_bdE hf
        refine k_backi X hS (k_runV (As := []) (rest := []) X hU (k_sC hk (k_isC_l (k_vlt hj17))) (by decide) rfl vl_X9_123 (c_X0_hasFailed X.2.2.2.2.2.2.1 hk (k_uc_s _ _ _) (k_isC_l (k_vlt hj17)) hr18) rfl rfl rfl hl.1 ⟨Nat.le_of_ble_eq_true rfl, Nat.le_of_ble_eq_true rfl⟩ (Nat.le_of_ble_eq_true rfl) dX9_failedLayers_18 ⟨Nat.zero_le _, Nat.zero_le _⟩) (fun H locs hU hS => ?_)
        refine lv_if_eq (tgt := 27) X.1 X.2.1 dX9_failedLayers_21 (by decide) (fun c21 => ?_) (fun c21 => ?_)
        · replace hf := k_ifP hf c21
          exact J27 _ _ _ a1 a2 hU hS (lv_sub hl [0, 1, 2] rfl) hf
        · replace hf := k_ifN hf c21
          obtain ⟨x24, e24, hf⟩ := k_ltE hf
          refine lv_iinc (v := x24) (lv' := [(1, .int x24), (0, .ref (ad k 0)), (2, .int a2)]) X.1 X.2.1 dX9_failedLayers_24 hl (k := 1) rfl (by rw [e24]; rfl) (by decide) rfl (fun ls hl => ?_)
          exact J27 _ _ _ x24 a2 hU hS (lv_sub hl [1, 0, 2] rfl) hf
  unfold f_X9_failedLayers at hf
  refine lv_iconst (v := 0) X.1 X.2.1 dX9_failedLayers_0 (by decide) ?_
  refine lv_istore_n (lv' := [(1, .int 0), (0, .ref (ad k 0))]) X.1 X.2.1 dX9_failedLayers_1 rfl hl (by decide) rfl (fun ls hl => ?_)
  refine lv_iconst (v := 0) X.1 X.2.1 dX9_failedLayers_2 (by decide) ?_
  refine lv_istore_n (lv' := [(2, .int 0), (1, .int 0), (0, .ref (ad k 0))]) X.1 X.2.1 dX9_failedLayers_3 rfl hl (by decide) rfl (fun ls hl => ?_)
  exact L4 k_N _ _ _ 0 0 hU hS (lv_sub hl [2, 1, 0] rfl) hf
def rm_X9_packedJammedLayers : Room := { frames := 0, cells := 0, slots := 0, locals := 0 }
set_option maxRecDepth 100000 in
set_option maxHeartbeats 4000000 in
theorem c_X9_packedJammedLayers {l : Launch} {D : va_G} {G : Nat → ClassId} {ad : Nat → Nat → Nat} {u : k_U} (hI : k_ok ad) {k : Nat} (hk : k_isW k) {w : k_M} (hw : u k = w) {sz : Nat} {r : Int32} (hf : f_X9_packedJammedLayers w = some r) : Met l yX9_packedJammedLayers (.code yX9_packedJammedLayers cX9_packedJammedLayers 3 (some .int) :: lw_g) rm_X9_packedJammedLayers (k_Pre D G ad u sz [.ref (ad k 0)]) (k_Qi D G ad u r sz) 0 0 (k_A ad sz) := by
  refine k_ofW (by decide +kernel) hI (Nat.le_of_ble_eq_true rfl) ?_
  intro p e s m args below meth c X hr hlk hU hS ls hl
  have hl : lv_has ls 3 [(0, .ref (ad k 0))] := hl
  have hU : k_Uv D G ad (k_uc u k w) s.heap := by rw [← hw, k_uc_id]; exact hU
  have L4 : ∀ (n4 : Nat) (H : Heap) (locs : List Loc) (ls : Array Slot) (a1 : Int32) (a2 : Int32), k_Uv D G ad (k_uc u k w) H → va_S (k_A ad sz) s.heap H locs → lv_has ls 3 [(0, .ref (ad k 0)), (1, .int a1), (2, .int a2)] → f_X9_packedJammedLayers_4 n4 w a1 a2 = some r → W p l e rm_X9_packedJammedLayers s m args below meth c H locs 0 0 (MQ below (k_Qi D G ad u r sz) args s 0 0 (k_A ad sz)) (F0 m 4 ls []) := by
    intro n4
    induction n4 with
    | zero =>
      intro H locs ls a1 a2 hU hS hl hf
      cases (show none = some r from hf)
    | succ n4 ih4 =>
      have J39 : ∀ (H : Heap) (locs : List Loc) (ls : Array Slot) (a1 : Int32) (a2 : Int32), k_Uv D G ad (k_uc u k w) H → va_S (k_A ad sz) s.heap H locs → lv_has ls 3 [(0, .ref (ad k 0)), (1, .int a1), (2, .int a2)] → f_X9_packedJammedLayers_39 (f_X9_packedJammedLayers_4 n4) w a1 a2 = some r → W p l e rm_X9_packedJammedLayers s m args below meth c H locs 0 0 (MQ below (k_Qi D G ad u r sz) args s 0 0 (k_A ad sz)) (F0 m 39 ls []) := by
        intro H locs ls a1 a2 hU hS hl hf
        unfold f_X9_packedJammedLayers_39 at hf
        obtain ⟨x39, e39, hf⟩ := k_ltE hf
        refine lv_iinc (v := x39) (lv' := [(2, .int x39), (0, .ref (ad k 0)), (1, .int a1)]) X.1 X.2.1 dX9_packedJammedLayers_39 hl (k := 2) rfl (by rw [e39]; rfl) (by decide) rfl (fun ls hl => ?_)
        refine lv_goto (tgt := 4) X.1 X.2.1 dX9_packedJammedLayers_42 (by decide) ?_
        exact ih4 _ _ _ a1 x39 hU hS (lv_sub hl [1, 2, 0] rfl) hf
      intro H locs ls a1 a2 hU hS hl hf
      replace hf : f_X9_packedJammedLayers_4_b (f_X9_packedJammedLayers_4 n4) w a1 a2 = some r := hf
      unfold f_X9_packedJammedLayers_4_b at hf
      refine lv_iload_n X.1 X.2.1 dX9_packedJammedLayers_4 rfl (lv_at hl 2 rfl) ?_
      refine lv_aload_n X.1 X.2.1 dX9_packedJammedLayers_5 rfl (lv_at hl 0 rfl) ?_
      refine k_getw (v := .int (w 0 10)) X hU (sW_0 hk) fl_X9_77 rfl dX9_packedJammedLayers_6 ?_
      refine lv_icmp_ge (tgt := 45) X.1 X.2.1 dX9_packedJammedLayers_9 (by decide) (fun c9 => ?_) (fun c9 => ?_)
      · replace hf := k_ifP hf c9
        refine lv_iload_n X.1 X.2.1 dX9_packedJammedLayers_45 rfl (lv_at hl 1 rfl) ?_
        rw [← hw, k_uc_id] at hU
        have hz := Option.some.inj hf
        subst hz
        exact k_iret (v := a1) X hU hS hr hlk rfl rfl dX9_packedJammedLayers_46
      · replace hf := k_ifN hf c9
        refine lv_aload_n X.1 X.2.1 dX9_packedJammedLayers_12 rfl (lv_at hl 0 rfl) ?_
        refine k_getw (v := .ref (ad k 1)) X hU (sW_0 hk) fl_X9_17 rfl dX9_packedJammedLayers_13 ?_
        refine lv_iload_n X.1 X.2.1 dX9_packedJammedLayers_16 rfl (lv_at hl 2 rfl) ?_
        obtain ⟨hi17, hf⟩ := k_ckE hf
        have hj17 := (k_vin (n := 8) hi17 (by decide))
        refine k_ald (C := "LayeredChute$Chute") (tag := 23) (t0 := 3) (z := (k, (15 + a2.toNatClampNeg))) X hU (by decide) rfl (sW_1 hk) hj17 (k_rWl_at hj17) dX9_packedJammedLayers_17 ?_
        refine k_getw (v := .int (w (15 + a2.toNatClampNeg) 5)) X hU (k_sC hk (k_isC_l (k_vlt hj17))) fl_X9_120 rfl dX9_packedJammedLayers_18 ?_
        refine lv_if_ne (tgt := 39) X.1 X.2.1 dX9_packedJammedLayers_21 (by decide) (fun c21 => ?_) (fun c21 => ?_)
        · replace hf := k_ifN hf c21
          exact J39 _ _ _ a1 a2 hU hS (lv_sub hl [0, 1, 2] rfl) hf
        · replace hf := k_ifP hf c21
          refine lv_aload_n X.1 X.2.1 dX9_packedJammedLayers_24 rfl (lv_at hl 0 rfl) ?_
          refine k_getw (v := .ref (ad k 1)) X hU (sW_0 hk) fl_X9_17 rfl dX9_packedJammedLayers_25 ?_
          refine lv_iload_n X.1 X.2.1 dX9_packedJammedLayers_28 rfl (lv_at hl 2 rfl) ?_
          obtain ⟨hi29, hf⟩ := k_ckE hf
          have hj29 := (k_vin (n := 8) hi29 (by decide))
          refine k_ald (C := "LayeredChute$Chute") (tag := 23) (t0 := 3) (z := (k, (15 + a2.toNatClampNeg))) X hU (by decide) rfl (sW_1 hk) hj29 (k_rWl_at hj29) dX9_packedJammedLayers_29 ?_
          refine k_getw (v := .int (w (15 + a2.toNatClampNeg) 6)) X hU (k_sC hk (k_isC_l (k_vlt hj29))) fl_X9_127 rfl dX9_packedJammedLayers_30 ?_
          refine lv_if_eq (tgt := 39) X.1 X.2.1 dX9_packedJammedLayers_33 (by decide) (fun c33 => ?_) (fun c33 => ?_)
          · replace hf := k_ifP hf c33
            exact J39 _ _ _ a1 a2 hU hS (lv_sub hl [0, 1, 2] rfl) hf
          · replace hf := k_ifN hf c33
            obtain ⟨x36, e36, hf⟩ := k_ltE hf
            refine lv_iinc (v := x36) (lv' := [(1, .int x36), (0, .ref (ad k 0)), (2, .int a2)]) X.1 X.2.1 dX9_packedJammedLayers_36 hl (k := 1) rfl (by rw [e36]; rfl) (by decide) rfl (fun ls hl => ?_)
            exact J39 _ _ _ x36 a2 hU hS (lv_sub hl [1, 0, 2] rfl) hf
  unfold f_X9_packedJammedLayers at hf
  refine lv_iconst (v := 0) X.1 X.2.1 dX9_packedJammedLayers_0 (by decide) ?_
  refine lv_istore_n (lv' := [(1, .int 0), (0, .ref (ad k 0))]) X.1 X.2.1 dX9_packedJammedLayers_1 rfl hl (by decide) rfl (fun ls hl => ?_)
  refine lv_iconst (v := 0) X.1 X.2.1 dX9_packedJammedLayers_2 (by decide) ?_
  refine lv_istore_n (lv' := [(2, .int 0), (1, .int 0), (0, .ref (ad k 0))]) X.1 X.2.1 dX9_packedJammedLayers_3 rfl hl (by decide) rfl (fun ls hl => ?_)
  exact L4 k_N _ _ _ 0 0 hU hS (lv_sub hl [2, 1, 0] rfl) hf
def rm_X9_countLines : Room := { frames := 2, cells := 0, slots := 0, locals := 42 }
set_option maxRecDepth 100000 in
set_option maxHeartbeats 4000000 in
theorem c_X9_countLines {l : Launch} {D : va_G} {G : Nat → ClassId} {ad : Nat → Nat → Nat} {u : k_U} (hI : k_ok ad) {k : Nat} (hk : k_isW k) {w : k_M} (hw : u k = w) {a1 : Int32} {sz : Nat} {r : Int32} (hf : f_X9_countLines w a1 = some r) : Met l yX9_countLines (.code yX9_countLines cX9_countLines 8 (some .int) :: lw_g) rm_X9_countLines (k_Pre D G ad u sz [.ref (ad k 0), .int a1]) (k_Qi D G ad u r sz) 0 0 (k_A ad sz) := by
  refine k_ofW (by decide +kernel) hI (Nat.le_of_ble_eq_true rfl) ?_
  intro p e s m args below meth c X hr hlk hU hS ls hl
  have hl : lv_has ls 8 [(0, .ref (ad k 0)), (1, .int a1)] := hl
  have hU : k_Uv D G ad (k_uc u k w) s.heap := by rw [← hw, k_uc_id]; exact hU
  have L16 : ∀ (n16 : Nat) (H : Heap) (locs : List Loc) (ls : Array Slot) (a1 : Int32) (a2 : Int32) (a3 : Int32) (a4 : Int32) (a5 : Int32) (a6 : Int32), k_Uv D G ad (k_uc u k w) H → va_S (k_A ad sz) s.heap H locs → lv_has ls 8 [(0, .ref (ad k 0)), (1, .int a1), (2, .int a2), (3, .int a3), (4, .int a4), (5, .int a5), (6, .int a6)] → f_X9_countLines_16 n16 w a1 a2 a3 a4 a5 a6 = some r → W p l e rm_X9_countLines s m args below meth c H locs 0 0 (MQ below (k_Qi D G ad u r sz) args s 0 0 (k_A ad sz)) (F0 m 16 ls []) := by
    intro n16
    induction n16 with
    | zero =>
      intro H locs ls a1 a2 a3 a4 a5 a6 hU hS hl hf
      cases (show none = some r from hf)
    | succ n16 ih16 =>
      have J66 : ∀ (H : Heap) (locs : List Loc) (ls : Array Slot) (a1 : Int32) (a2 : Int32) (a3 : Int32) (a4 : Int32) (a5 : Int32) (a6 : Int32), k_Uv D G ad (k_uc u k w) H → va_S (k_A ad sz) s.heap H locs → lv_has ls 8 [(0, .ref (ad k 0)), (1, .int a1), (2, .int a2), (3, .int a3), (4, .int a4), (5, .int a5), (6, .int a6)] → f_X9_countLines_66 (f_X9_countLines_16 n16) w a1 a2 a3 a4 a5 a6 = some r → W p l e rm_X9_countLines s m args below meth c H locs 0 0 (MQ below (k_Qi D G ad u r sz) args s 0 0 (k_A ad sz)) (F0 m 66 ls []) := by
        intro H locs ls a1 a2 a3 a4 a5 a6 hU hS hl hf
        unfold f_X9_countLines_66 at hf
        obtain ⟨x66, e66, hf⟩ := k_ltE hf
        refine lv_iinc (v := x66) (lv' := [(6, .int x66), (0, .ref (ad k 0)), (1, .int a1), (2, .int a2), (3, .int a3), (4, .int a4), (5, .int a5)]) X.1 X.2.1 dX9_countLines_66 hl (k := 6) rfl (by rw [e66]; rfl) (by decide) rfl (fun ls hl => ?_)
        refine lv_goto (tgt := 16) X.1 X.2.1 dX9_countLines_69 (by decide) ?_
        exact ih16 _ _ _ a1 a2 a3 a4 a5 x66 hU hS (lv_sub hl [1, 2, 3, 4, 5, 6, 0] rfl) hf
      intro H locs ls a1 a2 a3 a4 a5 a6 hU hS hl hf
      replace hf : f_X9_countLines_16_b (f_X9_countLines_16 n16) w a1 a2 a3 a4 a5 a6 = some r := hf
      unfold f_X9_countLines_16_b at hf
      refine lv_iload X.1 X.2.1 dX9_countLines_16 (lv_at hl 6 rfl) ?_
      refine lv_iload X.1 X.2.1 dX9_countLines_18 (lv_at hl 5 rfl) ?_
      refine lv_icmp_ge (tgt := 72) X.1 X.2.1 dX9_countLines_20 (by decide) (fun c20 => ?_) (fun c20 => ?_)
      · replace hf := k_ifP hf c20
        refine lv_iload_n X.1 X.2.1 dX9_countLines_72 rfl (lv_at hl 1 rfl) ?_
        by_cases c73_10 : a1 = 10
        · replace hf := k_ifP hf c73_10
          refine lv_tableIn (x := a1) (off := 27) (tgt := 100) X.1 X.2.1 dX9_countLines_73 (by rw [c73_10]; decide) (by rw [c73_10]; decide) (by rw [c73_10]; rfl) (by decide) ?_
          refine lv_iload_n X.1 X.2.1 dX9_countLines_100 rfl (lv_at hl 2 rfl) ?_
          rw [← hw, k_uc_id] at hU
          have hz := Option.some.inj hf
          subst hz
          exact k_iret (v := a2) X hU hS hr hlk rfl rfl dX9_countLines_101
        replace hf := k_ifN hf c73_10
        by_cases c73_11 : a1 = 11
        · replace hf := k_ifP hf c73_11
          refine lv_tableIn (x := a1) (off := 29) (tgt := 102) X.1 X.2.1 dX9_countLines_73 (by rw [c73_11]; decide) (by rw [c73_11]; decide) (by rw [c73_11]; rfl) (by decide) ?_
          refine lv_iload_n X.1 X.2.1 dX9_countLines_102 rfl (lv_at hl 2 rfl) ?_
          refine lv_iload_n X.1 X.2.1 dX9_countLines_103 rfl (lv_at hl 3 rfl) ?_
          refine lv_isub X.1 X.2.1 dX9_countLines_104 ?_
          refine lv_iload X.1 X.2.1 dX9_countLines_105 (lv_at hl 4 rfl) ?_
          refine lv_isub X.1 X.2.1 dX9_countLines_107 ?_
          rw [← hw, k_uc_id] at hU
          have hz := Option.some.inj hf
          subst hz
          exact k_iret (v := ((a2 - a3) - a4)) X hU hS hr hlk rfl rfl dX9_countLines_108
        replace hf := k_ifN hf c73_11
        by_cases c73_12 : a1 = 12
        · replace hf := k_ifP hf c73_12
          refine lv_tableIn (x := a1) (off := 36) (tgt := 109) X.1 X.2.1 dX9_countLines_73 (by rw [c73_12]; decide) (by rw [c73_12]; decide) (by rw [c73_12]; rfl) (by decide) ?_
          refine lv_iload_n X.1 X.2.1 dX9_countLines_109 rfl (lv_at hl 3 rfl) ?_
          rw [← hw, k_uc_id] at hU
          have hz := Option.some.inj hf
          subst hz
          exact k_iret (v := a3) X hU hS hr hlk rfl rfl dX9_countLines_110
        replace hf := k_ifN hf c73_12
        have ho73 : (a1).toInt < 10 ∨ 12 < (a1).toInt := by
          have g10 := k_tne (n := 10) (z := 10) c73_10 (by decide)
          have g11 := k_tne (n := 11) (z := 11) c73_11 (by decide)
          have g12 := k_tne (n := 12) (z := 12) c73_12 (by decide)
          omega
        refine lv_tableOut (x := a1) (tgt := 111) X.1 X.2.1 dX9_countLines_73 ho73 (by decide) ?_
        refine lv_iload X.1 X.2.1 dX9_countLines_111 (lv_at hl 4 rfl) ?_
        rw [← hw, k_uc_id] at hU
        have hz := Option.some.inj hf
        subst hz
        exact k_iret (v := a4) X hU hS hr hlk rfl rfl dX9_countLines_113
      · replace hf := k_ifN hf c20
        refine lv_aload_n X.1 X.2.1 dX9_countLines_23 rfl (lv_at hl 0 rfl) ?_
        refine lv_iload X.1 X.2.1 dX9_countLines_24 (lv_at hl 6 rfl) ?_
        obtain ⟨r26, hr26, hf⟩ := k_bdE hf
        refine k_backr X hS (k_runV (As := [.int a6]) (rest := []) X hU (sW_0 hk) (by decide) rfl vl_X9_116 (c_X9_chuteAt X.2.2.2.2.2.2.1 hk (k_uc_s _ _ _) hr26) rfl rfl rfl hl.1 ⟨Nat.le_of_ble_eq_true rfl, Nat.le_of_ble_eq_true rfl⟩ (Nat.le_of_ble_eq_true rfl) dX9_countLines_26 ⟨Nat.zero_le _, Nat.zero_le _⟩) (fun H locs hU hS => ?_)
        obtain ⟨hi26, hf⟩ := k_ckE hf
        refine lv_astore (lv' := [(7, .ref (ad k r26)), (0, .ref (ad k 0)), (1, .int a1), (2, .int a2), (3, .int a3), (4, .int a4), (5, .int a5), (6, .int a6)]) X.1 X.2.1 dX9_countLines_29 hl (by decide) rfl (fun ls hl => ?_)
        refine lv_iload_n X.1 X.2.1 dX9_countLines_31 rfl (lv_at hl 3 rfl) ?_
        refine lv_aload X.1 X.2.1 dX9_countLines_32 (lv_at hl 0 rfl) ?_
        refine k_getw (v := .int (w r26 1)) X hU (k_sC hk hi26) fl_X9_130 rfl dX9_countLines_34 ?_
        refine lv_iadd X.1 X.2.1 dX9_countLines_37 ?_
        obtain ⟨x38, e38, hf⟩ := k_ltE hf
        refine k_nmi e38 ?_
        refine lv_istore_n (lv' := [(2, .int x38), (7, .ref (ad k r26)), (0, .ref (ad k 0)), (1, .int a1), (3, .int a3), (4, .int a4), (5, .int a5), (6, .int a6)]) X.1 X.2.1 dX9_countLines_38 rfl hl (by decide) rfl (fun ls hl => ?_)
        refine lv_iload_n X.1 X.2.1 dX9_countLines_39 rfl (lv_at hl 4 rfl) ?_
        refine lv_aload X.1 X.2.1 dX9_countLines_40 (lv_at hl 1 rfl) ?_
        refine k_getw (v := .int (w r26 7)) X hU (k_sC hk hi26) fl_X9_133 rfl dX9_countLines_42 ?_
        refine lv_iadd X.1 X.2.1 dX9_countLines_45 ?_
        obtain ⟨x46, e46, hf⟩ := k_ltE hf
        refine k_nmi e46 ?_
        refine lv_istore_n (lv' := [(3, .int x46), (2, .int x38), (7, .ref (ad k r26)), (0, .ref (ad k 0)), (1, .int a1), (4, .int a4), (5, .int a5), (6, .int a6)]) X.1 X.2.1 dX9_countLines_46 rfl hl (by decide) rfl (fun ls hl => ?_)
        refine lv_aload X.1 X.2.1 dX9_countLines_47 (lv_at hl 2 rfl) ?_
        refine k_getw (v := .int (w r26 5)) X hU (k_sC hk hi26) fl_X9_120 rfl dX9_countLines_49 ?_
        refine lv_iconst (v := 4) X.1 X.2.1 dX9_countLines_52 (by decide) ?_
        refine lv_icmp_ne (tgt := 66) X.1 X.2.1 dX9_countLines_53 (by decide) (fun c53 => ?_) (fun c53 => ?_)
        · replace hf := k_ifN hf c53
          exact J66 _ _ _ a1 x38 x46 a4 a5 a6 hU hS (lv_sub hl [3, 4, 1, 0, 5, 6, 7] rfl) hf
        · replace hf := k_ifP hf c53
          refine lv_iload X.1 X.2.1 dX9_countLines_56 (lv_at hl 5 rfl) ?_
          refine lv_aload X.1 X.2.1 dX9_countLines_58 (lv_at hl 2 rfl) ?_
          obtain ⟨r60, hr60, hf⟩ := k_bdE hf
          refine k_backi X hS (k_runV (As := []) (rest := [.int a4]) X hU (k_sC hk hi26) (by decide) rfl vl_X9_136 (c_X0_linesThere X.2.2.2.2.2.2.1 hk (k_uc_s _ _ _) hi26 hr60) rfl rfl rfl hl.1 ⟨Nat.le_of_ble_eq_true rfl, Nat.le_of_ble_eq_true rfl⟩ (Nat.le_of_ble_eq_true rfl) dX9_countLines_60 ⟨Nat.zero_le _, Nat.zero_le _⟩) (fun H locs hU hS => ?_)
          refine lv_iadd X.1 X.2.1 dX9_countLines_63 ?_
          obtain ⟨x64, e64, hf⟩ := k_ltE hf
          refine k_nmi e64 ?_
          refine lv_istore (lv' := [(4, .int x64), (3, .int x46), (2, .int x38), (7, .ref (ad k r26)), (0, .ref (ad k 0)), (1, .int a1), (5, .int a5), (6, .int a6)]) X.1 X.2.1 dX9_countLines_64 hl (by decide) rfl (fun ls hl => ?_)
          exact J66 _ _ _ a1 x38 x46 x64 a5 a6 hU hS (lv_sub hl [4, 5, 2, 1, 0, 6, 7] rfl) hf
  unfold f_X9_countLines at hf
  refine lv_iconst (v := 0) X.1 X.2.1 dX9_countLines_0 (by decide) ?_
  refine lv_istore_n (lv' := [(2, .int 0), (0, .ref (ad k 0)), (1, .int a1)]) X.1 X.2.1 dX9_countLines_1 rfl hl (by decide) rfl (fun ls hl => ?_)
  refine lv_iconst (v := 0) X.1 X.2.1 dX9_countLines_2 (by decide) ?_
  refine lv_istore_n (lv' := [(3, .int 0), (2, .int 0), (0, .ref (ad k 0)), (1, .int a1)]) X.1 X.2.1 dX9_countLines_3 rfl hl (by decide) rfl (fun ls hl => ?_)
  refine lv_iconst (v := 0) X.1 X.2.1 dX9_countLines_4 (by decide) ?_
  refine lv_istore (lv' := [(4, .int 0), (3, .int 0), (2, .int 0), (0, .ref (ad k 0)), (1, .int a1)]) X.1 X.2.1 dX9_countLines_5 hl (by decide) rfl (fun ls hl => ?_)
  refine lv_aload_n X.1 X.2.1 dX9_countLines_7 rfl (lv_at hl 3 rfl) ?_
  obtain ⟨r8, hr8, hf⟩ := k_bdE hf
  refine k_backi X hS (k_runV (As := []) (rest := []) X hU (sW_0 hk) (by decide) rfl vl_X9_104 (c_X9_chuteCount X.2.2.2.2.2.2.1 hk (k_uc_s _ _ _) hr8) rfl rfl rfl hl.1 ⟨Nat.le_of_ble_eq_true rfl, Nat.le_of_ble_eq_true rfl⟩ (Nat.le_of_ble_eq_true rfl) dX9_countLines_8 ⟨Nat.zero_le _, Nat.zero_le _⟩) (fun H locs hU hS => ?_)
  refine lv_istore (lv' := [(5, .int r8), (4, .int 0), (3, .int 0), (2, .int 0), (0, .ref (ad k 0)), (1, .int a1)]) X.1 X.2.1 dX9_countLines_11 hl (by decide) rfl (fun ls hl => ?_)
  refine lv_iconst (v := 0) X.1 X.2.1 dX9_countLines_13 (by decide) ?_
  refine lv_istore (lv' := [(6, .int 0), (5, .int r8), (4, .int 0), (3, .int 0), (2, .int 0), (0, .ref (ad k 0)), (1, .int a1)]) X.1 X.2.1 dX9_countLines_14 hl (by decide) rfl (fun ls hl => ?_)
  exact L16 k_N _ _ _ a1 0 0 0 r8 0 hU hS (lv_sub hl [5, 6, 4, 3, 2, 1, 0] rfl) hf
def rm_X9_firstLayerThatMayOpen : Room := { frames := 1, cells := 0, slots := 0, locals := 21 }
set_option maxRecDepth 100000 in
set_option maxHeartbeats 4000000 in
theorem c_X9_firstLayerThatMayOpen {l : Launch} {D : va_G} {G : Nat → ClassId} {ad : Nat → Nat → Nat} {u : k_U} (hI : k_ok ad) {k : Nat} (hk : k_isW k) {w : k_M} (hw : u k = w) {sz : Nat} {r : Int32} (hf : f_X9_firstLayerThatMayOpen w = some r) : Met l yX9_firstLayerThatMayOpen (.code yX9_firstLayerThatMayOpen cX9_firstLayerThatMayOpen 2 (some .int) :: lw_g) rm_X9_firstLayerThatMayOpen (k_Pre D G ad u sz [.ref (ad k 0)]) (k_Qi D G ad u r sz) 0 0 (k_A ad sz) := by
  refine k_ofW (by decide +kernel) hI (Nat.le_of_ble_eq_true rfl) ?_
  intro p e s m args below meth c X hr hlk hU hS ls hl
  have hl : lv_has ls 2 [(0, .ref (ad k 0))] := hl
  have hU : k_Uv D G ad (k_uc u k w) s.heap := by rw [← hw, k_uc_id]; exact hU
  have L2 : ∀ (n2 : Nat) (H : Heap) (locs : List Loc) (ls : Array Slot) (a1 : Int32), k_Uv D G ad (k_uc u k w) H → va_S (k_A ad sz) s.heap H locs → lv_has ls 2 [(0, .ref (ad k 0)), (1, .int a1)] → f_X9_firstLayerThatMayOpen_2 n2 w a1 = some r → W p l e rm_X9_firstLayerThatMayOpen s m args below meth c H locs 0 0 (MQ below (k_Qi D G ad u r sz) args s 0 0 (k_A ad sz)) (F0 m 2 ls []) := by
    intro n2
    induction n2 with
    | zero =>
      intro H locs ls a1 hU hS hl hf
      cases (show none = some r from hf)
    | succ n2 ih2 =>
      have J44 : ∀ (H : Heap) (locs : List Loc) (ls : Array Slot) (a1 : Int32), k_Uv D G ad (k_uc u k w) H → va_S (k_A ad sz) s.heap H locs → lv_has ls 2 [(0, .ref (ad k 0)), (1, .int a1)] → f_X9_firstLayerThatMayOpen_44 (f_X9_firstLayerThatMayOpen_2 n2) w a1 = some r → W p l e rm_X9_firstLayerThatMayOpen s m args below meth c H locs 0 0 (MQ below (k_Qi D G ad u r sz) args s 0 0 (k_A ad sz)) (F0 m 44 ls []) := by
        intro H locs ls a1 hU hS hl hf
        unfold f_X9_firstLayerThatMayOpen_44 at hf
        obtain ⟨x44, e44, hf⟩ := k_ltE hf
        refine lv_iinc (v := x44) (lv' := [(1, .int x44), (0, .ref (ad k 0))]) X.1 X.2.1 dX9_firstLayerThatMayOpen_44 hl (k := 1) rfl (by rw [e44]; rfl) (by decide) rfl (fun ls hl => ?_)
        refine lv_goto (tgt := 2) X.1 X.2.1 dX9_firstLayerThatMayOpen_47 (by decide) ?_
        exact ih2 _ _ _ x44 hU hS (lv_sub hl [1, 0] rfl) hf
      intro H locs ls a1 hU hS hl hf
      replace hf : f_X9_firstLayerThatMayOpen_2_b (f_X9_firstLayerThatMayOpen_2 n2) w a1 = some r := hf
      unfold f_X9_firstLayerThatMayOpen_2_b at hf
      refine lv_iload_n X.1 X.2.1 dX9_firstLayerThatMayOpen_2 rfl (lv_at hl 1 rfl) ?_
      refine lv_aload_n X.1 X.2.1 dX9_firstLayerThatMayOpen_3 rfl (lv_at hl 0 rfl) ?_
      refine k_getw (v := .int (w 0 10)) X hU (sW_0 hk) fl_X9_77 rfl dX9_firstLayerThatMayOpen_4 ?_
      refine lv_icmp_ge (tgt := 50) X.1 X.2.1 dX9_firstLayerThatMayOpen_7 (by decide) (fun c7 => ?_) (fun c7 => ?_)
      · replace hf := k_ifP hf c7
        refine lv_iconst (v := (-1)) X.1 X.2.1 dX9_firstLayerThatMayOpen_50 (by decide) ?_
        rw [← hw, k_uc_id] at hU
        have hz := Option.some.inj hf
        subst hz
        exact k_iret (v := (-1)) X hU hS hr hlk rfl rfl dX9_firstLayerThatMayOpen_51
      · replace hf := k_ifN hf c7
        refine lv_aload_n X.1 X.2.1 dX9_firstLayerThatMayOpen_10 rfl (lv_at hl 0 rfl) ?_
        refine k_getw (v := .ref (ad k 1)) X hU (sW_0 hk) fl_X9_17 rfl dX9_firstLayerThatMayOpen_11 ?_
        refine lv_iload_n X.1 X.2.1 dX9_firstLayerThatMayOpen_14 rfl (lv_at hl 1 rfl) ?_
        obtain ⟨hi15, hf⟩ := k_ckE hf
        have hj15 := (k_vin (n := 8) hi15 (by decide))
        refine k_ald (C := "LayeredChute$Chute") (tag := 23) (t0 := 3) (z := (k, (15 + a1.toNatClampNeg))) X hU (by decide) rfl (sW_1 hk) hj15 (k_rWl_at hj15) dX9_firstLayerThatMayOpen_15 ?_
        refine lv_aload_n X.1 X.2.1 dX9_firstLayerThatMayOpen_16 rfl (lv_at hl 0 rfl) ?_
        refine k_getw (v := .int (w 0 0)) X hU (sW_0 hk) fl_X9_50 rfl dX9_firstLayerThatMayOpen_17 ?_
        obtain ⟨r20, hr20, hf⟩ := k_bdE hf
        refine k_backi X hS (k_runV (As := [.int (w 0 0)]) (rest := []) X hU (k_sC hk (k_isC_l (k_vlt hj15))) (by decide) rfl vl_X9_139 (c_X0_isPackedAndBelowCeiling X.2.2.2.2.2.2.1 hk (k_uc_s _ _ _) (k_isC_l (k_vlt hj15)) hr20) rfl rfl rfl hl.1 ⟨Nat.le_of_ble_eq_true rfl, Nat.le_of_ble_eq_true rfl⟩ (Nat.le_of_ble_eq_true rfl) dX9_firstLayerThatMayOpen_20 ⟨Nat.zero_le _, Nat.zero_le _⟩) (fun H locs hU hS => ?_)
        refine lv_if_eq (tgt := 44) X.1 X.2.1 dX9_firstLayerThatMayOpen_23 (by decide) (fun c23 => ?_) (fun c23 => ?_)
        · replace hf := k_ifP hf c23
          exact J44 _ _ _ a1 hU hS (lv_sub hl [0, 1] rfl) hf
        · replace hf := k_ifN hf c23
          refine lv_aload_n X.1 X.2.1 dX9_firstLayerThatMayOpen_26 rfl (lv_at hl 0 rfl) ?_
          refine k_getw (v := .int (w 0 1)) X hU (sW_0 hk) fl_X9_53 rfl dX9_firstLayerThatMayOpen_27 ?_
          refine lv_aload_n X.1 X.2.1 dX9_firstLayerThatMayOpen_30 rfl (lv_at hl 0 rfl) ?_
          refine k_getw (v := .ref (ad k 1)) X hU (sW_0 hk) fl_X9_17 rfl dX9_firstLayerThatMayOpen_31 ?_
          refine lv_iload_n X.1 X.2.1 dX9_firstLayerThatMayOpen_34 rfl (lv_at hl 1 rfl) ?_
          obtain ⟨hi35, hf⟩ := k_ckE hf
          have hj35 := (k_vin (n := 8) hi35 (by decide))
          refine k_ald (C := "LayeredChute$Chute") (tag := 23) (t0 := 3) (z := (k, (15 + a1.toNatClampNeg))) X hU (by decide) rfl (sW_1 hk) hj35 (k_rWl_at hj35) dX9_firstLayerThatMayOpen_35 ?_
          refine k_getw (v := .int (w (15 + a1.toNatClampNeg) 4)) X hU (k_sC hk (k_isC_l (k_vlt hj35))) fl_X9_142 rfl dX9_firstLayerThatMayOpen_36 ?_
          refine lv_icmp_gt (tgt := 44) X.1 X.2.1 dX9_firstLayerThatMayOpen_39 (by decide) (fun c39 => ?_) (fun c39 => ?_)
          · replace hf := k_ifP hf c39
            exact J44 _ _ _ a1 hU hS (lv_sub hl [0, 1] rfl) hf
          · replace hf := k_ifN hf c39
            refine lv_iload_n X.1 X.2.1 dX9_firstLayerThatMayOpen_42 rfl (lv_at hl 1 rfl) ?_
            rw [← hw, k_uc_id] at hU
            have hz := Option.some.inj hf
            subst hz
            exact k_iret (v := a1) X hU hS hr hlk rfl rfl dX9_firstLayerThatMayOpen_43
  unfold f_X9_firstLayerThatMayOpen at hf
  refine lv_iconst (v := 0) X.1 X.2.1 dX9_firstLayerThatMayOpen_0 (by decide) ?_
  refine lv_istore_n (lv' := [(1, .int 0), (0, .ref (ad k 0))]) X.1 X.2.1 dX9_firstLayerThatMayOpen_1 rfl hl (by decide) rfl (fun ls hl => ?_)
  exact L2 k_N _ _ _ 0 hU hS (lv_sub hl [1, 0] rfl) hf
def rm_X9_whyLayer : Room := { frames := 2, cells := 0, slots := 0, locals := 45 }
set_option maxRecDepth 100000 in
set_option maxHeartbeats 4000000 in
theorem c_X9_whyLayer {l : Launch} {D : va_G} {G : Nat → ClassId} {ad : Nat → Nat → Nat} {u : k_U} (hI : k_ok ad) {k : Nat} (hk : k_isW k) {w : k_M} (hw : u k = w) {a1 : Int32} {sz : Nat} {r : Int32} (hf : f_X9_whyLayer w a1 = some r) : Met l yX9_whyLayer (.code yX9_whyLayer cX9_whyLayer 3 (some .int) :: lw_g) rm_X9_whyLayer (k_Pre D G ad u sz [.ref (ad k 0), .int a1]) (k_Qi D G ad u r sz) 0 0 (k_A ad sz) := by
  refine k_ofW (by decide +kernel) hI (Nat.le_of_ble_eq_true rfl) ?_
  intro p e s m args below meth c X hr hlk hU hS ls hl
  have hl : lv_has ls 3 [(0, .ref (ad k 0)), (1, .int a1)] := hl
  have hU : k_Uv D G ad (k_uc u k w) s.heap := by rw [← hw, k_uc_id]; exact hU
  unfold f_X9_whyLayer at hf
  refine lv_aload_n X.1 X.2.1 dX9_whyLayer_0 rfl (lv_at hl 0 rfl) ?_
  refine k_getw (v := .ref (ad k 1)) X hU (sW_0 hk) fl_X9_17 rfl dX9_whyLayer_1 ?_
  refine lv_iload_n X.1 X.2.1 dX9_whyLayer_4 rfl (lv_at hl 1 rfl) ?_
  obtain ⟨hi5, hf⟩ := k_ckE hf
  have hj5 := (k_vin (n := 8) hi5 (by decide))
  refine k_ald (C := "LayeredChute$Chute") (tag := 23) (t0 := 3) (z := (k, (15 + a1.toNatClampNeg))) X hU (by decide) rfl (sW_1 hk) hj5 (k_rWl_at hj5) dX9_whyLayer_5 ?_
  refine lv_astore_n (lv' := [(2, .ref (ad k (15 + a1.toNatClampNeg))), (0, .ref (ad k 0)), (1, .int a1)]) X.1 X.2.1 dX9_whyLayer_6 rfl hl (by decide) rfl (fun ls hl => ?_)
  refine lv_aload_n X.1 X.2.1 dX9_whyLayer_7 rfl (lv_at hl 0 rfl) ?_
  refine k_getw (v := .int (w (15 + a1.toNatClampNeg) 5)) X hU (k_sC hk (k_isC_l (k_vlt hj5))) fl_X9_120 rfl dX9_whyLayer_8 ?_
  by_cases c11_1 : (w (15 + a1.toNatClampNeg) 5) = 1
  · replace hf := k_ifP hf c11_1
    refine lv_tableIn (x := w (15 + a1.toNatClampNeg) 5) (off := 29) (tgt := 40) X.1 X.2.1 dX9_whyLayer_11 (by rw [c11_1]; decide) (by rw [c11_1]; decide) (by rw [c11_1]; rfl) (by decide) ?_
    refine lv_iconst (v := 0) X.1 X.2.1 dX9_whyLayer_40 (by decide) ?_
    rw [← hw, k_uc_id] at hU
    have hz := Option.some.inj hf
    subst hz
    exact k_iret (v := 0) X hU hS hr hlk rfl rfl dX9_whyLayer_41
  replace hf := k_ifN hf c11_1
  by_cases c11_2 : (w (15 + a1.toNatClampNeg) 5) = 2
  · replace hf := k_ifP hf c11_2
    refine lv_tableIn (x := w (15 + a1.toNatClampNeg) 5) (off := 31) (tgt := 42) X.1 X.2.1 dX9_whyLayer_11 (by rw [c11_2]; decide) (by rw [c11_2]; decide) (by rw [c11_2]; rfl) (by decide) ?_
    refine lv_iconst (v := 1) X.1 X.2.1 dX9_whyLayer_42 (by decide) ?_
    rw [← hw, k_uc_id] at hU
    have hz := Option.some.inj hf
    subst hz
    exact k_iret (v := 1) X hU hS hr hlk rfl rfl dX9_whyLayer_43
  replace hf := k_ifN hf c11_2
  by_cases c11_3 : (w (15 + a1.toNatClampNeg) 5) = 3
  · replace hf := k_ifP hf c11_3
    refine lv_tableIn (x := w (15 + a1.toNatClampNeg) 5) (off := 33) (tgt := 44) X.1 X.2.1 dX9_whyLayer_11 (by rw [c11_3]; decide) (by rw [c11_3]; decide) (by rw [c11_3]; rfl) (by decide) ?_
    refine lv_iconst (v := 2) X.1 X.2.1 dX9_whyLayer_44 (by decide) ?_
    rw [← hw, k_uc_id] at hU
    have hz := Option.some.inj hf
    subst hz
    exact k_iret (v := 2) X hU hS hr hlk rfl rfl dX9_whyLayer_45
  replace hf := k_ifN hf c11_3
  by_cases c11_4 : (w (15 + a1.toNatClampNeg) 5) = 4
  · replace hf := k_ifP hf c11_4
    refine lv_tableIn (x := w (15 + a1.toNatClampNeg) 5) (off := 35) (tgt := 46) X.1 X.2.1 dX9_whyLayer_11 (by rw [c11_4]; decide) (by rw [c11_4]; decide) (by rw [c11_4]; rfl) (by decide) ?_
    refine lv_iconst (v := 3) X.1 X.2.1 dX9_whyLayer_46 (by decide) ?_
    rw [← hw, k_uc_id] at hU
    have hz := Option.some.inj hf
    subst hz
    exact k_iret (v := 3) X hU hS hr hlk rfl rfl dX9_whyLayer_47
  replace hf := k_ifN hf c11_4
  have ho11 : (w (15 + a1.toNatClampNeg) 5).toInt < 1 ∨ 4 < (w (15 + a1.toNatClampNeg) 5).toInt := by
    have g1 := k_tne (n := 1) (z := 1) c11_1 (by decide)
    have g2 := k_tne (n := 2) (z := 2) c11_2 (by decide)
    have g3 := k_tne (n := 3) (z := 3) c11_3 (by decide)
    have g4 := k_tne (n := 4) (z := 4) c11_4 (by decide)
    omega
  refine lv_tableOut (x := w (15 + a1.toNatClampNeg) 5) (tgt := 48) X.1 X.2.1 dX9_whyLayer_11 ho11 (by decide) ?_
  refine lv_aload_n X.1 X.2.1 dX9_whyLayer_48 rfl (lv_at hl 1 rfl) ?_
  refine k_getw (v := .int (w 0 0)) X hU (sW_0 hk) fl_X9_50 rfl dX9_whyLayer_49 ?_
  refine lv_aload_n X.1 X.2.1 dX9_whyLayer_52 rfl (lv_at hl 0 rfl) ?_
  refine k_getw (v := .int (w (15 + a1.toNatClampNeg) 3)) X hU (k_sC hk (k_isC_l (k_vlt hj5))) fl_X9_145 rfl dX9_whyLayer_53 ?_
  refine lv_icmp_le (tgt := 61) X.1 X.2.1 dX9_whyLayer_56 (by decide) (fun c56 => ?_) (fun c56 => ?_)
  · replace hf := k_ifP hf c56
    refine lv_aload_n X.1 X.2.1 dX9_whyLayer_61 rfl (lv_at hl 1 rfl) ?_
    refine k_getw (v := .int (w 0 1)) X hU (sW_0 hk) fl_X9_53 rfl dX9_whyLayer_62 ?_
    refine lv_aload_n X.1 X.2.1 dX9_whyLayer_65 rfl (lv_at hl 0 rfl) ?_
    refine k_getw (v := .int (w (15 + a1.toNatClampNeg) 4)) X hU (k_sC hk (k_isC_l (k_vlt hj5))) fl_X9_142 rfl dX9_whyLayer_66 ?_
    refine lv_icmp_le (tgt := 74) X.1 X.2.1 dX9_whyLayer_69 (by decide) (fun c69 => ?_) (fun c69 => ?_)
    · replace hf := k_ifP hf c69
      refine lv_aload_n X.1 X.2.1 dX9_whyLayer_74 rfl (lv_at hl 1 rfl) ?_
      obtain ⟨r75, hr75, hf⟩ := k_bdE hf
      refine k_backi X hS (k_runV (As := []) (rest := []) X hU (sW_0 hk) (by decide) rfl vl_X9_148 (c_X9_asksForBrakes X.2.2.2.2.2.2.1 hk (k_uc_s _ _ _) hr75) rfl rfl rfl hl.1 ⟨Nat.le_of_ble_eq_true rfl, Nat.le_of_ble_eq_true rfl⟩ (Nat.le_of_ble_eq_true rfl) dX9_whyLayer_75 ⟨Nat.zero_le _, Nat.zero_le _⟩) (fun H locs hU hS => ?_)
      refine lv_if_ne (tgt := 84) X.1 X.2.1 dX9_whyLayer_78 (by decide) (fun c78 => ?_) (fun c78 => ?_)
      · replace hf := k_ifN hf c78
        refine lv_aload_n X.1 X.2.1 dX9_whyLayer_84 rfl (lv_at hl 1 rfl) ?_
        obtain ⟨r85, hr85, hf⟩ := k_bdE hf
        refine k_backi X hS (k_runV (As := []) (rest := []) X hU (sW_0 hk) (by decide) rfl vl_X9_151 (c_X9_firstLayerThatMayOpen X.2.2.2.2.2.2.1 hk (k_uc_s _ _ _) hr85) rfl rfl rfl hl.1 ⟨Nat.le_of_ble_eq_true rfl, Nat.le_of_ble_eq_true rfl⟩ (Nat.le_of_ble_eq_true rfl) dX9_whyLayer_85 ⟨Nat.zero_le _, Nat.zero_le _⟩) (fun H locs hU hS => ?_)
        refine lv_iload_n X.1 X.2.1 dX9_whyLayer_88 rfl (lv_at hl 2 rfl) ?_
        refine lv_icmp_ge (tgt := 97) X.1 X.2.1 dX9_whyLayer_89 (by decide) (fun c89 => ?_) (fun c89 => ?_)
        · replace hf := k_ifP hf c89
          refine lv_bipush (v := 8) X.1 X.2.1 dX9_whyLayer_97 (by decide) ?_
          rw [← hw, k_uc_id] at hU
          have hz := Option.some.inj hf
          subst hz
          exact k_iret (v := 8) X hU hS hr hlk rfl rfl dX9_whyLayer_99
        · replace hf := k_ifN hf c89
          refine lv_bipush (v := 7) X.1 X.2.1 dX9_whyLayer_92 (by decide) ?_
          refine lv_goto (tgt := 99) X.1 X.2.1 dX9_whyLayer_94 (by decide) ?_
          rw [← hw, k_uc_id] at hU
          have hz := Option.some.inj hf
          subst hz
          exact k_iret (v := 7) X hU hS hr hlk rfl rfl dX9_whyLayer_99
      · replace hf := k_ifP hf c78
        refine lv_bipush (v := 6) X.1 X.2.1 dX9_whyLayer_81 (by decide) ?_
        rw [← hw, k_uc_id] at hU
        have hz := Option.some.inj hf
        subst hz
        exact k_iret (v := 6) X hU hS hr hlk rfl rfl dX9_whyLayer_83
    · replace hf := k_ifN hf c69
      refine lv_iconst (v := 5) X.1 X.2.1 dX9_whyLayer_72 (by decide) ?_
      rw [← hw, k_uc_id] at hU
      have hz := Option.some.inj hf
      subst hz
      exact k_iret (v := 5) X hU hS hr hlk rfl rfl dX9_whyLayer_73
  · replace hf := k_ifN hf c56
    refine lv_iconst (v := 4) X.1 X.2.1 dX9_whyLayer_59 (by decide) ?_
    rw [← hw, k_uc_id] at hU
    have hz := Option.some.inj hf
    subst hz
    exact k_iret (v := 4) X hU hS hr hlk rfl rfl dX9_whyLayer_60
def rm_X9_whyOfReserve : Room := { frames := 2, cells := 0, slots := 0, locals := 45 }
set_option maxRecDepth 100000 in
set_option maxHeartbeats 4000000 in
theorem c_X9_whyOfReserve {l : Launch} {D : va_G} {G : Nat → ClassId} {ad : Nat → Nat → Nat} {u : k_U} (hI : k_ok ad) {k : Nat} (hk : k_isW k) {w : k_M} (hw : u k = w) {sz : Nat} {r : Int32} (hf : f_X9_whyOfReserve w = some r) : Met l yX9_whyOfReserve (.code yX9_whyOfReserve cX9_whyOfReserve 1 (some .int) :: lw_g) rm_X9_whyOfReserve (k_Pre D G ad u sz [.ref (ad k 0)]) (k_Qi D G ad u r sz) 0 0 (k_A ad sz) := by
  refine k_ofW (by decide +kernel) hI (Nat.le_of_ble_eq_true rfl) ?_
  intro p e s m args below meth c X hr hlk hU hS ls hl
  have hl : lv_has ls 1 [(0, .ref (ad k 0))] := hl
  have hU : k_Uv D G ad (k_uc u k w) s.heap := by rw [← hw, k_uc_id]; exact hU
  unfold f_X9_whyOfReserve at hf
  refine lv_aload_n X.1 X.2.1 dX9_whyOfReserve_0 rfl (lv_at hl 0 rfl) ?_
  refine k_getw (v := .int (w 0 11)) X hU (sW_0 hk) fl_X9_80 rfl dX9_whyOfReserve_1 ?_
  refine lv_if_ne (tgt := 9) X.1 X.2.1 dX9_whyOfReserve_4 (by decide) (fun c4 => ?_) (fun c4 => ?_)
  · replace hf := k_ifN hf c4
    refine lv_aload_n X.1 X.2.1 dX9_whyOfReserve_9 rfl (lv_at hl 0 rfl) ?_
    refine k_getw (v := .ref (ad k 2)) X hU (sW_0 hk) fl_X9_22 rfl dX9_whyOfReserve_10 ?_
    refine k_getw (v := .int (w 2 5)) X hU (k_sC hk k_isC_2) fl_X9_120 rfl dX9_whyOfReserve_13 ?_
    refine lv_iconst (v := 1) X.1 X.2.1 dX9_whyOfReserve_16 (by decide) ?_
    refine lv_icmp_ne (tgt := 22) X.1 X.2.1 dX9_whyOfReserve_17 (by decide) (fun c17 => ?_) (fun c17 => ?_)
    · replace hf := k_ifN hf c17
      refine lv_aload_n X.1 X.2.1 dX9_whyOfReserve_22 rfl (lv_at hl 0 rfl) ?_
      refine k_getw (v := .ref (ad k 2)) X hU (sW_0 hk) fl_X9_22 rfl dX9_whyOfReserve_23 ?_
      refine k_getw (v := .int (w 2 5)) X hU (k_sC hk k_isC_2) fl_X9_120 rfl dX9_whyOfReserve_26 ?_
      refine lv_if_eq (tgt := 34) X.1 X.2.1 dX9_whyOfReserve_29 (by decide) (fun c29 => ?_) (fun c29 => ?_)
      · replace hf := k_ifP hf c29
        refine lv_aload_n X.1 X.2.1 dX9_whyOfReserve_34 rfl (lv_at hl 0 rfl) ?_
        refine k_getw (v := .int (w 0 0)) X hU (sW_0 hk) fl_X9_50 rfl dX9_whyOfReserve_35 ?_
        refine lv_aload_n X.1 X.2.1 dX9_whyOfReserve_38 rfl (lv_at hl 0 rfl) ?_
        refine k_getw (v := .ref (ad k 2)) X hU (sW_0 hk) fl_X9_22 rfl dX9_whyOfReserve_39 ?_
        refine k_getw (v := .int (w 2 3)) X hU (k_sC hk k_isC_2) fl_X9_145 rfl dX9_whyOfReserve_42 ?_
        refine lv_icmp_le (tgt := 50) X.1 X.2.1 dX9_whyOfReserve_45 (by decide) (fun c45 => ?_) (fun c45 => ?_)
        · replace hf := k_ifP hf c45
          refine lv_aload_n X.1 X.2.1 dX9_whyOfReserve_50 rfl (lv_at hl 0 rfl) ?_
          obtain ⟨r51, hr51, hf⟩ := k_bdE hf
          refine k_backi X hS (k_runV (As := []) (rest := []) X hU (sW_0 hk) (by decide) rfl vl_X9_154 (c_X9_failedLayers X.2.2.2.2.2.2.1 hk (k_uc_s _ _ _) hr51) rfl rfl rfl hl.1 ⟨Nat.le_of_ble_eq_true rfl, Nat.le_of_ble_eq_true rfl⟩ (Nat.le_of_ble_eq_true rfl) dX9_whyOfReserve_51 ⟨Nat.zero_le _, Nat.zero_le _⟩) (fun H locs hU hS => ?_)
          refine lv_aload_n X.1 X.2.1 dX9_whyOfReserve_54 rfl (lv_at hl 0 rfl) ?_
          refine k_getw (v := .ref (ad k 2)) X hU (sW_0 hk) fl_X9_22 rfl dX9_whyOfReserve_55 ?_
          refine k_getw (v := .int (w 2 4)) X hU (k_sC hk k_isC_2) fl_X9_142 rfl dX9_whyOfReserve_58 ?_
          refine lv_icmp_ge (tgt := 66) X.1 X.2.1 dX9_whyOfReserve_61 (by decide) (fun c61 => ?_) (fun c61 => ?_)
          · replace hf := k_ifP hf c61
            refine lv_aload_n X.1 X.2.1 dX9_whyOfReserve_66 rfl (lv_at hl 0 rfl) ?_
            obtain ⟨r67, hr67, hf⟩ := k_bdE hf
            refine k_backi X hS (k_runV (As := []) (rest := []) X hU (sW_0 hk) (by decide) rfl vl_X9_151 (c_X9_firstLayerThatMayOpen X.2.2.2.2.2.2.1 hk (k_uc_s _ _ _) hr67) rfl rfl rfl hl.1 ⟨Nat.le_of_ble_eq_true rfl, Nat.le_of_ble_eq_true rfl⟩ (Nat.le_of_ble_eq_true rfl) dX9_whyOfReserve_67 ⟨Nat.zero_le _, Nat.zero_le _⟩) (fun H locs hU hS => ?_)
            refine lv_iconst (v := (-1)) X.1 X.2.1 dX9_whyOfReserve_70 (by decide) ?_
            refine lv_icmp_eq (tgt := 76) X.1 X.2.1 dX9_whyOfReserve_71 (by decide) (fun c71 => ?_) (fun c71 => ?_)
            · replace hf := k_ifP hf c71
              refine lv_aload_n X.1 X.2.1 dX9_whyOfReserve_76 rfl (lv_at hl 0 rfl) ?_
              obtain ⟨r77, hr77, hf⟩ := k_bdE hf
              refine k_backi X hS (k_runV (As := []) (rest := []) X hU (sW_0 hk) (by decide) rfl vl_X9_148 (c_X9_asksForBrakes X.2.2.2.2.2.2.1 hk (k_uc_s _ _ _) hr77) rfl rfl rfl hl.1 ⟨Nat.le_of_ble_eq_true rfl, Nat.le_of_ble_eq_true rfl⟩ (Nat.le_of_ble_eq_true rfl) dX9_whyOfReserve_77 ⟨Nat.zero_le _, Nat.zero_le _⟩) (fun H locs hU hS => ?_)
              refine lv_if_eq (tgt := 88) X.1 X.2.1 dX9_whyOfReserve_80 (by decide) (fun c80 => ?_) (fun c80 => ?_)
              · replace hf := k_ifP hf c80
                refine lv_bipush (v := 6) X.1 X.2.1 dX9_whyOfReserve_88 (by decide) ?_
                rw [← hw, k_uc_id] at hU
                have hz := Option.some.inj hf
                subst hz
                exact k_iret (v := 6) X hU hS hr hlk rfl rfl dX9_whyOfReserve_90
              · replace hf := k_ifN hf c80
                refine lv_bipush (v := 7) X.1 X.2.1 dX9_whyOfReserve_83 (by decide) ?_
                refine lv_goto (tgt := 90) X.1 X.2.1 dX9_whyOfReserve_85 (by decide) ?_
                rw [← hw, k_uc_id] at hU
                have hz := Option.some.inj hf
                subst hz
                exact k_iret (v := 7) X hU hS hr hlk rfl rfl dX9_whyOfReserve_90
            · replace hf := k_ifN hf c71
              refine lv_iconst (v := 5) X.1 X.2.1 dX9_whyOfReserve_74 (by decide) ?_
              rw [← hw, k_uc_id] at hU
              have hz := Option.some.inj hf
              subst hz
              exact k_iret (v := 5) X hU hS hr hlk rfl rfl dX9_whyOfReserve_75
          · replace hf := k_ifN hf c61
            refine lv_iconst (v := 4) X.1 X.2.1 dX9_whyOfReserve_64 (by decide) ?_
            rw [← hw, k_uc_id] at hU
            have hz := Option.some.inj hf
            subst hz
            exact k_iret (v := 4) X hU hS hr hlk rfl rfl dX9_whyOfReserve_65
        · replace hf := k_ifN hf c45
          refine lv_iconst (v := 3) X.1 X.2.1 dX9_whyOfReserve_48 (by decide) ?_
          rw [← hw, k_uc_id] at hU
          have hz := Option.some.inj hf
          subst hz
          exact k_iret (v := 3) X hU hS hr hlk rfl rfl dX9_whyOfReserve_49
      · replace hf := k_ifN hf c29
        refine lv_iconst (v := 2) X.1 X.2.1 dX9_whyOfReserve_32 (by decide) ?_
        rw [← hw, k_uc_id] at hU
        have hz := Option.some.inj hf
        subst hz
        exact k_iret (v := 2) X hU hS hr hlk rfl rfl dX9_whyOfReserve_33
    · replace hf := k_ifP hf c17
      refine lv_iconst (v := 0) X.1 X.2.1 dX9_whyOfReserve_20 (by decide) ?_
      rw [← hw, k_uc_id] at hU
      have hz := Option.some.inj hf
      subst hz
      exact k_iret (v := 0) X hU hS hr hlk rfl rfl dX9_whyOfReserve_21
  · replace hf := k_ifP hf c4
    refine lv_iconst (v := 1) X.1 X.2.1 dX9_whyOfReserve_7 (by decide) ?_
    rw [← hw, k_uc_id] at hU
    have hz := Option.some.inj hf
    subst hz
    exact k_iret (v := 1) X hU hS hr hlk rfl rfl dX9_whyOfReserve_8
def rm_X9_openLayer : Room := { frames := 1, cells := 0, slots := 0, locals := 25 }
set_option maxRecDepth 100000 in
set_option maxHeartbeats 4000000 in
theorem c_X9_openLayer {l : Launch} {D : va_G} {G : Nat → ClassId} {ad : Nat → Nat → Nat} {u : k_U} (hI : k_ok ad) {k : Nat} (hk : k_isW k) {w : k_M} (hw : u k = w) {a1 : Int32} {sz : Nat} {r : k_M} (hf : f_X9_openLayer w a1 = some r) : Met l yX9_openLayer (.code yX9_openLayer cX9_openLayer 3 none :: lw_g) rm_X9_openLayer (k_Pre D G ad u sz [.ref (ad k 0), .int a1]) (k_Qv D G ad (k_uc u k r) sz) 0 0 (k_A ad sz) := by
  refine k_ofW (by decide +kernel) hI (Nat.le_of_ble_eq_true rfl) ?_
  intro p e s m args below meth c X hr hlk hU hS ls hl
  have hl : lv_has ls 3 [(0, .ref (ad k 0)), (1, .int a1)] := hl
  have hU : k_Uv D G ad (k_uc u k w) s.heap := by rw [← hw, k_uc_id]; exact hU
  unfold f_X9_openLayer at hf
  refine lv_aload_n X.1 X.2.1 dX9_openLayer_0 rfl (lv_at hl 0 rfl) ?_
  refine k_getw (v := .ref (ad k 1)) X hU (sW_0 hk) fl_X9_17 rfl dX9_openLayer_1 ?_
  refine lv_iload_n X.1 X.2.1 dX9_openLayer_4 rfl (lv_at hl 1 rfl) ?_
  obtain ⟨hi5, hf⟩ := k_ckE hf
  have hj5 := (k_vin (n := 8) hi5 (by decide))
  refine k_ald (C := "LayeredChute$Chute") (tag := 23) (t0 := 3) (z := (k, (15 + a1.toNatClampNeg))) X hU (by decide) rfl (sW_1 hk) hj5 (k_rWl_at hj5) dX9_openLayer_5 ?_
  refine lv_astore_n (lv' := [(2, .ref (ad k (15 + a1.toNatClampNeg))), (0, .ref (ad k 0)), (1, .int a1)]) X.1 X.2.1 dX9_openLayer_6 rfl hl (by decide) rfl (fun ls hl => ?_)
  refine lv_aload_n X.1 X.2.1 dX9_openLayer_7 rfl (lv_at hl 0 rfl) ?_
  refine k_getw (v := .int (w (15 + a1.toNatClampNeg) 6)) X hU (k_sC hk (k_isC_l (k_vlt hj5))) fl_X9_127 rfl dX9_openLayer_8 ?_
  refine lv_if_eq (tgt := 39) X.1 X.2.1 dX9_openLayer_11 (by decide) (fun c11 => ?_) (fun c11 => ?_)
  · replace hf := k_ifP hf c11
    refine lv_aload_n X.1 X.2.1 dX9_openLayer_39 rfl (lv_at hl 0 rfl) ?_
    refine lv_iconst (v := 1) X.1 X.2.1 dX9_openLayer_40 (by decide) ?_
    obtain ⟨w41, e41, hf⟩ := k_ltE hf
    refine k_putw X hU hS (k_sC hk (k_isC_l (k_vlt hj5))) fp_X9_120 rfl e41 rfl rfl dX9_openLayer_41 (fun H locs hU hS => ?_)
    refine lv_aload_n X.1 X.2.1 dX9_openLayer_44 rfl (lv_at hl 1 rfl) ?_
    refine k_getw (v := .ref (ad k 13)) X hU (sW_0 hk) fl_X9_46 rfl dX9_openLayer_45 ?_
    refine lv_aload_n X.1 X.2.1 dX9_openLayer_48 rfl (lv_at hl 1 rfl) ?_
    refine k_getw (v := .int (w41 0 6)) X hU (sW_0 hk) fl_X9_65 rfl dX9_openLayer_49 ?_
    refine lv_iconst (v := 0) X.1 X.2.1 dX9_openLayer_52 (by decide) ?_
    refine lv_iload_n X.1 X.2.1 dX9_openLayer_53 rfl (lv_at hl 2 rfl) ?_
    refine lv_aload_n X.1 X.2.1 dX9_openLayer_54 rfl (lv_at hl 1 rfl) ?_
    refine k_getw (v := .int (w41 0 1)) X hU (sW_0 hk) fl_X9_53 rfl dX9_openLayer_55 ?_
    obtain ⟨r58, hr58, hf⟩ := k_bdE hf
    refine k_backv X hS (k_runV (As := [.int (w41 0 6), .int 0, .int a1, .int (w41 0 1)]) (rest := []) X hU (sW_13 hk) (by decide) rfl vl_X9_157 (c_X1_record X.2.2.2.2.2.2.1 hk (k_uc_s _ _ _) hr58) rfl rfl rfl hl.1 ⟨Nat.le_of_ble_eq_true rfl, Nat.le_of_ble_eq_true rfl⟩ (Nat.le_of_ble_eq_true rfl) dX9_openLayer_58 ⟨Nat.zero_le _, Nat.zero_le _⟩) (fun H locs hU hS => ?_)
    rw [k_uc_uc] at hU
    have hz := Option.some.inj hf
    subst hz
    exact k_vret X hU hS hr hlk dX9_openLayer_61
  · replace hf := k_ifN hf c11
    refine lv_aload_n X.1 X.2.1 dX9_openLayer_14 rfl (lv_at hl 0 rfl) ?_
    refine lv_iconst (v := 3) X.1 X.2.1 dX9_openLayer_15 (by decide) ?_
    obtain ⟨w16, e16, hf⟩ := k_ltE hf
    refine k_putw X hU hS (k_sC hk (k_isC_l (k_vlt hj5))) fp_X9_120 rfl e16 rfl rfl dX9_openLayer_16 (fun H locs hU hS => ?_)
    refine lv_aload_n X.1 X.2.1 dX9_openLayer_19 rfl (lv_at hl 1 rfl) ?_
    refine k_getw (v := .ref (ad k 13)) X hU (sW_0 hk) fl_X9_46 rfl dX9_openLayer_20 ?_
    refine lv_aload_n X.1 X.2.1 dX9_openLayer_23 rfl (lv_at hl 1 rfl) ?_
    refine k_getw (v := .int (w16 0 6)) X hU (sW_0 hk) fl_X9_65 rfl dX9_openLayer_24 ?_
    refine lv_iconst (v := 3) X.1 X.2.1 dX9_openLayer_27 (by decide) ?_
    refine lv_iload_n X.1 X.2.1 dX9_openLayer_28 rfl (lv_at hl 2 rfl) ?_
    refine lv_aload_n X.1 X.2.1 dX9_openLayer_29 rfl (lv_at hl 1 rfl) ?_
    refine k_getw (v := .int (w16 0 1)) X hU (sW_0 hk) fl_X9_53 rfl dX9_openLayer_30 ?_
    obtain ⟨r33, hr33, hf⟩ := k_bdE hf
    refine k_backv X hS (k_runV (As := [.int (w16 0 6), .int 3, .int a1, .int (w16 0 1)]) (rest := []) X hU (sW_13 hk) (by decide) rfl vl_X9_157 (c_X1_record X.2.2.2.2.2.2.1 hk (k_uc_s _ _ _) hr33) rfl rfl rfl hl.1 ⟨Nat.le_of_ble_eq_true rfl, Nat.le_of_ble_eq_true rfl⟩ (Nat.le_of_ble_eq_true rfl) dX9_openLayer_33 ⟨Nat.zero_le _, Nat.zero_le _⟩) (fun H locs hU hS => ?_)
    rw [k_uc_uc] at hU
    refine lv_goto (tgt := 61) X.1 X.2.1 dX9_openLayer_36 (by decide) ?_
    have hz := Option.some.inj hf
    subst hz
    exact k_vret X hU hS hr hlk dX9_openLayer_61
def rm_X9_openTheReserve : Room := { frames := 1, cells := 0, slots := 0, locals := 25 }
set_option maxRecDepth 100000 in
set_option maxHeartbeats 4000000 in
theorem c_X9_openTheReserve {l : Launch} {D : va_G} {G : Nat → ClassId} {ad : Nat → Nat → Nat} {u : k_U} (hI : k_ok ad) {k : Nat} (hk : k_isW k) {w : k_M} (hw : u k = w) {a1 : Int32} {sz : Nat} {r : k_M} (hf : f_X9_openTheReserve w a1 = some r) : Met l yX9_openTheReserve (.code yX9_openTheReserve cX9_openTheReserve 2 none :: lw_g) rm_X9_openTheReserve (k_Pre D G ad u sz [.ref (ad k 0), .int a1]) (k_Qv D G ad (k_uc u k r) sz) 0 0 (k_A ad sz) := by
  refine k_ofW (by decide +kernel) hI (Nat.le_of_ble_eq_true rfl) ?_
  intro p e s m args below meth c X hr hlk hU hS ls hl
  have hl : lv_has ls 2 [(0, .ref (ad k 0)), (1, .int a1)] := hl
  have hU : k_Uv D G ad (k_uc u k w) s.heap := by rw [← hw, k_uc_id]; exact hU
  unfold f_X9_openTheReserve at hf
  refine lv_aload_n X.1 X.2.1 dX9_openTheReserve_0 rfl (lv_at hl 0 rfl) ?_
  refine k_getw (v := .ref (ad k 2)) X hU (sW_0 hk) fl_X9_22 rfl dX9_openTheReserve_1 ?_
  refine lv_iconst (v := 1) X.1 X.2.1 dX9_openTheReserve_4 (by decide) ?_
  obtain ⟨w5, e5, hf⟩ := k_ltE hf
  refine k_putw X hU hS (k_sC hk k_isC_2) fp_X9_120 rfl e5 rfl rfl dX9_openTheReserve_5 (fun H locs hU hS => ?_)
  refine lv_aload_n X.1 X.2.1 dX9_openTheReserve_8 rfl (lv_at hl 0 rfl) ?_
  refine k_getw (v := .ref (ad k 13)) X hU (sW_0 hk) fl_X9_46 rfl dX9_openTheReserve_9 ?_
  refine lv_aload_n X.1 X.2.1 dX9_openTheReserve_12 rfl (lv_at hl 0 rfl) ?_
  refine k_getw (v := .int (w5 0 6)) X hU (sW_0 hk) fl_X9_65 rfl dX9_openTheReserve_13 ?_
  refine lv_iconst (v := 4) X.1 X.2.1 dX9_openTheReserve_16 (by decide) ?_
  refine lv_aload_n X.1 X.2.1 dX9_openTheReserve_17 rfl (lv_at hl 0 rfl) ?_
  refine k_getw (v := .int (w5 0 10)) X hU (sW_0 hk) fl_X9_77 rfl dX9_openTheReserve_18 ?_
  refine lv_iload_n X.1 X.2.1 dX9_openTheReserve_21 rfl (lv_at hl 1 rfl) ?_
  obtain ⟨r22, hr22, hf⟩ := k_bdE hf
  refine k_backv X hS (k_runV (As := [.int (w5 0 6), .int 4, .int (w5 0 10), .int a1]) (rest := []) X hU (sW_13 hk) (by decide) rfl vl_X9_157 (c_X1_record X.2.2.2.2.2.2.1 hk (k_uc_s _ _ _) hr22) rfl rfl rfl hl.1 ⟨Nat.le_of_ble_eq_true rfl, Nat.le_of_ble_eq_true rfl⟩ (Nat.le_of_ble_eq_true rfl) dX9_openTheReserve_22 ⟨Nat.zero_le _, Nat.zero_le _⟩) (fun H locs hU hS => ?_)
  rw [k_uc_uc] at hU
  have hz := Option.some.inj hf
  subst hz
  exact k_vret X hU hS hr hlk dX9_openTheReserve_25
def rm_X9_cutAway : Room := { frames := 2, cells := 0, slots := 0, locals := 42 }
set_option maxRecDepth 100000 in
set_option maxHeartbeats 4000000 in
theorem c_X9_cutAway {l : Launch} {D : va_G} {G : Nat → ClassId} {ad : Nat → Nat → Nat} {u : k_U} (hI : k_ok ad) {k : Nat} (hk : k_isW k) {w : k_M} (hw : u k = w) {a1 : Int32} {sz : Nat} {r : k_M} (hf : f_X9_cutAway w a1 = some r) : Met l yX9_cutAway (.code yX9_cutAway cX9_cutAway 3 none :: lw_g) rm_X9_cutAway (k_Pre D G ad u sz [.ref (ad k 0), .int a1]) (k_Qv D G ad (k_uc u k r) sz) 0 0 (k_A ad sz) := by
  refine k_ofW (by decide +kernel) hI (Nat.le_of_ble_eq_true rfl) ?_
  intro p e s m args below meth c X hr hlk hU hS ls hl
  have hl : lv_has ls 3 [(0, .ref (ad k 0)), (1, .int a1)] := hl
  have hU : k_Uv D G ad (k_uc u k w) s.heap := by rw [← hw, k_uc_id]; exact hU
  unfold f_X9_cutAway at hf
  refine lv_aload_n X.1 X.2.1 dX9_cutAway_0 rfl (lv_at hl 0 rfl) ?_
  refine lv_iload_n X.1 X.2.1 dX9_cutAway_1 rfl (lv_at hl 1 rfl) ?_
  obtain ⟨r2, hr2, hf⟩ := k_bdE hf
  refine k_backr X hS (k_runV (As := [.int a1]) (rest := []) X hU (sW_0 hk) (by decide) rfl vl_X9_116 (c_X9_chuteAt X.2.2.2.2.2.2.1 hk (k_uc_s _ _ _) hr2) rfl rfl rfl hl.1 ⟨Nat.le_of_ble_eq_true rfl, Nat.le_of_ble_eq_true rfl⟩ (Nat.le_of_ble_eq_true rfl) dX9_cutAway_2 ⟨Nat.zero_le _, Nat.zero_le _⟩) (fun H locs hU hS => ?_)
  obtain ⟨hi2, hf⟩ := k_ckE hf
  refine lv_astore_n (lv' := [(2, .ref (ad k r2)), (0, .ref (ad k 0)), (1, .int a1)]) X.1 X.2.1 dX9_cutAway_5 rfl hl (by decide) rfl (fun ls hl => ?_)
  refine lv_aload_n X.1 X.2.1 dX9_cutAway_6 rfl (lv_at hl 0 rfl) ?_
  refine lv_iconst (v := 4) X.1 X.2.1 dX9_cutAway_7 (by decide) ?_
  obtain ⟨w8, e8, hf⟩ := k_ltE hf
  refine k_putw X hU hS (k_sC hk hi2) fp_X9_120 rfl e8 rfl rfl dX9_cutAway_8 (fun H locs hU hS => ?_)
  refine lv_aload_n X.1 X.2.1 dX9_cutAway_11 rfl (lv_at hl 1 rfl) ?_
  refine k_getw (v := .ref (ad k 13)) X hU (sW_0 hk) fl_X9_46 rfl dX9_cutAway_12 ?_
  refine lv_aload_n X.1 X.2.1 dX9_cutAway_15 rfl (lv_at hl 1 rfl) ?_
  refine k_getw (v := .int (w8 0 6)) X hU (sW_0 hk) fl_X9_65 rfl dX9_cutAway_16 ?_
  refine lv_iconst (v := 5) X.1 X.2.1 dX9_cutAway_19 (by decide) ?_
  refine lv_iload_n X.1 X.2.1 dX9_cutAway_20 rfl (lv_at hl 2 rfl) ?_
  refine lv_aload_n X.1 X.2.1 dX9_cutAway_21 rfl (lv_at hl 0 rfl) ?_
  obtain ⟨r22, hr22, hf⟩ := k_bdE hf
  refine k_backi X hS (k_runV (As := []) (rest := [.int a1, .int 5, .int (w8 0 6), .ref (ad k 13)]) X hU (k_sC hk hi2) (by decide) rfl vl_X9_136 (c_X0_linesThere X.2.2.2.2.2.2.1 hk (k_uc_s _ _ _) hi2 hr22) rfl rfl rfl hl.1 ⟨Nat.le_of_ble_eq_true rfl, Nat.le_of_ble_eq_true rfl⟩ (Nat.le_of_ble_eq_true rfl) dX9_cutAway_22 ⟨Nat.zero_le _, Nat.zero_le _⟩) (fun H locs hU hS => ?_)
  obtain ⟨r25, hr25, hf⟩ := k_bdE hf
  refine k_backv X hS (k_runV (As := [.int (w8 0 6), .int 5, .int a1, .int r22]) (rest := []) X hU (sW_13 hk) (by decide) rfl vl_X9_157 (c_X1_record X.2.2.2.2.2.2.1 hk (k_uc_s _ _ _) hr25) rfl rfl rfl hl.1 ⟨Nat.le_of_ble_eq_true rfl, Nat.le_of_ble_eq_true rfl⟩ (Nat.le_of_ble_eq_true rfl) dX9_cutAway_25 ⟨Nat.zero_le _, Nat.zero_le _⟩) (fun H locs hU hS => ?_)
  rw [k_uc_uc] at hU
  have hz := Option.some.inj hf
  subst hz
  exact k_vret X hU hS hr hlk dX9_cutAway_28
def rm_X9_openWhatMay : Room := { frames := 2, cells := 0, slots := 0, locals := 47 }
set_option maxRecDepth 100000 in
set_option maxHeartbeats 4000000 in
theorem c_X9_openWhatMay {l : Launch} {D : va_G} {G : Nat → ClassId} {ad : Nat → Nat → Nat} {u : k_U} (hI : k_ok ad) {k : Nat} (hk : k_isW k) {w : k_M} (hw : u k = w) {sz : Nat} {r : k_M} (hf : f_X9_openWhatMay w = some r) : Met l yX9_openWhatMay (.code yX9_openWhatMay cX9_openWhatMay 3 none :: lw_g) rm_X9_openWhatMay (k_Pre D G ad u sz [.ref (ad k 0)]) (k_Qv D G ad (k_uc u k r) sz) 0 0 (k_A ad sz) := by
  refine k_ofW (by decide +kernel) hI (Nat.le_of_ble_eq_true rfl) ?_
  intro p e s m args below meth c X hr hlk hU hS ls hl
  have hl : lv_has ls 3 [(0, .ref (ad k 0))] := hl
  have hU : k_Uv D G ad (k_uc u k w) s.heap := by rw [← hw, k_uc_id]; exact hU
  unfold f_X9_openWhatMay at hf
  refine lv_aload_n X.1 X.2.1 dX9_openWhatMay_0 rfl (lv_at hl 0 rfl) ?_
  obtain ⟨r1, hr1, hf⟩ := k_bdE hf
  refine k_backi X hS (k_runV (As := []) (rest := []) X hU (sW_0 hk) (by decide) rfl vl_X9_151 (c_X9_firstLayerThatMayOpen X.2.2.2.2.2.2.1 hk (k_uc_s _ _ _) hr1) rfl rfl rfl hl.1 ⟨Nat.le_of_ble_eq_true rfl, Nat.le_of_ble_eq_true rfl⟩ (Nat.le_of_ble_eq_true rfl) dX9_openWhatMay_1 ⟨Nat.zero_le _, Nat.zero_le _⟩) (fun H locs hU hS => ?_)
  refine lv_istore_n (lv' := [(1, .int r1), (0, .ref (ad k 0))]) X.1 X.2.1 dX9_openWhatMay_4 rfl hl (by decide) rfl (fun ls hl => ?_)
  refine lv_aload_n X.1 X.2.1 dX9_openWhatMay_5 rfl (lv_at hl 1 rfl) ?_
  obtain ⟨r6, hr6, hf⟩ := k_bdE hf
  refine k_backi X hS (k_runV (As := []) (rest := []) X hU (sW_0 hk) (by decide) rfl vl_X9_154 (c_X9_failedLayers X.2.2.2.2.2.2.1 hk (k_uc_s _ _ _) hr6) rfl rfl rfl hl.1 ⟨Nat.le_of_ble_eq_true rfl, Nat.le_of_ble_eq_true rfl⟩ (Nat.le_of_ble_eq_true rfl) dX9_openWhatMay_6 ⟨Nat.zero_le _, Nat.zero_le _⟩) (fun H locs hU hS => ?_)
  refine lv_istore_n (lv' := [(2, .int r6), (1, .int r1), (0, .ref (ad k 0))]) X.1 X.2.1 dX9_openWhatMay_9 rfl hl (by decide) rfl (fun ls hl => ?_)
  refine lv_iload_n X.1 X.2.1 dX9_openWhatMay_10 rfl (lv_at hl 1 rfl) ?_
  refine lv_iconst (v := (-1)) X.1 X.2.1 dX9_openWhatMay_11 (by decide) ?_
  refine lv_icmp_eq (tgt := 23) X.1 X.2.1 dX9_openWhatMay_12 (by decide) (fun c12 => ?_) (fun c12 => ?_)
  · replace hf := k_ifP hf c12
    refine lv_aload_n X.1 X.2.1 dX9_openWhatMay_23 rfl (lv_at hl 2 rfl) ?_
    refine k_getw (v := .int (w 0 11)) X hU (sW_0 hk) fl_X9_80 rfl dX9_openWhatMay_24 ?_
    refine lv_if_eq (tgt := 60) X.1 X.2.1 dX9_openWhatMay_27 (by decide) (fun c27 => ?_) (fun c27 => ?_)
    · replace hf := k_ifP hf c27
      have hz := Option.some.inj hf
      subst hz
      exact k_vret X hU hS hr hlk dX9_openWhatMay_60
    · replace hf := k_ifN hf c27
      refine lv_aload_n X.1 X.2.1 dX9_openWhatMay_30 rfl (lv_at hl 2 rfl) ?_
      refine k_getw (v := .ref (ad k 2)) X hU (sW_0 hk) fl_X9_22 rfl dX9_openWhatMay_31 ?_
      refine lv_aload_n X.1 X.2.1 dX9_openWhatMay_34 rfl (lv_at hl 2 rfl) ?_
      refine k_getw (v := .int (w 0 0)) X hU (sW_0 hk) fl_X9_50 rfl dX9_openWhatMay_35 ?_
      obtain ⟨r38, hr38, hf⟩ := k_bdE hf
      refine k_backi X hS (k_runV (As := [.int (w 0 0)]) (rest := []) X hU (k_sC hk k_isC_2) (by decide) rfl vl_X9_139 (c_X0_isPackedAndBelowCeiling X.2.2.2.2.2.2.1 hk (k_uc_s _ _ _) k_isC_2 hr38) rfl rfl rfl hl.1 ⟨Nat.le_of_ble_eq_true rfl, Nat.le_of_ble_eq_true rfl⟩ (Nat.le_of_ble_eq_true rfl) dX9_openWhatMay_38 ⟨Nat.zero_le _, Nat.zero_le _⟩) (fun H locs hU hS => ?_)
      refine lv_if_eq (tgt := 60) X.1 X.2.1 dX9_openWhatMay_41 (by decide) (fun c41 => ?_) (fun c41 => ?_)
      · replace hf := k_ifP hf c41
        have hz := Option.some.inj hf
        subst hz
        exact k_vret X hU hS hr hlk dX9_openWhatMay_60
      · replace hf := k_ifN hf c41
        refine lv_iload_n X.1 X.2.1 dX9_openWhatMay_44 rfl (lv_at hl 0 rfl) ?_
        refine lv_aload_n X.1 X.2.1 dX9_openWhatMay_45 rfl (lv_at hl 2 rfl) ?_
        refine k_getw (v := .ref (ad k 2)) X hU (sW_0 hk) fl_X9_22 rfl dX9_openWhatMay_46 ?_
        refine k_getw (v := .int (w 2 4)) X hU (k_sC hk k_isC_2) fl_X9_142 rfl dX9_openWhatMay_49 ?_
        refine lv_icmp_lt (tgt := 60) X.1 X.2.1 dX9_openWhatMay_52 (by decide) (fun c52 => ?_) (fun c52 => ?_)
        · replace hf := k_ifP hf c52
          have hz := Option.some.inj hf
          subst hz
          exact k_vret X hU hS hr hlk dX9_openWhatMay_60
        · replace hf := k_ifN hf c52
          refine lv_aload_n X.1 X.2.1 dX9_openWhatMay_55 rfl (lv_at hl 2 rfl) ?_
          refine lv_iload_n X.1 X.2.1 dX9_openWhatMay_56 rfl (lv_at hl 0 rfl) ?_
          obtain ⟨r57, hr57, hf⟩ := k_bdE hf
          refine k_backv X hS (k_runV (As := [.int r6]) (rest := []) X hU (sW_0 hk) (by decide) rfl vl_X9_200 (c_X9_openTheReserve X.2.2.2.2.2.2.1 hk (k_uc_s _ _ _) hr57) rfl rfl rfl hl.1 ⟨Nat.le_of_ble_eq_true rfl, Nat.le_of_ble_eq_true rfl⟩ (Nat.le_of_ble_eq_true rfl) dX9_openWhatMay_57 ⟨Nat.zero_le _, Nat.zero_le _⟩) (fun H locs hU hS => ?_)
          rw [k_uc_uc] at hU
          have hz := Option.some.inj hf
          subst hz
          exact k_vret X hU hS hr hlk dX9_openWhatMay_60
  · replace hf := k_ifN hf c12
    refine lv_aload_n X.1 X.2.1 dX9_openWhatMay_15 rfl (lv_at hl 2 rfl) ?_
    refine lv_iload_n X.1 X.2.1 dX9_openWhatMay_16 rfl (lv_at hl 1 rfl) ?_
    obtain ⟨r17, hr17, hf⟩ := k_bdE hf
    refine k_backv X hS (k_runV (As := [.int r1]) (rest := []) X hU (sW_0 hk) (by decide) rfl vl_X9_196 (c_X9_openLayer X.2.2.2.2.2.2.1 hk (k_uc_s _ _ _) hr17) rfl rfl rfl hl.1 ⟨Nat.le_of_ble_eq_true rfl, Nat.le_of_ble_eq_true rfl⟩ (Nat.le_of_ble_eq_true rfl) dX9_openWhatMay_17 ⟨Nat.zero_le _, Nat.zero_le _⟩) (fun H locs hU hS => ?_)
    rw [k_uc_uc] at hU
    refine lv_goto (tgt := 60) X.1 X.2.1 dX9_openWhatMay_20 (by decide) ?_
    have hz := Option.some.inj hf
    subst hz
    exact k_vret X hU hS hr hlk dX9_openWhatMay_60
def rm_X9_tear : Room := { frames := 1, cells := 0, slots := 0, locals := 25 }
set_option maxRecDepth 100000 in
set_option maxHeartbeats 4000000 in
theorem c_X9_tear {l : Launch} {D : va_G} {G : Nat → ClassId} {ad : Nat → Nat → Nat} {u : k_U} (hI : k_ok ad) {k : Nat} (hk : k_isW k) {w : k_M} (hw : u k = w) {q1 : Nat} {a2 : Int32} {a3 : Int32} (hq1 : k_isC q1) {sz : Nat} {r : k_M} (hf : f_X9_tear w q1 a2 a3 = some r) : Met l yX9_tear (.code yX9_tear cX9_tear 4 none :: lw_g) rm_X9_tear (k_Pre D G ad u sz [.ref (ad k 0), .ref (ad k q1), .int a2, .int a3]) (k_Qv D G ad (k_uc u k r) sz) 0 0 (k_A ad sz) := by
  refine k_ofW (by decide +kernel) hI (Nat.le_of_ble_eq_true rfl) ?_
  intro p e s m args below meth c X hr hlk hU hS ls hl
  have hl : lv_has ls 4 [(0, .ref (ad k 0)), (1, .ref (ad k q1)), (2, .int a2), (3, .int a3)] := hl
  have hU : k_Uv D G ad (k_uc u k w) s.heap := by rw [← hw, k_uc_id]; exact hU
  unfold f_X9_tear at hf
  refine lv_aload_n X.1 X.2.1 dX9_tear_0 rfl (lv_at hl 1 rfl) ?_
  refine lv_dup X.1 X.2.1 dX9_tear_1 rfl ?_
  refine k_getw (v := .int (w q1 7)) X hU (k_sC hk hq1) fl_X9_133 rfl dX9_tear_2 ?_
  refine lv_iload_n X.1 X.2.1 dX9_tear_5 rfl (lv_at hl 3 rfl) ?_
  refine lv_iadd X.1 X.2.1 dX9_tear_6 ?_
  obtain ⟨w7, e7, hf⟩ := k_ltE hf
  refine k_putw X hU hS (k_sC hk hq1) fp_X9_133 rfl e7 rfl rfl dX9_tear_7 (fun H locs hU hS => ?_)
  refine lv_aload_n X.1 X.2.1 dX9_tear_10 rfl (lv_at hl 0 rfl) ?_
  refine k_getw (v := .ref (ad k 13)) X hU (sW_0 hk) fl_X9_46 rfl dX9_tear_11 ?_
  refine lv_aload_n X.1 X.2.1 dX9_tear_14 rfl (lv_at hl 0 rfl) ?_
  refine k_getw (v := .int (w7 0 6)) X hU (sW_0 hk) fl_X9_65 rfl dX9_tear_15 ?_
  refine lv_iconst (v := 1) X.1 X.2.1 dX9_tear_18 (by decide) ?_
  refine lv_iload_n X.1 X.2.1 dX9_tear_19 rfl (lv_at hl 2 rfl) ?_
  refine lv_iload_n X.1 X.2.1 dX9_tear_20 rfl (lv_at hl 3 rfl) ?_
  obtain ⟨r21, hr21, hf⟩ := k_bdE hf
  refine k_backv X hS (k_runV (As := [.int (w7 0 6), .int 1, .int a2, .int a3]) (rest := []) X hU (sW_13 hk) (by decide) rfl vl_X9_157 (c_X1_record X.2.2.2.2.2.2.1 hk (k_uc_s _ _ _) hr21) rfl rfl rfl hl.1 ⟨Nat.le_of_ble_eq_true rfl, Nat.le_of_ble_eq_true rfl⟩ (Nat.le_of_ble_eq_true rfl) dX9_tear_21 ⟨Nat.zero_le _, Nat.zero_le _⟩) (fun H locs hU hS => ?_)
  rw [k_uc_uc] at hU
  refine lv_aload_n X.1 X.2.1 dX9_tear_24 rfl (lv_at hl 1 rfl) ?_
  obtain ⟨r25, hr25, hf⟩ := k_bdE hf
  refine k_backi X hS (k_runV (As := []) (rest := []) X hU (k_sC hk hq1) (by decide) rfl vl_X9_136 (c_X0_linesThere X.2.2.2.2.2.2.1 hk (k_uc_s _ _ _) hq1 hr25) rfl rfl rfl hl.1 ⟨Nat.le_of_ble_eq_true rfl, Nat.le_of_ble_eq_true rfl⟩ (Nat.le_of_ble_eq_true rfl) dX9_tear_25 ⟨Nat.zero_le _, Nat.zero_le _⟩) (fun H locs hU hS => ?_)
  refine lv_if_ne (tgt := 53) X.1 X.2.1 dX9_tear_28 (by decide) (fun c28 => ?_) (fun c28 => ?_)
  · replace hf := k_ifN hf c28
    have hz := Option.some.inj hf
    subst hz
    exact k_vret X hU hS hr hlk dX9_tear_53
  · replace hf := k_ifP hf c28
    refine lv_aload_n X.1 X.2.1 dX9_tear_31 rfl (lv_at hl 1 rfl) ?_
    refine lv_iconst (v := 2) X.1 X.2.1 dX9_tear_32 (by decide) ?_
    obtain ⟨w33, e33, hf⟩ := k_ltE hf
    refine k_putw X hU hS (k_sC hk hq1) fp_X9_120 rfl e33 rfl rfl dX9_tear_33 (fun H locs hU hS => ?_)
    refine lv_aload_n X.1 X.2.1 dX9_tear_36 rfl (lv_at hl 0 rfl) ?_
    refine k_getw (v := .ref (ad k 13)) X hU (sW_0 hk) fl_X9_46 rfl dX9_tear_37 ?_
    refine lv_aload_n X.1 X.2.1 dX9_tear_40 rfl (lv_at hl 0 rfl) ?_
    refine k_getw (v := .int (w33 0 6)) X hU (sW_0 hk) fl_X9_65 rfl dX9_tear_41 ?_
    refine lv_iconst (v := 2) X.1 X.2.1 dX9_tear_44 (by decide) ?_
    refine lv_iload_n X.1 X.2.1 dX9_tear_45 rfl (lv_at hl 2 rfl) ?_
    refine lv_aload_n X.1 X.2.1 dX9_tear_46 rfl (lv_at hl 1 rfl) ?_
    refine k_getw (v := .int (w33 q1 0)) X hU (k_sC hk hq1) fl_X9_219 rfl dX9_tear_47 ?_
    obtain ⟨r50, hr50, hf⟩ := k_bdE hf
    refine k_backv X hS (k_runV (As := [.int (w33 0 6), .int 2, .int a2, .int (w33 q1 0)]) (rest := []) X hU (sW_13 hk) (by decide) rfl vl_X9_157 (c_X1_record X.2.2.2.2.2.2.1 hk (k_uc_s _ _ _) hr50) rfl rfl rfl hl.1 ⟨Nat.le_of_ble_eq_true rfl, Nat.le_of_ble_eq_true rfl⟩ (Nat.le_of_ble_eq_true rfl) dX9_tear_50 ⟨Nat.zero_le _, Nat.zero_le _⟩) (fun H locs hU hS => ?_)
    rw [k_uc_uc] at hU
    have hz := Option.some.inj hf
    subst hz
    exact k_vret X hU hS hr hlk dX9_tear_53
def rm_X9_tearAndBrake : Room := { frames := 2, cells := 0, slots := 0, locals := 56 }
set_option maxRecDepth 100000 in
set_option maxHeartbeats 4000000 in
theorem c_X9_tearAndBrake {l : Launch} {D : va_G} {G : Nat → ClassId} {ad : Nat → Nat → Nat} {u : k_U} (hI : k_ok ad) {k : Nat} (hk : k_isW k) {w : k_M} (hw : u k = w) {a1 : Int32} {sz : Nat} {r : (k_M × Int64)} (hf : f_X9_tearAndBrake w a1 = some r) : Met l yX9_tearAndBrake (.code yX9_tearAndBrake cX9_tearAndBrake 10 (some .long) :: lw_g) rm_X9_tearAndBrake (k_Pre D G ad u sz [.ref (ad k 0), .int a1]) (k_Ql D G ad (k_uc u k r.1) r.2 sz) 0 0 (k_A ad sz) := by
  refine k_ofW (by decide +kernel) hI (Nat.le_of_ble_eq_true rfl) ?_
  intro p e s m args below meth c X hr hlk hU hS ls hl
  have hl : lv_has ls 10 [(0, .ref (ad k 0)), (1, .int a1)] := hl
  have hU : k_Uv D G ad (k_uc u k w) s.heap := by rw [← hw, k_uc_id]; exact hU
  have L32 : ∀ (n32 : Nat) (H : Heap) (locs : List Loc) (ls : Array Slot) (w : k_M) (a1 : Int32) (a2 : Int64) (a4 : Int32) (a5 : Int32), k_Uv D G ad (k_uc u k w) H → va_S (k_A ad sz) s.heap H locs → lv_has ls 10 [(0, .ref (ad k 0)), (1, .int a1), (2, .long a2), (4, .int a4), (5, .int a5)] → f_X9_tearAndBrake_32 n32 w a1 a2 a4 a5 = some r → W p l e rm_X9_tearAndBrake s m args below meth c H locs 0 0 (MQ below (k_Ql D G ad (k_uc u k r.1) r.2 sz) args s 0 0 (k_A ad sz)) (F0 m 32 ls []) := by
    intro n32
    induction n32 with
    | zero =>
      intro H locs ls w a1 a2 a4 a5 hU hS hl hf
      cases (show none = some r from hf)
    | succ n32 ih32 =>
      have J118 : ∀ (H : Heap) (locs : List Loc) (ls : Array Slot) (w : k_M) (a1 : Int32) (a2 : Int64) (a4 : Int32) (a5 : Int32), k_Uv D G ad (k_uc u k w) H → va_S (k_A ad sz) s.heap H locs → lv_has ls 10 [(0, .ref (ad k 0)), (1, .int a1), (2, .long a2), (4, .int a4), (5, .int a5)] → f_X9_tearAndBrake_118 (f_X9_tearAndBrake_32 n32) w a1 a2 a4 a5 = some r → W p l e rm_X9_tearAndBrake s m args below meth c H locs 0 0 (MQ below (k_Ql D G ad (k_uc u k r.1) r.2 sz) args s 0 0 (k_A ad sz)) (F0 m 118 ls []) := by
        intro H locs ls w a1 a2 a4 a5 hU hS hl hf
        unfold f_X9_tearAndBrake_118 at hf
        obtain ⟨x118, e118, hf⟩ := k_ltE hf
        refine lv_iinc (v := x118) (lv' := [(5, .int x118), (0, .ref (ad k 0)), (1, .int a1), (2, .long a2), (4, .int a4)]) X.1 X.2.1 dX9_tearAndBrake_118 hl (k := 4) rfl (by rw [e118]; rfl) (by decide) rfl (fun ls hl => ?_)
        refine lv_goto (tgt := 32) X.1 X.2.1 dX9_tearAndBrake_121 (by decide) ?_
        exact ih32 _ _ _ w a1 a2 a4 x118 hU hS (lv_sub hl [1, 2, 3, 4, 0] rfl) hf
      have J116 : ∀ (H : Heap) (locs : List Loc) (ls : Array Slot) (w : k_M) (a1 : Int32) (a4 : Int32) (a5 : Int32) (as0 : Int64) (as1 : Int64), k_Uv D G ad (k_uc u k w) H → va_S (k_A ad sz) s.heap H locs → lv_has ls 10 [(0, .ref (ad k 0)), (1, .int a1), (4, .int a4), (5, .int a5)] → f_X9_tearAndBrake_116 (f_X9_tearAndBrake_32 n32) w a1 a4 a5 as0 as1 = some r → W p l e rm_X9_tearAndBrake s m args below meth c H locs 0 0 (MQ below (k_Ql D G ad (k_uc u k r.1) r.2 sz) args s 0 0 (k_A ad sz)) (F0 m 116 ls [.long as0, .long as1]) := by
        intro H locs ls w a1 a4 a5 as0 as1 hU hS hl hf
        unfold f_X9_tearAndBrake_116 at hf
        refine lv_ladd X.1 X.2.1 dX9_tearAndBrake_116 ?_
        obtain ⟨x117, e117, hf⟩ := k_ltE hf
        refine k_nml e117 ?_
        refine lv_lstore_n (lv' := [(2, .long x117), (0, .ref (ad k 0)), (1, .int a1), (4, .int a4), (5, .int a5)]) X.1 X.2.1 dX9_tearAndBrake_117 rfl hl (by decide) rfl (fun ls hl => ?_)
        exact J118 _ _ _ w a1 x117 a4 a5 hU hS (lv_sub hl [1, 2, 0, 3, 4] rfl) hf
      have J100 : ∀ (H : Heap) (locs : List Loc) (ls : Array Slot) (w : k_M) (a1 : Int32) (a2 : Int64) (a4 : Int32) (a5 : Int32) (q6 : Nat) (a7 : Int64), k_isC q6 → k_Uv D G ad (k_uc u k w) H → va_S (k_A ad sz) s.heap H locs → lv_has ls 10 [(0, .ref (ad k 0)), (1, .int a1), (2, .long a2), (4, .int a4), (5, .int a5), (6, .ref (ad k q6)), (7, .long a7)] → f_X9_tearAndBrake_100 (f_X9_tearAndBrake_32 n32) w a1 a2 a4 a5 q6 a7 = some r → W p l e rm_X9_tearAndBrake s m args below meth c H locs 0 0 (MQ below (k_Ql D G ad (k_uc u k r.1) r.2 sz) args s 0 0 (k_A ad sz)) (F0 m 100 ls []) := by
        intro H locs ls w a1 a2 a4 a5 q6 a7 hq6 hU hS hl hf
        unfold f_X9_tearAndBrake_100 at hf
        refine lv_lload_n X.1 X.2.1 dX9_tearAndBrake_100 rfl (lv_at hl 2 rfl) ?_
        refine lv_aload X.1 X.2.1 dX9_tearAndBrake_101 (lv_at hl 5 rfl) ?_
        refine k_getw (v := .int (w q6 5)) X hU (k_sC hk hq6) fl_X9_120 rfl dX9_tearAndBrake_103 ?_
        refine lv_iconst (v := 1) X.1 X.2.1 dX9_tearAndBrake_106 (by decide) ?_
        refine lv_icmp_ne (tgt := 115) X.1 X.2.1 dX9_tearAndBrake_107 (by decide) (fun c107 => ?_) (fun c107 => ?_)
        · replace hf := k_ifN hf c107
          refine lv_lconst (v := 0) X.1 X.2.1 dX9_tearAndBrake_115 (by decide) ?_
          exact J116 _ _ _ w a1 a4 a5 (0 : Int64) a2 hU hS (lv_sub hl [0, 1, 3, 4] rfl) hf
        · replace hf := k_ifP hf c107
          refine lv_lload X.1 X.2.1 dX9_tearAndBrake_110 (lv_at hl 6 rfl) ?_
          refine lv_goto (tgt := 116) X.1 X.2.1 dX9_tearAndBrake_112 (by decide) ?_
          exact J116 _ _ _ w a1 a4 a5 a7 a2 hU hS (lv_sub hl [0, 1, 3, 4] rfl) hf
      intro H locs ls w a1 a2 a4 a5 hU hS hl hf
      replace hf : f_X9_tearAndBrake_32_b (f_X9_tearAndBrake_32 n32) w a1 a2 a4 a5 = some r := hf
      unfold f_X9_tearAndBrake_32_b at hf
      refine lv_iload X.1 X.2.1 dX9_tearAndBrake_32 (lv_at hl 4 rfl) ?_
      refine lv_iload X.1 X.2.1 dX9_tearAndBrake_34 (lv_at hl 3 rfl) ?_
      refine lv_icmp_ge (tgt := 124) X.1 X.2.1 dX9_tearAndBrake_36 (by decide) (fun c36 => ?_) (fun c36 => ?_)
      · replace hf := k_ifP hf c36
        refine lv_lload_n X.1 X.2.1 dX9_tearAndBrake_124 rfl (lv_at hl 2 rfl) ?_
        have hz := Option.some.inj hf
        subst hz
        exact k_lret (v := a2) X hU hS hr hlk rfl dX9_tearAndBrake_125
      · replace hf := k_ifN hf c36
        refine lv_aload_n X.1 X.2.1 dX9_tearAndBrake_39 rfl (lv_at hl 0 rfl) ?_
        refine lv_iload X.1 X.2.1 dX9_tearAndBrake_40 (lv_at hl 4 rfl) ?_
        obtain ⟨r42, hr42, hf⟩ := k_bdE hf
        refine k_backr X hS (k_runV (As := [.int a5]) (rest := []) X hU (sW_0 hk) (by decide) rfl vl_X9_116 (c_X9_chuteAt X.2.2.2.2.2.2.1 hk (k_uc_s _ _ _) hr42) rfl rfl rfl hl.1 ⟨Nat.le_of_ble_eq_true rfl, Nat.le_of_ble_eq_true rfl⟩ (Nat.le_of_ble_eq_true rfl) dX9_tearAndBrake_42 ⟨Nat.zero_le _, Nat.zero_le _⟩) (fun H locs hU hS => ?_)
        obtain ⟨hi42, hf⟩ := k_ckE hf
        refine lv_astore (lv' := [(6, .ref (ad k r42)), (0, .ref (ad k 0)), (1, .int a1), (2, .long a2), (4, .int a4), (5, .int a5)]) X.1 X.2.1 dX9_tearAndBrake_45 hl (by decide) rfl (fun ls hl => ?_)
        refine lv_aload X.1 X.2.1 dX9_tearAndBrake_47 (lv_at hl 0 rfl) ?_
        refine k_getw (v := .int (w r42 5)) X hU (k_sC hk hi42) fl_X9_120 rfl dX9_tearAndBrake_49 ?_
        refine lv_iconst (v := 1) X.1 X.2.1 dX9_tearAndBrake_52 (by decide) ?_
        refine lv_icmp_ne (tgt := 118) X.1 X.2.1 dX9_tearAndBrake_53 (by decide) (fun c53 => ?_) (fun c53 => ?_)
        · replace hf := k_ifN hf c53
          exact J118 _ _ _ w a1 a2 a4 a5 hU hS (lv_sub hl [1, 2, 3, 4, 5] rfl) hf
        · replace hf := k_ifP hf c53
          refine lv_aload X.1 X.2.1 dX9_tearAndBrake_56 (lv_at hl 0 rfl) ?_
          refine lv_iload_n X.1 X.2.1 dX9_tearAndBrake_58 rfl (lv_at hl 2 rfl) ?_
          refine lv_aload_n X.1 X.2.1 dX9_tearAndBrake_59 rfl (lv_at hl 1 rfl) ?_
          refine k_getw (v := .int (w 0 1)) X hU (sW_0 hk) fl_X9_53 rfl dX9_tearAndBrake_60 ?_
          obtain ⟨r63, hr63, hf⟩ := k_bdE hf
          refine k_backl X hS (k_runV (As := [.int a1, .int (w 0 1)]) (rest := []) X hU (k_sC hk hi42) (by decide) rfl vl_X9_207 (c_X0_pull X.2.2.2.2.2.2.1 hk (k_uc_s _ _ _) hi42 hr63) rfl rfl rfl hl.1 ⟨Nat.le_of_ble_eq_true rfl, Nat.le_of_ble_eq_true rfl⟩ (Nat.le_of_ble_eq_true rfl) dX9_tearAndBrake_63 ⟨Nat.zero_le _, Nat.zero_le _⟩) (fun H locs hU hS => ?_)
          refine lv_lstore (lv' := [(7, .long r63), (6, .ref (ad k r42)), (0, .ref (ad k 0)), (1, .int a1), (2, .long a2), (4, .int a4), (5, .int a5)]) X.1 X.2.1 dX9_tearAndBrake_66 hl (by decide) rfl (fun ls hl => ?_)
          refine lv_aload X.1 X.2.1 dX9_tearAndBrake_68 (lv_at hl 1 rfl) ?_
          refine lv_lload X.1 X.2.1 dX9_tearAndBrake_70 (lv_at hl 0 rfl) ?_
          refine lv_aload_n X.1 X.2.1 dX9_tearAndBrake_72 rfl (lv_at hl 2 rfl) ?_
          refine k_getw (v := .int (w 0 5)) X hU (sW_0 hk) fl_X9_62 rfl dX9_tearAndBrake_73 ?_
          refine lv_aload_n X.1 X.2.1 dX9_tearAndBrake_76 rfl (lv_at hl 2 rfl) ?_
          refine k_getw (v := .int (w 0 4)) X hU (sW_0 hk) fl_X9_59 rfl dX9_tearAndBrake_77 ?_
          obtain ⟨r80, hr80, hf⟩ := k_bdE hf
          refine k_backi X hS (k_runV (As := [.long r63, .int (w 0 5), .int (w 0 4)]) (rest := []) X hU (k_sC hk hi42) (by decide) rfl vl_X9_211 (c_X0_linesThatTear X.2.2.2.2.2.2.1 hk (k_uc_s _ _ _) hi42 hr80) rfl rfl rfl hl.1 ⟨Nat.le_of_ble_eq_true rfl, Nat.le_of_ble_eq_true rfl⟩ (Nat.le_of_ble_eq_true rfl) dX9_tearAndBrake_80 ⟨Nat.zero_le _, Nat.zero_le _⟩) (fun H locs hU hS => ?_)
          refine lv_istore (lv' := [(9, .int r80), (7, .long r63), (6, .ref (ad k r42)), (0, .ref (ad k 0)), (1, .int a1), (2, .long a2), (4, .int a4), (5, .int a5)]) X.1 X.2.1 dX9_tearAndBrake_83 hl (by decide) rfl (fun ls hl => ?_)
          refine lv_iload X.1 X.2.1 dX9_tearAndBrake_85 (lv_at hl 0 rfl) ?_
          refine lv_if_le (tgt := 100) X.1 X.2.1 dX9_tearAndBrake_87 (by decide) (fun c87 => ?_) (fun c87 => ?_)
          · replace hf := k_ifP hf c87
            exact J100 _ _ _ w a1 a2 a4 a5 r42 r63 (hi42) hU hS (lv_sub hl [3, 4, 5, 6, 7, 2, 1] rfl) hf
          · replace hf := k_ifN hf c87
            refine lv_aload_n X.1 X.2.1 dX9_tearAndBrake_90 rfl (lv_at hl 3 rfl) ?_
            refine lv_aload X.1 X.2.1 dX9_tearAndBrake_91 (lv_at hl 2 rfl) ?_
            refine lv_iload X.1 X.2.1 dX9_tearAndBrake_93 (lv_at hl 7 rfl) ?_
            refine lv_iload X.1 X.2.1 dX9_tearAndBrake_95 (lv_at hl 0 rfl) ?_
            obtain ⟨r97, hr97, hf⟩ := k_bdE hf
            refine k_backv X hS (k_runV (As := [.ref (ad k r42), .int a5, .int r80]) (rest := []) X hU (sW_0 hk) (by decide) rfl vl_X9_215 (c_X9_tear X.2.2.2.2.2.2.1 hk (k_uc_s _ _ _) hi42 hr97) rfl rfl rfl hl.1 ⟨Nat.le_of_ble_eq_true rfl, Nat.le_of_ble_eq_true rfl⟩ (Nat.le_of_ble_eq_true rfl) dX9_tearAndBrake_97 ⟨Nat.zero_le _, Nat.zero_le _⟩) (fun H locs hU hS => ?_)
            rw [k_uc_uc] at hU
            exact J100 _ _ _ r97 a1 a2 a4 a5 r42 r63 (hi42) hU hS (lv_sub hl [3, 4, 5, 6, 7, 2, 1] rfl) hf
  unfold f_X9_tearAndBrake at hf
  refine lv_ldc2 (v := 2) X.1 X.2.1 X.2.2.2.1 (X.2.2.2.2.1 _ t_771) dX9_tearAndBrake_0 ?_
  refine lv_iload_n X.1 X.2.1 dX9_tearAndBrake_3 rfl (lv_at hl 1 rfl) ?_
  refine lv_i2l (v := a1.toInt64) X.1 X.2.1 dX9_tearAndBrake_4 rfl ?_
  refine lv_lmul X.1 X.2.1 dX9_tearAndBrake_5 ?_
  refine lv_aload_n X.1 X.2.1 dX9_tearAndBrake_6 rfl (lv_at hl 0 rfl) ?_
  refine k_getw (v := .int (w 0 1)) X hU (sW_0 hk) fl_X9_53 rfl dX9_tearAndBrake_7 ?_
  refine lv_i2l (v := (w 0 1).toInt64) X.1 X.2.1 dX9_tearAndBrake_10 rfl ?_
  refine lv_lmul X.1 X.2.1 dX9_tearAndBrake_11 ?_
  refine lv_aload_n X.1 X.2.1 dX9_tearAndBrake_12 rfl (lv_at hl 0 rfl) ?_
  refine k_getw (v := .int (w 0 1)) X hU (sW_0 hk) fl_X9_53 rfl dX9_tearAndBrake_13 ?_
  refine lv_i2l (v := (w 0 1).toInt64) X.1 X.2.1 dX9_tearAndBrake_16 rfl ?_
  refine lv_lmul X.1 X.2.1 dX9_tearAndBrake_17 ?_
  refine lv_ldc2 (v := 10000) X.1 X.2.1 X.2.2.2.1 (X.2.2.2.2.1 _ t_772) dX9_tearAndBrake_18 ?_
  refine lv_ldiv X.1 X.2.1 dX9_tearAndBrake_21 (by decide) ?_
  obtain ⟨x22, e22, hf⟩ := k_ltE hf
  refine k_nml e22 ?_
  refine lv_lstore_n (lv' := [(2, .long x22), (0, .ref (ad k 0)), (1, .int a1)]) X.1 X.2.1 dX9_tearAndBrake_22 rfl hl (by decide) rfl (fun ls hl => ?_)
  refine lv_aload_n X.1 X.2.1 dX9_tearAndBrake_23 rfl (lv_at hl 1 rfl) ?_
  obtain ⟨r24, hr24, hf⟩ := k_bdE hf
  refine k_backi X hS (k_runV (As := []) (rest := []) X hU (sW_0 hk) (by decide) rfl vl_X9_104 (c_X9_chuteCount X.2.2.2.2.2.2.1 hk (k_uc_s _ _ _) hr24) rfl rfl rfl hl.1 ⟨Nat.le_of_ble_eq_true rfl, Nat.le_of_ble_eq_true rfl⟩ (Nat.le_of_ble_eq_true rfl) dX9_tearAndBrake_24 ⟨Nat.zero_le _, Nat.zero_le _⟩) (fun H locs hU hS => ?_)
  refine lv_istore (lv' := [(4, .int r24), (2, .long x22), (0, .ref (ad k 0)), (1, .int a1)]) X.1 X.2.1 dX9_tearAndBrake_27 hl (by decide) rfl (fun ls hl => ?_)
  refine lv_iconst (v := 0) X.1 X.2.1 dX9_tearAndBrake_29 (by decide) ?_
  refine lv_istore (lv' := [(5, .int 0), (4, .int r24), (2, .long x22), (0, .ref (ad k 0)), (1, .int a1)]) X.1 X.2.1 dX9_tearAndBrake_30 hl (by decide) rfl (fun ls hl => ?_)
  exact L32 k_N _ _ _ w a1 x22 r24 0 hU hS (lv_sub hl [3, 4, 2, 1, 0] rfl) hf
def rm_X9_landingResult : Room := { frames := 2, cells := 0, slots := 0, locals := 44 }
set_option maxRecDepth 100000 in
set_option maxHeartbeats 4000000 in
theorem c_X9_landingResult {l : Launch} {D : va_G} {G : Nat → ClassId} {ad : Nat → Nat → Nat} {u : k_U} (hI : k_ok ad) {k : Nat} (hk : k_isW k) {w : k_M} (hw : u k = w) {sz : Nat} {r : Int32} (hf : f_X9_landingResult w = some r) : Met l yX9_landingResult (.code yX9_landingResult cX9_landingResult 2 (some .int) :: lw_g) rm_X9_landingResult (k_Pre D G ad u sz [.ref (ad k 0)]) (k_Qi D G ad u r sz) 0 0 (k_A ad sz) := by
  refine k_ofW (by decide +kernel) hI (Nat.le_of_ble_eq_true rfl) ?_
  intro p e s m args below meth c X hr hlk hU hS ls hl
  have hl : lv_has ls 2 [(0, .ref (ad k 0))] := hl
  have hU : k_Uv D G ad (k_uc u k w) s.heap := by rw [← hw, k_uc_id]; exact hU
  unfold f_X9_landingResult at hf
  refine lv_aload_n X.1 X.2.1 dX9_landingResult_0 rfl (lv_at hl 0 rfl) ?_
  obtain ⟨r1, hr1, hf⟩ := k_bdE hf
  refine k_backi X hS (k_runV (As := []) (rest := []) X hU (sW_0 hk) (by decide) rfl vl_X9_190 (c_X9_hasLanded X.2.2.2.2.2.2.1 hk (k_uc_s _ _ _) hr1) rfl rfl rfl hl.1 ⟨Nat.le_of_ble_eq_true rfl, Nat.le_of_ble_eq_true rfl⟩ (Nat.le_of_ble_eq_true rfl) dX9_landingResult_1 ⟨Nat.zero_le _, Nat.zero_le _⟩) (fun H locs hU hS => ?_)
  refine lv_if_ne (tgt := 9) X.1 X.2.1 dX9_landingResult_4 (by decide) (fun c4 => ?_) (fun c4 => ?_)
  · replace hf := k_ifN hf c4
    refine lv_aload_n X.1 X.2.1 dX9_landingResult_9 rfl (lv_at hl 0 rfl) ?_
    refine k_getw (v := .ref (ad k 9)) X hU (sW_0 hk) fl_X9_39 rfl dX9_landingResult_10 ?_
    refine lv_aload_n X.1 X.2.1 dX9_landingResult_13 rfl (lv_at hl 0 rfl) ?_
    refine k_getw (v := .int (w 0 2)) X hU (sW_0 hk) fl_X9_56 rfl dX9_landingResult_14 ?_
    obtain ⟨r17, hr17, hf⟩ := k_bdE hf
    refine k_backi X hS (k_runV (As := [.int (w 0 2)]) (rest := []) X hU (sW_9 hk) (by decide) rfl vl_X9_222 (c_X8_firstWith X.2.2.2.2.2.2.1 hk (k_uc_s _ _ _) hr17) rfl rfl rfl hl.1 ⟨Nat.le_of_ble_eq_true rfl, Nat.le_of_ble_eq_true rfl⟩ (Nat.le_of_ble_eq_true rfl) dX9_landingResult_17 ⟨Nat.zero_le _, Nat.zero_le _⟩) (fun H locs hU hS => ?_)
    refine lv_istore_n (lv' := [(1, .int r17), (0, .ref (ad k 0))]) X.1 X.2.1 dX9_landingResult_20 rfl hl (by decide) rfl (fun ls hl => ?_)
    refine lv_iload_n X.1 X.2.1 dX9_landingResult_21 rfl (lv_at hl 0 rfl) ?_
    refine lv_iconst (v := (-1)) X.1 X.2.1 dX9_landingResult_22 (by decide) ?_
    refine lv_icmp_ne (tgt := 28) X.1 X.2.1 dX9_landingResult_23 (by decide) (fun c23 => ?_) (fun c23 => ?_)
    · replace hf := k_ifN hf c23
      refine lv_aload_n X.1 X.2.1 dX9_landingResult_28 rfl (lv_at hl 1 rfl) ?_
      refine k_getw (v := .int (w 0 1)) X hU (sW_0 hk) fl_X9_53 rfl dX9_landingResult_29 ?_
      refine lv_aload_n X.1 X.2.1 dX9_landingResult_32 rfl (lv_at hl 1 rfl) ?_
      refine k_getw (v := .ref (ad k 9)) X hU (sW_0 hk) fl_X9_39 rfl dX9_landingResult_33 ?_
      refine k_getw (v := .ref (ad k 12)) X hU (sW_9 hk) fl_X9_226 rfl dX9_landingResult_36 ?_
      refine lv_iload_n X.1 X.2.1 dX9_landingResult_39 rfl (lv_at hl 0 rfl) ?_
      obtain ⟨hi40, hf⟩ := k_ckE hf
      refine k_ildw X hU (sW_12 hk) (k_vin (n := 8) hi40 (by decide)) rfl dX9_landingResult_40 ?_
      refine lv_icmp_gt (tgt := 48) X.1 X.2.1 dX9_landingResult_41 (by decide) (fun c41 => ?_) (fun c41 => ?_)
      · replace hf := k_ifP hf c41
        refine lv_iconst (v := 2) X.1 X.2.1 dX9_landingResult_48 (by decide) ?_
        rw [← hw, k_uc_id] at hU
        have hz := Option.some.inj hf
        subst hz
        exact k_iret (v := 2) X hU hS hr hlk rfl rfl dX9_landingResult_49
      · replace hf := k_ifN hf c41
        refine lv_iconst (v := 1) X.1 X.2.1 dX9_landingResult_44 (by decide) ?_
        refine lv_goto (tgt := 49) X.1 X.2.1 dX9_landingResult_45 (by decide) ?_
        rw [← hw, k_uc_id] at hU
        have hz := Option.some.inj hf
        subst hz
        exact k_iret (v := 1) X hU hS hr hlk rfl rfl dX9_landingResult_49
    · replace hf := k_ifP hf c23
      refine lv_iconst (v := 3) X.1 X.2.1 dX9_landingResult_26 (by decide) ?_
      rw [← hw, k_uc_id] at hU
      have hz := Option.some.inj hf
      subst hz
      exact k_iret (v := 3) X hU hS hr hlk rfl rfl dX9_landingResult_27
  · replace hf := k_ifP hf c4
    refine lv_iconst (v := 0) X.1 X.2.1 dX9_landingResult_7 (by decide) ?_
    rw [← hw, k_uc_id] at hU
    have hz := Option.some.inj hf
    subst hz
    exact k_iret (v := 0) X hU hS hr hlk rfl rfl dX9_landingResult_8
def rm_X9_passSecond : Room := { frames := 3, cells := 0, slots := 0, locals := 85 }
set_option maxRecDepth 100000 in
set_option maxHeartbeats 4000000 in
theorem c_X9_passSecond {l : Launch} {D : va_G} {G : Nat → ClassId} {ad : Nat → Nat → Nat} {u : k_U} (hI : k_ok ad) {k : Nat} (hk : k_isW k) {w : k_M} (hw : u k = w) {sz : Nat} {r : k_M} (hf : f_X9_passSecond w = some r) : Met l yX9_passSecond (.code yX9_passSecond cX9_passSecond 7 none :: lw_g) rm_X9_passSecond (k_Pre D G ad u sz [.ref (ad k 0)]) (k_Qv D G ad (k_uc u k r) sz) 0 0 (k_A ad sz) := by
  refine k_ofW (by decide +kernel) hI (Nat.le_of_ble_eq_true rfl) ?_
  intro p e s m args below meth c X hr hlk hU hS ls hl
  have hl : lv_has ls 7 [(0, .ref (ad k 0))] := hl
  have hU : k_Uv D G ad (k_uc u k w) s.heap := by rw [← hw, k_uc_id]; exact hU
  have J211 : ∀ (H : Heap) (locs : List Loc) (ls : Array Slot) (w : k_M), k_Uv D G ad (k_uc u k w) H → va_S (k_A ad sz) s.heap H locs → lv_has ls 7 [(0, .ref (ad k 0))] → f_X9_passSecond_211 w = some r → W p l e rm_X9_passSecond s m args below meth c H locs 0 0 (MQ below (k_Qv D G ad (k_uc u k r) sz) args s 0 0 (k_A ad sz)) (F0 m 211 ls []) := by
    intro H locs ls w hU hS hl hf
    unfold f_X9_passSecond_211 at hf
    refine lv_aload_n X.1 X.2.1 dX9_passSecond_211 rfl (lv_at hl 0 rfl) ?_
    refine lv_dup X.1 X.2.1 dX9_passSecond_212 rfl ?_
    refine k_getw (v := .int (w 0 6)) X hU (sW_0 hk) fl_X9_65 rfl dX9_passSecond_213 ?_
    refine lv_iconst (v := 1) X.1 X.2.1 dX9_passSecond_216 (by decide) ?_
    refine lv_iadd X.1 X.2.1 dX9_passSecond_217 ?_
    obtain ⟨w218, e218, hf⟩ := k_ltE hf
    refine k_putw X hU hS (sW_0 hk) fp_X9_65 rfl e218 rfl rfl dX9_passSecond_218 (fun H locs hU hS => ?_)
    have hz := Option.some.inj hf
    subst hz
    exact k_vret X hU hS hr hlk dX9_passSecond_221
  have J151 : ∀ (H : Heap) (locs : List Loc) (ls : Array Slot) (w : k_M), k_Uv D G ad (k_uc u k w) H → va_S (k_A ad sz) s.heap H locs → lv_has ls 7 [(0, .ref (ad k 0))] → f_X9_passSecond_151 w = some r → W p l e rm_X9_passSecond s m args below meth c H locs 0 0 (MQ below (k_Qv D G ad (k_uc u k r) sz) args s 0 0 (k_A ad sz)) (F0 m 151 ls []) := by
    intro H locs ls w hU hS hl hf
    unfold f_X9_passSecond_151 at hf
    refine lv_aload_n X.1 X.2.1 dX9_passSecond_151 rfl (lv_at hl 0 rfl) ?_
    refine k_getw (v := .int (w 0 1)) X hU (sW_0 hk) fl_X9_53 rfl dX9_passSecond_152 ?_
    refine lv_aload_n X.1 X.2.1 dX9_passSecond_155 rfl (lv_at hl 0 rfl) ?_
    refine k_getw (v := .int (w 0 0)) X hU (sW_0 hk) fl_X9_50 rfl dX9_passSecond_156 ?_
    refine k_mini_r X (mX9_181) hl.1 (Nat.le_of_ble_eq_true rfl) (Nat.le_of_ble_eq_true rfl) ⟨Nat.zero_le _, Nat.zero_le _⟩ dX9_passSecond_159 ?_
    obtain ⟨x162, e162, hf⟩ := k_ltE hf
    refine k_nmi e162 ?_
    refine lv_istore (lv' := [(6, .int x162), (0, .ref (ad k 0))]) X.1 X.2.1 dX9_passSecond_162 hl (by decide) rfl (fun ls hl => ?_)
    refine lv_aload_n X.1 X.2.1 dX9_passSecond_164 rfl (lv_at hl 1 rfl) ?_
    refine lv_dup X.1 X.2.1 dX9_passSecond_165 rfl ?_
    refine k_getw (v := .int (w 0 0)) X hU (sW_0 hk) fl_X9_50 rfl dX9_passSecond_166 ?_
    refine lv_iload X.1 X.2.1 dX9_passSecond_169 (lv_at hl 0 rfl) ?_
    refine lv_isub X.1 X.2.1 dX9_passSecond_171 ?_
    obtain ⟨w172, e172, hf⟩ := k_ltE hf
    refine k_putw X hU hS (sW_0 hk) fp_X9_50 rfl e172 rfl rfl dX9_passSecond_172 (fun H locs hU hS => ?_)
    refine lv_aload_n X.1 X.2.1 dX9_passSecond_175 rfl (lv_at hl 1 rfl) ?_
    refine lv_dup X.1 X.2.1 dX9_passSecond_176 rfl ?_
    refine k_getw (v := .int (w172 0 8)) X hU (sW_0 hk) fl_X9_71 rfl dX9_passSecond_177 ?_
    refine lv_iload X.1 X.2.1 dX9_passSecond_180 (lv_at hl 0 rfl) ?_
    refine lv_iadd X.1 X.2.1 dX9_passSecond_182 ?_
    obtain ⟨w183, e183, hf⟩ := k_ltE hf
    refine k_putw X hU hS (sW_0 hk) fp_X9_71 rfl e183 rfl rfl dX9_passSecond_183 (fun H locs hU hS => ?_)
    refine lv_aload_n X.1 X.2.1 dX9_passSecond_186 rfl (lv_at hl 1 rfl) ?_
    obtain ⟨r187, hr187, hf⟩ := k_bdE hf
    refine k_backi X hS (k_runV (As := []) (rest := []) X hU (sW_0 hk) (by decide) rfl vl_X9_190 (c_X9_hasLanded X.2.2.2.2.2.2.1 hk (k_uc_s _ _ _) hr187) rfl rfl rfl hl.1 ⟨Nat.le_of_ble_eq_true rfl, Nat.le_of_ble_eq_true rfl⟩ (Nat.le_of_ble_eq_true rfl) dX9_passSecond_187 ⟨Nat.zero_le _, Nat.zero_le _⟩) (fun H locs hU hS => ?_)
    refine lv_if_eq (tgt := 211) X.1 X.2.1 dX9_passSecond_190 (by decide) (fun c190 => ?_) (fun c190 => ?_)
    · replace hf := k_ifP hf c190
      exact J211 _ _ _ w183 hU hS (lv_sub hl [1] rfl) hf
    · replace hf := k_ifN hf c190
      refine lv_aload_n X.1 X.2.1 dX9_passSecond_193 rfl (lv_at hl 1 rfl) ?_
      refine k_getw (v := .ref (ad k 13)) X hU (sW_0 hk) fl_X9_46 rfl dX9_passSecond_194 ?_
      refine lv_aload_n X.1 X.2.1 dX9_passSecond_197 rfl (lv_at hl 1 rfl) ?_
      refine k_getw (v := .int (w183 0 6)) X hU (sW_0 hk) fl_X9_65 rfl dX9_passSecond_198 ?_
      refine lv_bipush (v := 6) X.1 X.2.1 dX9_passSecond_201 (by decide) ?_
      refine lv_iconst (v := (-1)) X.1 X.2.1 dX9_passSecond_203 (by decide) ?_
      refine lv_aload_n X.1 X.2.1 dX9_passSecond_204 rfl (lv_at hl 1 rfl) ?_
      obtain ⟨r205, hr205, hf⟩ := k_bdE hf
      refine k_backi X hS (k_runV (As := []) (rest := [.int (-1), .int 6, .int (w183 0 6), .ref (ad k 13)]) X hU (sW_0 hk) (by decide) rfl vl_X9_193 (c_X9_landingResult X.2.2.2.2.2.2.1 hk (k_uc_s _ _ _) hr205) rfl rfl rfl hl.1 ⟨Nat.le_of_ble_eq_true rfl, Nat.le_of_ble_eq_true rfl⟩ (Nat.le_of_ble_eq_true rfl) dX9_passSecond_205 ⟨Nat.zero_le _, Nat.zero_le _⟩) (fun H locs hU hS => ?_)
      obtain ⟨r208, hr208, hf⟩ := k_bdE hf
      refine k_backv X hS (k_runV (As := [.int (w183 0 6), .int 6, .int (-1), .int r205]) (rest := []) X hU (sW_13 hk) (by decide) rfl vl_X9_157 (c_X1_record X.2.2.2.2.2.2.1 hk (k_uc_s _ _ _) hr208) rfl rfl rfl hl.1 ⟨Nat.le_of_ble_eq_true rfl, Nat.le_of_ble_eq_true rfl⟩ (Nat.le_of_ble_eq_true rfl) dX9_passSecond_208 ⟨Nat.zero_le _, Nat.zero_le _⟩) (fun H locs hU hS => ?_)
      rw [k_uc_uc] at hU
      exact J211 _ _ _ r208 hU hS (lv_sub hl [1] rfl) hf
  have J16 : ∀ (H : Heap) (locs : List Loc) (ls : Array Slot) (w : k_M) (a1 : Int32), k_Uv D G ad (k_uc u k w) H → va_S (k_A ad sz) s.heap H locs → lv_has ls 7 [(0, .ref (ad k 0)), (1, .int a1)] → f_X9_passSecond_16 w a1 = some r → W p l e rm_X9_passSecond s m args below meth c H locs 0 0 (MQ below (k_Qv D G ad (k_uc u k r) sz) args s 0 0 (k_A ad sz)) (F0 m 16 ls []) := by
    intro H locs ls w a1 hU hS hl hf
    unfold f_X9_passSecond_16 at hf
    refine lv_aload_n X.1 X.2.1 dX9_passSecond_16 rfl (lv_at hl 0 rfl) ?_
    refine lv_iload_n X.1 X.2.1 dX9_passSecond_17 rfl (lv_at hl 1 rfl) ?_
    obtain ⟨r18, hr18, hf⟩ := k_bdE hf
    refine k_backl X hS (k_runV (As := [.int a1]) (rest := []) X hU (sW_0 hk) (by decide) rfl vl_X9_170 (c_X9_tearAndBrake X.2.2.2.2.2.2.1 hk (k_uc_s _ _ _) hr18) rfl rfl rfl hl.1 ⟨Nat.le_of_ble_eq_true rfl, Nat.le_of_ble_eq_true rfl⟩ (Nat.le_of_ble_eq_true rfl) dX9_passSecond_18 ⟨Nat.zero_le _, Nat.zero_le _⟩) (fun H locs hU hS => ?_)
    rw [k_uc_uc] at hU
    refine lv_lstore_n (lv' := [(2, .long r18.2), (0, .ref (ad k 0)), (1, .int a1)]) X.1 X.2.1 dX9_passSecond_21 rfl hl (by decide) rfl (fun ls hl => ?_)
    refine lv_aload_n X.1 X.2.1 dX9_passSecond_22 rfl (lv_at hl 1 rfl) ?_
    refine k_getw (v := .int (r18.1 0 1)) X hU (sW_0 hk) fl_X9_53 rfl dX9_passSecond_23 ?_
    refine lv_bipush (v := 10) X.1 X.2.1 dX9_passSecond_26 (by decide) ?_
    refine lv_iadd X.1 X.2.1 dX9_passSecond_28 ?_
    refine lv_i2l (v := ((r18.1 0 1) + 10).toInt64) X.1 X.2.1 dX9_passSecond_29 rfl ?_
    refine lv_lload_n X.1 X.2.1 dX9_passSecond_30 rfl (lv_at hl 0 rfl) ?_
    refine lv_aload_n X.1 X.2.1 dX9_passSecond_31 rfl (lv_at hl 1 rfl) ?_
    refine k_getw (v := .int (r18.1 0 3)) X hU (sW_0 hk) fl_X9_9 rfl dX9_passSecond_32 ?_
    refine lv_i2l (v := (r18.1 0 3).toInt64) X.1 X.2.1 dX9_passSecond_35 rfl ?_
    obtain ⟨hi36, hf⟩ := k_ckE hf
    refine lv_ldiv X.1 X.2.1 dX9_passSecond_36 hi36 ?_
    refine lv_lsub X.1 X.2.1 dX9_passSecond_37 ?_
    refine lv_l2i (v := ((((r18.1 0 1) + 10).toInt64) - (r18.2 / ((r18.1 0 3).toInt64))).toInt32) X.1 X.2.1 dX9_passSecond_38 rfl ?_
    obtain ⟨x39, e39, hf⟩ := k_ltE hf
    refine k_nmi e39 ?_
    refine lv_istore (lv' := [(4, .int x39), (2, .long r18.2), (0, .ref (ad k 0)), (1, .int a1)]) X.1 X.2.1 dX9_passSecond_39 hl (by decide) rfl (fun ls hl => ?_)
    refine lv_aload_n X.1 X.2.1 dX9_passSecond_41 rfl (lv_at hl 2 rfl) ?_
    refine lv_iload X.1 X.2.1 dX9_passSecond_42 (lv_at hl 0 rfl) ?_
    refine lv_aload_n X.1 X.2.1 dX9_passSecond_44 rfl (lv_at hl 2 rfl) ?_
    refine k_getw (v := .int (r18.1 0 1)) X hU (sW_0 hk) fl_X9_53 rfl dX9_passSecond_45 ?_
    refine lv_iconst (v := 2) X.1 X.2.1 dX9_passSecond_48 (by decide) ?_
    refine lv_idiv X.1 X.2.1 dX9_passSecond_49 (by decide) ?_
    refine k_maxi_r X (mX9_174) hl.1 (Nat.le_of_ble_eq_true rfl) (Nat.le_of_ble_eq_true rfl) ⟨Nat.zero_le _, Nat.zero_le _⟩ dX9_passSecond_50 ?_
    refine lv_iconst (v := 1) X.1 X.2.1 dX9_passSecond_53 (by decide) ?_
    refine k_maxi_r X (mX9_174) hl.1 (Nat.le_of_ble_eq_true rfl) (Nat.le_of_ble_eq_true rfl) ⟨Nat.zero_le _, Nat.zero_le _⟩ dX9_passSecond_54 ?_
    obtain ⟨w57, e57, hf⟩ := k_ltE hf
    refine k_putw X hU hS (sW_0 hk) fp_X9_53 rfl e57 rfl rfl dX9_passSecond_57 (fun H locs hU hS => ?_)
    refine lv_aload_n X.1 X.2.1 dX9_passSecond_60 rfl (lv_at hl 2 rfl) ?_
    refine k_getw (v := .int (w57 0 1)) X hU (sW_0 hk) fl_X9_53 rfl dX9_passSecond_61 ?_
    refine lv_i2l (v := (w57 0 1).toInt64) X.1 X.2.1 dX9_passSecond_64 rfl ?_
    refine lv_aload_n X.1 X.2.1 dX9_passSecond_65 rfl (lv_at hl 2 rfl) ?_
    refine k_getw (v := .int (w57 0 1)) X hU (sW_0 hk) fl_X9_53 rfl dX9_passSecond_66 ?_
    refine lv_i2l (v := (w57 0 1).toInt64) X.1 X.2.1 dX9_passSecond_69 rfl ?_
    refine lv_lmul X.1 X.2.1 dX9_passSecond_70 ?_
    refine lv_iload_n X.1 X.2.1 dX9_passSecond_71 rfl (lv_at hl 3 rfl) ?_
    refine lv_i2l (v := a1.toInt64) X.1 X.2.1 dX9_passSecond_72 rfl ?_
    refine lv_lmul X.1 X.2.1 dX9_passSecond_73 ?_
    refine lv_ldc2 (v := 100000) X.1 X.2.1 X.2.2.2.1 (X.2.2.2.2.1 _ t_811) dX9_passSecond_74 ?_
    refine lv_ldiv X.1 X.2.1 dX9_passSecond_77 (by decide) ?_
    refine lv_l2i (v := (((((w57 0 1).toInt64) * ((w57 0 1).toInt64)) * a1.toInt64) / (100000 : Int64)).toInt32) X.1 X.2.1 dX9_passSecond_78 rfl ?_
    obtain ⟨x79, e79, hf⟩ := k_ltE hf
    refine k_nmi e79 ?_
    refine lv_istore (lv' := [(5, .int x79), (4, .int x39), (2, .long r18.2), (0, .ref (ad k 0)), (1, .int a1)]) X.1 X.2.1 dX9_passSecond_79 hl (by decide) rfl (fun ls hl => ?_)
    refine lv_aload_n X.1 X.2.1 dX9_passSecond_81 rfl (lv_at hl 3 rfl) ?_
    refine lv_dup X.1 X.2.1 dX9_passSecond_82 rfl ?_
    refine k_getw (v := .int (w57 0 9)) X hU (sW_0 hk) fl_X9_74 rfl dX9_passSecond_83 ?_
    refine lv_iload X.1 X.2.1 dX9_passSecond_86 (lv_at hl 0 rfl) ?_
    refine lv_iadd X.1 X.2.1 dX9_passSecond_88 ?_
    obtain ⟨w89, e89, hf⟩ := k_ltE hf
    refine k_putw X hU hS (sW_0 hk) fp_X9_74 rfl e89 rfl rfl dX9_passSecond_89 (fun H locs hU hS => ?_)
    refine lv_aload_n X.1 X.2.1 dX9_passSecond_92 rfl (lv_at hl 3 rfl) ?_
    refine lv_aload_n X.1 X.2.1 dX9_passSecond_93 rfl (lv_at hl 3 rfl) ?_
    refine k_getw (v := .int (w89 0 4)) X hU (sW_0 hk) fl_X9_59 rfl dX9_passSecond_94 ?_
    refine lv_iload X.1 X.2.1 dX9_passSecond_97 (lv_at hl 0 rfl) ?_
    refine lv_iadd X.1 X.2.1 dX9_passSecond_99 ?_
    refine lv_aload_n X.1 X.2.1 dX9_passSecond_100 rfl (lv_at hl 3 rfl) ?_
    refine k_getw (v := .int (w89 0 7)) X hU (sW_0 hk) fl_X9_68 rfl dX9_passSecond_101 ?_
    refine lv_isub X.1 X.2.1 dX9_passSecond_104 ?_
    refine lv_iconst (v := 0) X.1 X.2.1 dX9_passSecond_105 (by decide) ?_
    refine k_maxi_r X (mX9_174) hl.1 (Nat.le_of_ble_eq_true rfl) (Nat.le_of_ble_eq_true rfl) ⟨Nat.zero_le _, Nat.zero_le _⟩ dX9_passSecond_106 ?_
    refine lv_sipush (v := 999) X.1 X.2.1 dX9_passSecond_109 (by decide) ?_
    refine k_mini_r X (mX9_181) hl.1 (Nat.le_of_ble_eq_true rfl) (Nat.le_of_ble_eq_true rfl) ⟨Nat.zero_le _, Nat.zero_le _⟩ dX9_passSecond_112 ?_
    obtain ⟨w115, e115, hf⟩ := k_ltE hf
    refine k_putw X hU hS (sW_0 hk) fp_X9_59 rfl e115 rfl rfl dX9_passSecond_115 (fun H locs hU hS => ?_)
    refine lv_aload_n X.1 X.2.1 dX9_passSecond_118 rfl (lv_at hl 3 rfl) ?_
    obtain ⟨r119, hr119, hf⟩ := k_bdE hf
    refine k_backi X hS (k_runV (As := []) (rest := []) X hU (sW_0 hk) (by decide) rfl vl_X9_184 (c_X9_openChutes X.2.2.2.2.2.2.1 hk (k_uc_s _ _ _) hr119) rfl rfl rfl hl.1 ⟨Nat.le_of_ble_eq_true rfl, Nat.le_of_ble_eq_true rfl⟩ (Nat.le_of_ble_eq_true rfl) dX9_passSecond_119 ⟨Nat.zero_le _, Nat.zero_le _⟩) (fun H locs hU hS => ?_)
    refine lv_if_le (tgt := 151) X.1 X.2.1 dX9_passSecond_122 (by decide) (fun c122 => ?_) (fun c122 => ?_)
    · replace hf := k_ifP hf c122
      exact J151 _ _ _ w115 hU hS (lv_sub hl [3] rfl) hf
    · replace hf := k_ifN hf c122
      refine lv_aload_n X.1 X.2.1 dX9_passSecond_125 rfl (lv_at hl 3 rfl) ?_
      refine lv_dup X.1 X.2.1 dX9_passSecond_126 rfl ?_
      refine k_getw (v := .int (w115 0 2)) X hU (sW_0 hk) fl_X9_56 rfl dX9_passSecond_127 ?_
      refine lv_aload_n X.1 X.2.1 dX9_passSecond_130 rfl (lv_at hl 3 rfl) ?_
      refine k_getw (v := .ref (ad k 6)) X hU (sW_0 hk) fl_X9_33 rfl dX9_passSecond_131 ?_
      refine lv_aload_n X.1 X.2.1 dX9_passSecond_134 rfl (lv_at hl 3 rfl) ?_
      refine k_getw (v := .int (w115 0 0)) X hU (sW_0 hk) fl_X9_50 rfl dX9_passSecond_135 ?_
      refine lv_iconst (v := 0) X.1 X.2.1 dX9_passSecond_138 (by decide) ?_
      obtain ⟨r139, hr139, hf⟩ := k_bdE hf
      refine k_backi X hS (k_runV (As := [.int (w115 0 0), .int 0]) (rest := [.int (w115 0 2), .ref (ad k 0)]) X hU (k_sT hk k_isT_6) (by decide) rfl vl_X9_187 (c_X2_valueAtOrBelow X.2.2.2.2.2.2.1 hk (k_uc_s _ _ _) k_isT_6 hr139) rfl rfl rfl hl.1 ⟨Nat.le_of_ble_eq_true rfl, Nat.le_of_ble_eq_true rfl⟩ (Nat.le_of_ble_eq_true rfl) dX9_passSecond_139 ⟨Nat.zero_le _, Nat.zero_le _⟩) (fun H locs hU hS => ?_)
      refine lv_aload_n X.1 X.2.1 dX9_passSecond_142 rfl (lv_at hl 3 rfl) ?_
      refine k_getw (v := .int (w115 0 5)) X hU (sW_0 hk) fl_X9_62 rfl dX9_passSecond_143 ?_
      refine lv_iadd X.1 X.2.1 dX9_passSecond_146 ?_
      refine lv_iadd X.1 X.2.1 dX9_passSecond_147 ?_
      obtain ⟨w148, e148, hf⟩ := k_ltE hf
      refine k_putw X hU hS (sW_0 hk) fp_X9_56 rfl e148 rfl rfl dX9_passSecond_148 (fun H locs hU hS => ?_)
      exact J151 _ _ _ w148 hU hS (lv_sub hl [3] rfl) hf
  unfold f_X9_passSecond at hf
  refine lv_aload_n X.1 X.2.1 dX9_passSecond_0 rfl (lv_at hl 0 rfl) ?_
  obtain ⟨r1, hr1, hf⟩ := k_bdE hf
  refine k_backi X hS (k_runV (As := []) (rest := []) X hU (sW_0 hk) (by decide) rfl vl_X9_164 (c_X9_air X.2.2.2.2.2.2.1 hk (k_uc_s _ _ _) hr1) rfl rfl rfl hl.1 ⟨Nat.le_of_ble_eq_true rfl, Nat.le_of_ble_eq_true rfl⟩ (Nat.le_of_ble_eq_true rfl) dX9_passSecond_1 ⟨Nat.zero_le _, Nat.zero_le _⟩) (fun H locs hU hS => ?_)
  refine lv_istore_n (lv' := [(1, .int r1), (0, .ref (ad k 0))]) X.1 X.2.1 dX9_passSecond_4 rfl hl (by decide) rfl (fun ls hl => ?_)
  refine lv_aload_n X.1 X.2.1 dX9_passSecond_5 rfl (lv_at hl 1 rfl) ?_
  obtain ⟨r6, hr6, hf⟩ := k_bdE hf
  refine k_backi X hS (k_runV (As := []) (rest := []) X hU (sW_0 hk) (by decide) rfl vl_X9_148 (c_X9_asksForBrakes X.2.2.2.2.2.2.1 hk (k_uc_s _ _ _) hr6) rfl rfl rfl hl.1 ⟨Nat.le_of_ble_eq_true rfl, Nat.le_of_ble_eq_true rfl⟩ (Nat.le_of_ble_eq_true rfl) dX9_passSecond_6 ⟨Nat.zero_le _, Nat.zero_le _⟩) (fun H locs hU hS => ?_)
  refine lv_if_eq (tgt := 16) X.1 X.2.1 dX9_passSecond_9 (by decide) (fun c9 => ?_) (fun c9 => ?_)
  · replace hf := k_ifP hf c9
    exact J16 _ _ _ w r1 hU hS (lv_sub hl [1, 0] rfl) hf
  · replace hf := k_ifN hf c9
    refine lv_aload_n X.1 X.2.1 dX9_passSecond_12 rfl (lv_at hl 1 rfl) ?_
    obtain ⟨r13, hr13, hf⟩ := k_bdE hf
    refine k_backv X hS (k_runV (As := []) (rest := []) X hU (sW_0 hk) (by decide) rfl vl_X9_167 (c_X9_openWhatMay X.2.2.2.2.2.2.1 hk (k_uc_s _ _ _) hr13) rfl rfl rfl hl.1 ⟨Nat.le_of_ble_eq_true rfl, Nat.le_of_ble_eq_true rfl⟩ (Nat.le_of_ble_eq_true rfl) dX9_passSecond_13 ⟨Nat.zero_le _, Nat.zero_le _⟩) (fun H locs hU hS => ?_)
    rw [k_uc_uc] at hU
    exact J16 _ _ _ r13 r1 hU hS (lv_sub hl [1, 0] rfl) hf
def rm_X9_passUntil : Room := { frames := 4, cells := 0, slots := 0, locals := 111 }
set_option maxRecDepth 100000 in
set_option maxHeartbeats 4000000 in
theorem c_X9_passUntil {l : Launch} {D : va_G} {G : Nat → ClassId} {ad : Nat → Nat → Nat} {u : k_U} (hI : k_ok ad) {k : Nat} (hk : k_isW k) {w : k_M} (hw : u k = w) {a1 : Int32} {a2 : Int32} {sz : Nat} {r : (k_M × Int32)} (hf : f_X9_passUntil w a1 a2 = some r) : Met l yX9_passUntil (.code yX9_passUntil cX9_passUntil 4 (some .int) :: lw_g) rm_X9_passUntil (k_Pre D G ad u sz [.ref (ad k 0), .int a1, .int a2]) (k_Qi D G ad (k_uc u k r.1) r.2 sz) 0 0 (k_A ad sz) := by
  refine k_ofW (by decide +kernel) hI (Nat.le_of_ble_eq_true rfl) ?_
  intro p e s m args below meth c X hr hlk hU hS ls hl
  have hl : lv_has ls 4 [(0, .ref (ad k 0)), (1, .int a1), (2, .int a2)] := hl
  have hU : k_Uv D G ad (k_uc u k w) s.heap := by rw [← hw, k_uc_id]; exact hU
  have L2 : ∀ (n2 : Nat) (H : Heap) (locs : List Loc) (ls : Array Slot) (w : k_M) (a1 : Int32) (a2 : Int32) (a3 : Int32), k_Uv D G ad (k_uc u k w) H → va_S (k_A ad sz) s.heap H locs → lv_has ls 4 [(0, .ref (ad k 0)), (1, .int a1), (2, .int a2), (3, .int a3)] → f_X9_passUntil_2 n2 w a1 a2 a3 = some r → W p l e rm_X9_passUntil s m args below meth c H locs 0 0 (MQ below (k_Qi D G ad (k_uc u k r.1) r.2 sz) args s 0 0 (k_A ad sz)) (F0 m 2 ls []) := by
    intro n2
    induction n2 with
    | zero =>
      intro H locs ls w a1 a2 a3 hU hS hl hf
      cases (show none = some r from hf)
    | succ n2 ih2 =>
      intro H locs ls w a1 a2 a3 hU hS hl hf
      replace hf : f_X9_passUntil_2_b (f_X9_passUntil_2 n2) w a1 a2 a3 = some r := hf
      unfold f_X9_passUntil_2_b at hf
      refine lv_aload_n X.1 X.2.1 dX9_passUntil_2 rfl (lv_at hl 0 rfl) ?_
      refine k_getw (v := .int (w 0 0)) X hU (sW_0 hk) fl_X9_50 rfl dX9_passUntil_3 ?_
      refine lv_iload_n X.1 X.2.1 dX9_passUntil_6 rfl (lv_at hl 1 rfl) ?_
      refine lv_icmp_le (tgt := 25) X.1 X.2.1 dX9_passUntil_7 (by decide) (fun c7 => ?_) (fun c7 => ?_)
      · replace hf := k_ifP hf c7
        refine lv_iload_n X.1 X.2.1 dX9_passUntil_25 rfl (lv_at hl 3 rfl) ?_
        have hz := Option.some.inj hf
        subst hz
        exact k_iret (v := a3) X hU hS hr hlk rfl rfl dX9_passUntil_26
      · replace hf := k_ifN hf c7
        refine lv_iload_n X.1 X.2.1 dX9_passUntil_10 rfl (lv_at hl 3 rfl) ?_
        refine lv_iload_n X.1 X.2.1 dX9_passUntil_11 rfl (lv_at hl 2 rfl) ?_
        refine lv_icmp_ge (tgt := 25) X.1 X.2.1 dX9_passUntil_12 (by decide) (fun c12 => ?_) (fun c12 => ?_)
        · replace hf := k_ifP hf c12
          refine lv_iload_n X.1 X.2.1 dX9_passUntil_25 rfl (lv_at hl 3 rfl) ?_
          have hz := Option.some.inj hf
          subst hz
          exact k_iret (v := a3) X hU hS hr hlk rfl rfl dX9_passUntil_26
        · replace hf := k_ifN hf c12
          refine lv_aload_n X.1 X.2.1 dX9_passUntil_15 rfl (lv_at hl 0 rfl) ?_
          obtain ⟨r16, hr16, hf⟩ := k_bdE hf
          refine k_backv X hS (k_runV (As := []) (rest := []) X hU (sW_0 hk) (by decide) rfl vl_X9_161 (c_X9_passSecond X.2.2.2.2.2.2.1 hk (k_uc_s _ _ _) hr16) rfl rfl rfl hl.1 ⟨Nat.le_of_ble_eq_true rfl, Nat.le_of_ble_eq_true rfl⟩ (Nat.le_of_ble_eq_true rfl) dX9_passUntil_16 ⟨Nat.zero_le _, Nat.zero_le _⟩) (fun H locs hU hS => ?_)
          rw [k_uc_uc] at hU
          obtain ⟨x19, e19, hf⟩ := k_ltE hf
          refine lv_iinc (v := x19) (lv' := [(3, .int x19), (0, .ref (ad k 0)), (1, .int a1), (2, .int a2)]) X.1 X.2.1 dX9_passUntil_19 hl (k := 3) rfl (by rw [e19]; rfl) (by decide) rfl (fun ls hl => ?_)
          refine lv_goto (tgt := 2) X.1 X.2.1 dX9_passUntil_22 (by decide) ?_
          exact ih2 _ _ _ r16 a1 a2 x19 hU hS (lv_sub hl [1, 2, 3, 0] rfl) hf
  unfold f_X9_passUntil at hf
  refine lv_iconst (v := 0) X.1 X.2.1 dX9_passUntil_0 (by decide) ?_
  refine lv_istore_n (lv' := [(3, .int 0), (0, .ref (ad k 0)), (1, .int a1), (2, .int a2)]) X.1 X.2.1 dX9_passUntil_1 rfl hl (by decide) rfl (fun ls hl => ?_)
  exact L2 k_N _ _ _ w a1 a2 0 hU hS (lv_sub hl [1, 2, 3, 0] rfl) hf

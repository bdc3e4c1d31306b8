def f_L_append (u : k_U) (a1 : Int32) (a2 : Int32) (a3 : Int32) (a4 : Int32) (a5 : Int32) : Option (k_U × Int32) := k_wrap [0] (f_X10_append u a1 a2 a3 a4 a5)
def f_L_capsule (u : k_U) (a1 : Int32) : Option (k_U × Int32) := k_wrap0 [1] u (f_X10_capsule u a1)
def f_L_size (u : k_U) (a1 : Int32) : Option (k_U × Int32) := k_wrap0 [1] u (f_X10_size u a1)
def f_L_chute (u : k_U) (a1 : Int32) (a2 : Int32) : Option (k_U × Int32) := k_wrap0 [2, 1] u (f_X10_chute u a1 a2)
def f_L_line (u : k_U) (a1 : Int32) (a2 : Int32) : Option (k_U × Int32) := k_wrap0 [2] u (f_X10_line u a1 a2)
def f_L_targetAt (u : k_U) (a1 : Int32) : Option (k_U × Int32) := k_wrap0 [1] u (f_X10_targetAt u a1)
def f_L_windAt (u : k_U) (a1 : Int32) : Option (k_U × Int32) := k_wrap0 [1] u (f_X10_windAt u a1)
def f_L_spot (u : k_U) (a1 : Int32) (a2 : Int32) : Option (k_U × Int32) := k_wrap0 [2, 1] u (f_X10_spot u a1 a2)
def f_L_event (u : k_U) (a1 : Int32) (a2 : Int32) : Option (k_U × Int32) := k_wrap0 [3, 1] u (f_X10_event u a1 a2)
def f_L_account (u : k_U) (a1 : Int32) : Option (k_U × Int32) := k_wrap0 [1] u (f_X10_account u a1)
def f_L_why (u : k_U) (a1 : Int32) : Option (k_U × Int32) := k_wrap0 [2] u (f_X10_why u a1)
def f_L_loadOn (u : k_U) (a1 : Int32) : Option (k_U × Int32) := k_wrap0 [2] u (f_X10_loadOn u a1)
def f_L_wouldTear (u : k_U) (a1 : Int32) : Option (k_U × Int32) := k_wrap0 [2] u (f_X10_wouldTear u a1)
def f_L_landAt (u : k_U)  : Option (k_U × Int32) := k_wrap [3] (f_X10_landAt u)
def f_L_failsIn (u : k_U) (a1 : Int32) : Option (k_U × Int32) := k_wrap [2] (f_X10_failsIn u a1)
def f_L_bestSlip (u : k_U) (a1 : Int32) : Option (k_U × Int32) := k_wrap [2] (f_X10_bestSlip u a1)
def f_L_tick (u : k_U) (a1 : Int32) : Option (k_U × Int32) := k_wrap [1] (f_X10_tick u a1)
def f_L_fallTo (u : k_U) (a1 : Int32) : Option (k_U × Int32) := k_wrap [1] (f_X10_fallTo u a1)
def f_L_open (u : k_U) (a1 : Int32) : Option (k_U × Int32) := k_wrap [2] (f_X10_open u a1)
def f_L_cut (u : k_U) (a1 : Int32) : Option (k_U × Int32) := k_wrap [2] (f_X10_cut u a1)
def f_L_steer (u : k_U) (a1 : Int32) : Option (k_U × Int32) := k_wrap [1] (f_X10_steer u a1)
def f_L_setTarget (u : k_U) (a1 : Int32) (a2 : Int32) : Option (k_U × Int32) := k_wrap [1] (f_X10_setTarget u a1 a2)
def f_L_jam (u : k_U) (a1 : Int32) (a2 : Int32) : Option (k_U × Int32) := k_wrap [2] (f_X10_jam u a1 a2)
def f_L_output (u : k_U) (a1 : Int32) : Option (k_U × Int32) := k_wrap0 [2] u (f_X10_output u a1)
def f_L_undo (u : k_U)  : Option (k_U × Int32) := k_wrap [0] (f_X10_undo u)
def f_L_save (u : k_U) (a1 : Int32) : Option (k_U × Int32) := k_wrap [2] (f_X10_save u a1)
def f_L_restore (u : k_U) (a1 : Int32) : Option (k_U × Int32) := k_wrap [2, 0] (f_X10_restore u a1)
def rm_L_append : Room := { frames := 7, cells := 1, slots := 6, locals := 116 }
set_option maxRecDepth 100000 in
set_option maxHeartbeats 4000000 in
theorem c_L_append {l : Launch} {D : va_G} {G : Nat → ClassId} {ad : Nat → Nat → Nat} {u : k_U} (hI : k_ok ad) (hlT : l.stackTraces = false) {a1 : Int32} {a2 : Int32} {a3 : Int32} {a4 : Int32} {a5 : Int32} {sz : Nat} {r : k_U × Int32} (hf : f_L_append u a1 a2 a3 a4 a5 = some r) : Met l yL_append (.codeWith yL_append cL_append 8 (some .int) [(0, 16, 19, 13)] :: lw_g) rm_L_append (k_Pre D G ad u sz [.ref (ad 0 0), .int a1, .int a2, .int a3, .int a4, .int a5, .ref (ad 6 0)]) (k_Qi D G ad r.1 r.2 sz) 1 6 (k_A ad sz) := by
  refine k_wofW (by decide +kernel) hI (Nat.le_of_ble_eq_true rfl) ?_
  intro p e s m args below meth c X hr hlk htb hU hS ls hl
  have hl : lv_has ls 8 [(0, .ref (ad 0 0)), (1, .int a1), (2, .int a2), (3, .int a3), (4, .int a4), (5, .int a5), (6, .ref (ad 6 0))] := hl
  refine lv_aload X.1 X.2.1 dL_append_0 (lv_at hl 6 rfl) ?_
  refine lv_iconst (v := 0) X.1 X.2.1 dL_append_2 (by decide) ?_
  refine lv_aload_n X.1 X.2.1 dL_append_3 rfl (lv_at hl 0 rfl) ?_
  refine lv_iload_n X.1 X.2.1 dL_append_4 rfl (lv_at hl 1 rfl) ?_
  refine lv_iload_n X.1 X.2.1 dL_append_5 rfl (lv_at hl 2 rfl) ?_
  refine lv_iload_n X.1 X.2.1 dL_append_6 rfl (lv_at hl 3 rfl) ?_
  refine lv_iload X.1 X.2.1 dL_append_7 (lv_at hl 4 rfl) ?_
  refine lv_iload X.1 X.2.1 dL_append_9 (lv_at hl 5 rfl) ?_
  unfold f_L_append at hf
  rcases hg : f_X10_append u a1 a2 a3 a4 a5 with _ | ⟨u1, v | j⟩
  · rw [hg] at hf
    cases hf
  · rw [hg] at hf
    have hz := Option.some.inj hf
    subst hz
    refine k_backi X hS (k_runV (As := [.int a1, .int a2, .int a3, .int a4, .int a5]) (rest := [.int 0, .ref (ad 6 0)]) X hS hU sh_0_0 (by decide) rfl vl_L_7 (c_X10_append X.2.2.2.2.2.2.1 hg) rfl rfl rfl hl.1 ⟨Nat.le_of_ble_eq_true rfl, Nat.le_of_ble_eq_true rfl⟩ (Nat.le_of_ble_eq_true rfl) dL_append_11 ⟨Nat.zero_le _, Nat.zero_le _⟩) (fun H locs hU hS => ?_)
    refine lv_i2l (v := v.toInt64) X.1 X.2.1 dL_append_14 rfl ?_
    refine k_jst sh_6_0 X hU hS dL_append_15 (fun H locs hU hS => ?_)
    refine lv_goto (tgt := 23) X.1 X.2.1 dL_append_16 (by decide) ?_
    refine lv_iconst (v := 0) X.1 X.2.1 dL_append_23 (by decide) ?_
    refine vx_ret (W.widen (k := 1) (n := 6) (Nat.zero_le _) (Nat.zero_le _) ?_)
    exact k_iret (v := 0) X hU hS hr hlk rfl rfl dL_append_24
  · rw [hg] at hf
    by_cases hj0 : j = 0
    · subst hj0
      have hz := Option.some.inj hf
      subst hz
      refine k_xback X hS (k_xrunV (As := [.int a1, .int a2, .int a3, .int a4, .int a5]) (rest := [.int 0, .ref (ad 6 0)]) X hS hU sh_0_0 (by decide) rfl vl_L_7 (x_X10_append X.2.2.2.2.2.2.1 hlT hg) rfl rfl rfl hl.1 ⟨Nat.le_of_ble_eq_true rfl, Nat.le_of_ble_eq_true rfl⟩ (Nat.le_of_ble_eq_true rfl) dL_append_11 ⟨Nat.le_of_ble_eq_true rfl, Nat.le_of_ble_eq_true rfl⟩) (fun ce q9 H locs hU hS hce hcv hcl => ?_)
      refine vx_catch (name := "java/lang/IllegalStateException") X.2.2.2.1 [] ⟨0, 16, 19, 13⟩ [] (htb.trans rfl) (fun z h => absurd h List.not_mem_nil) (by decide) (by decide) (X.2.2.2.2.1 _ t_986) (va_Nw.use rfl (X.2.2.2.2.2.2.2.2.2.2.2.2.2.2.2.1 _ (by decide))) hce hcv hcl ?_
      refine lv_astore (lv' := [(7, .ref q9), (0, .ref (ad 0 0)), (1, .int a1), (2, .int a2), (3, .int a3), (4, .int a4), (5, .int a5), (6, .ref (ad 6 0))]) X.1 X.2.1 dL_append_19 hl (by decide) rfl (fun ls hl => ?_)
      refine lv_iconst (v := 1) X.1 X.2.1 dL_append_21 (by decide) ?_
      refine vx_ret (W.widen (k := 1) (n := 6) (Nat.le_refl _) (Nat.le_refl _) ?_)
      exact k_iret (v := 1) X hU hS hr hlk rfl rfl dL_append_22
    exfalso
    have hn : ¬ j ∈ ([0] : List Nat) := by simp; omega
    have hf : (if j ∈ ([0] : List Nat) then some (u1, Int32.ofNat (([0] : List Nat).idxOf j + 1)) else none) = some r := hf
    rw [if_neg hn] at hf
    cases hf
def rm_L_capsule : Room := { frames := 7, cells := 1, slots := 6, locals := 111 }
set_option maxRecDepth 100000 in
set_option maxHeartbeats 4000000 in
theorem c_L_capsule {l : Launch} {D : va_G} {G : Nat → ClassId} {ad : Nat → Nat → Nat} {u : k_U} (hI : k_ok ad) (hlT : l.stackTraces = false) {a1 : Int32} {sz : Nat} {r : k_U × Int32} (hf : f_L_capsule u a1 = some r) : Met l yL_capsule (.codeWith yL_capsule cL_capsule 4 (some .int) [(0, 9, 12, 19)] :: lw_g) rm_L_capsule (k_Pre D G ad u sz [.ref (ad 0 0), .int a1, .ref (ad 6 0)]) (k_Qi D G ad r.1 r.2 sz) 1 6 (k_A ad sz) := by
  refine k_wofW (by decide +kernel) hI (Nat.le_of_ble_eq_true rfl) ?_
  intro p e s m args below meth c X hr hlk htb hU hS ls hl
  have hl : lv_has ls 4 [(0, .ref (ad 0 0)), (1, .int a1), (2, .ref (ad 6 0))] := hl
  refine lv_aload_n X.1 X.2.1 dL_capsule_0 rfl (lv_at hl 2 rfl) ?_
  refine lv_iconst (v := 0) X.1 X.2.1 dL_capsule_1 (by decide) ?_
  refine lv_aload_n X.1 X.2.1 dL_capsule_2 rfl (lv_at hl 0 rfl) ?_
  refine lv_iload_n X.1 X.2.1 dL_capsule_3 rfl (lv_at hl 1 rfl) ?_
  unfold f_L_capsule at hf
  rcases hg : f_X10_capsule u a1 with _ | (v | j)
  · rw [hg] at hf
    cases hf
  · rw [hg] at hf
    have hz := Option.some.inj hf
    subst hz
    refine k_backi X hS (k_runV (As := [.int a1]) (rest := [.int 0, .ref (ad 6 0)]) X hS hU sh_0_0 (by decide) rfl vl_L_15 (c_X10_capsule X.2.2.2.2.2.2.1 hg) rfl rfl rfl hl.1 ⟨Nat.le_of_ble_eq_true rfl, Nat.le_of_ble_eq_true rfl⟩ (Nat.le_of_ble_eq_true rfl) dL_capsule_4 ⟨Nat.zero_le _, Nat.zero_le _⟩) (fun H locs hU hS => ?_)
    refine lv_i2l (v := v.toInt64) X.1 X.2.1 dL_capsule_7 rfl ?_
    refine k_jst sh_6_0 X hU hS dL_capsule_8 (fun H locs hU hS => ?_)
    refine lv_goto (tgt := 15) X.1 X.2.1 dL_capsule_9 (by decide) ?_
    refine lv_iconst (v := 0) X.1 X.2.1 dL_capsule_15 (by decide) ?_
    refine vx_ret (W.widen (k := 1) (n := 6) (Nat.zero_le _) (Nat.zero_le _) ?_)
    exact k_iret (v := 0) X hU hS hr hlk rfl rfl dL_capsule_16
  · rw [hg] at hf
    by_cases hj0 : j = 1
    · subst hj0
      have hz := Option.some.inj hf
      subst hz
      refine k_xback X hS (k_xrunV (As := [.int a1]) (rest := [.int 0, .ref (ad 6 0)]) X hS hU sh_0_0 (by decide) rfl vl_L_15 (x_X10_capsule X.2.2.2.2.2.2.1 hlT hg) rfl rfl rfl hl.1 ⟨Nat.le_of_ble_eq_true rfl, Nat.le_of_ble_eq_true rfl⟩ (Nat.le_of_ble_eq_true rfl) dL_capsule_4 ⟨Nat.le_of_ble_eq_true rfl, Nat.le_of_ble_eq_true rfl⟩) (fun ce q9 H locs hU hS hce hcv hcl => ?_)
      refine vx_catch (name := "java/lang/IllegalArgumentException") X.2.2.2.1 [] ⟨0, 9, 12, 19⟩ [] (htb.trans rfl) (fun z h => absurd h List.not_mem_nil) (by decide) (by decide) (X.2.2.2.2.1 _ t_1024) (va_Nw.use rfl (X.2.2.2.2.2.2.2.2.2.2.2.2.2.2.2.1 _ (by decide))) hce hcv hcl ?_
      refine lv_astore_n (lv' := [(3, .ref q9), (0, .ref (ad 0 0)), (1, .int a1), (2, .ref (ad 6 0))]) X.1 X.2.1 dL_capsule_12 rfl hl (by decide) rfl (fun ls hl => ?_)
      refine lv_iconst (v := 1) X.1 X.2.1 dL_capsule_13 (by decide) ?_
      refine vx_ret (W.widen (k := 1) (n := 6) (Nat.le_refl _) (Nat.le_refl _) ?_)
      exact k_iret (v := 1) X hU hS hr hlk rfl rfl dL_capsule_14
    exfalso
    have hn : ¬ j ∈ ([1] : List Nat) := by simp; omega
    have hf : (if j ∈ ([1] : List Nat) then some (u, Int32.ofNat (([1] : List Nat).idxOf j + 1)) else none) = some r := hf
    rw [if_neg hn] at hf
    cases hf
def rm_L_size : Room := { frames := 7, cells := 1, slots := 6, locals := 111 }
set_option maxRecDepth 100000 in
set_option maxHeartbeats 4000000 in
theorem c_L_size {l : Launch} {D : va_G} {G : Nat → ClassId} {ad : Nat → Nat → Nat} {u : k_U} (hI : k_ok ad) (hlT : l.stackTraces = false) {a1 : Int32} {sz : Nat} {r : k_U × Int32} (hf : f_L_size u a1 = some r) : Met l yL_size (.codeWith yL_size cL_size 4 (some .int) [(0, 9, 12, 19)] :: lw_g) rm_L_size (k_Pre D G ad u sz [.ref (ad 0 0), .int a1, .ref (ad 6 0)]) (k_Qi D G ad r.1 r.2 sz) 1 6 (k_A ad sz) := by
  refine k_wofW (by decide +kernel) hI (Nat.le_of_ble_eq_true rfl) ?_
  intro p e s m args below meth c X hr hlk htb hU hS ls hl
  have hl : lv_has ls 4 [(0, .ref (ad 0 0)), (1, .int a1), (2, .ref (ad 6 0))] := hl
  refine lv_aload_n X.1 X.2.1 dL_size_0 rfl (lv_at hl 2 rfl) ?_
  refine lv_iconst (v := 0) X.1 X.2.1 dL_size_1 (by decide) ?_
  refine lv_aload_n X.1 X.2.1 dL_size_2 rfl (lv_at hl 0 rfl) ?_
  refine lv_iload_n X.1 X.2.1 dL_size_3 rfl (lv_at hl 1 rfl) ?_
  unfold f_L_size at hf
  rcases hg : f_X10_size u a1 with _ | (v | j)
  · rw [hg] at hf
    cases hf
  · rw [hg] at hf
    have hz := Option.some.inj hf
    subst hz
    refine k_backi X hS (k_runV (As := [.int a1]) (rest := [.int 0, .ref (ad 6 0)]) X hS hU sh_0_0 (by decide) rfl vl_L_21 (c_X10_size X.2.2.2.2.2.2.1 hg) rfl rfl rfl hl.1 ⟨Nat.le_of_ble_eq_true rfl, Nat.le_of_ble_eq_true rfl⟩ (Nat.le_of_ble_eq_true rfl) dL_size_4 ⟨Nat.zero_le _, Nat.zero_le _⟩) (fun H locs hU hS => ?_)
    refine lv_i2l (v := v.toInt64) X.1 X.2.1 dL_size_7 rfl ?_
    refine k_jst sh_6_0 X hU hS dL_size_8 (fun H locs hU hS => ?_)
    refine lv_goto (tgt := 15) X.1 X.2.1 dL_size_9 (by decide) ?_
    refine lv_iconst (v := 0) X.1 X.2.1 dL_size_15 (by decide) ?_
    refine vx_ret (W.widen (k := 1) (n := 6) (Nat.zero_le _) (Nat.zero_le _) ?_)
    exact k_iret (v := 0) X hU hS hr hlk rfl rfl dL_size_16
  · rw [hg] at hf
    by_cases hj0 : j = 1
    · subst hj0
      have hz := Option.some.inj hf
      subst hz
      refine k_xback X hS (k_xrunV (As := [.int a1]) (rest := [.int 0, .ref (ad 6 0)]) X hS hU sh_0_0 (by decide) rfl vl_L_21 (x_X10_size X.2.2.2.2.2.2.1 hlT hg) rfl rfl rfl hl.1 ⟨Nat.le_of_ble_eq_true rfl, Nat.le_of_ble_eq_true rfl⟩ (Nat.le_of_ble_eq_true rfl) dL_size_4 ⟨Nat.le_of_ble_eq_true rfl, Nat.le_of_ble_eq_true rfl⟩) (fun ce q9 H locs hU hS hce hcv hcl => ?_)
      refine vx_catch (name := "java/lang/IllegalArgumentException") X.2.2.2.1 [] ⟨0, 9, 12, 19⟩ [] (htb.trans rfl) (fun z h => absurd h List.not_mem_nil) (by decide) (by decide) (X.2.2.2.2.1 _ t_1024) (va_Nw.use rfl (X.2.2.2.2.2.2.2.2.2.2.2.2.2.2.2.1 _ (by decide))) hce hcv hcl ?_
      refine lv_astore_n (lv' := [(3, .ref q9), (0, .ref (ad 0 0)), (1, .int a1), (2, .ref (ad 6 0))]) X.1 X.2.1 dL_size_12 rfl hl (by decide) rfl (fun ls hl => ?_)
      refine lv_iconst (v := 1) X.1 X.2.1 dL_size_13 (by decide) ?_
      refine vx_ret (W.widen (k := 1) (n := 6) (Nat.le_refl _) (Nat.le_refl _) ?_)
      exact k_iret (v := 1) X hU hS hr hlk rfl rfl dL_size_14
    exfalso
    have hn : ¬ j ∈ ([1] : List Nat) := by simp; omega
    have hf : (if j ∈ ([1] : List Nat) then some (u, Int32.ofNat (([1] : List Nat).idxOf j + 1)) else none) = some r := hf
    rw [if_neg hn] at hf
    cases hf
def rm_L_chute : Room := { frames := 7, cells := 1, slots := 6, locals := 113 }
set_option maxRecDepth 100000 in
set_option maxHeartbeats 4000000 in
theorem c_L_chute {l : Launch} {D : va_G} {G : Nat → ClassId} {ad : Nat → Nat → Nat} {u : k_U} (hI : k_ok ad) (hlT : l.stackTraces = false) {a1 : Int32} {a2 : Int32} {sz : Nat} {r : k_U × Int32} (hf : f_L_chute u a1 a2 = some r) : Met l yL_chute (.codeWith yL_chute cL_chute 5 (some .int) [(0, 10, 13, 28), (0, 10, 17, 19)] :: lw_g) rm_L_chute (k_Pre D G ad u sz [.ref (ad 0 0), .int a1, .int a2, .ref (ad 6 0)]) (k_Qi D G ad r.1 r.2 sz) 1 6 (k_A ad sz) := by
  refine k_wofW (by decide +kernel) hI (Nat.le_of_ble_eq_true rfl) ?_
  intro p e s m args below meth c X hr hlk htb hU hS ls hl
  have hl : lv_has ls 5 [(0, .ref (ad 0 0)), (1, .int a1), (2, .int a2), (3, .ref (ad 6 0))] := hl
  refine lv_aload_n X.1 X.2.1 dL_chute_0 rfl (lv_at hl 3 rfl) ?_
  refine lv_iconst (v := 0) X.1 X.2.1 dL_chute_1 (by decide) ?_
  refine lv_aload_n X.1 X.2.1 dL_chute_2 rfl (lv_at hl 0 rfl) ?_
  refine lv_iload_n X.1 X.2.1 dL_chute_3 rfl (lv_at hl 1 rfl) ?_
  refine lv_iload_n X.1 X.2.1 dL_chute_4 rfl (lv_at hl 2 rfl) ?_
  unfold f_L_chute at hf
  rcases hg : f_X10_chute u a1 a2 with _ | (v | j)
  · rw [hg] at hf
    cases hf
  · rw [hg] at hf
    have hz := Option.some.inj hf
    subst hz
    refine k_backi X hS (k_runV (As := [.int a1, .int a2]) (rest := [.int 0, .ref (ad 6 0)]) X hS hU sh_0_0 (by decide) rfl vl_L_24 (c_X10_chute X.2.2.2.2.2.2.1 hg) rfl rfl rfl hl.1 ⟨Nat.le_of_ble_eq_true rfl, Nat.le_of_ble_eq_true rfl⟩ (Nat.le_of_ble_eq_true rfl) dL_chute_5 ⟨Nat.zero_le _, Nat.zero_le _⟩) (fun H locs hU hS => ?_)
    refine lv_i2l (v := v.toInt64) X.1 X.2.1 dL_chute_8 rfl ?_
    refine k_jst sh_6_0 X hU hS dL_chute_9 (fun H locs hU hS => ?_)
    refine lv_goto (tgt := 21) X.1 X.2.1 dL_chute_10 (by decide) ?_
    refine lv_iconst (v := 0) X.1 X.2.1 dL_chute_21 (by decide) ?_
    refine vx_ret (W.widen (k := 1) (n := 6) (Nat.zero_le _) (Nat.zero_le _) ?_)
    exact k_iret (v := 0) X hU hS hr hlk rfl rfl dL_chute_22
  · rw [hg] at hf
    by_cases hj0 : j = 2
    · subst hj0
      have hz := Option.some.inj hf
      subst hz
      refine k_xback X hS (k_xrunV (As := [.int a1, .int a2]) (rest := [.int 0, .ref (ad 6 0)]) X hS hU sh_0_0 (by decide) rfl vl_L_24 (x_X10_chute X.2.2.2.2.2.2.1 hlT hg) rfl rfl rfl hl.1 ⟨Nat.le_of_ble_eq_true rfl, Nat.le_of_ble_eq_true rfl⟩ (Nat.le_of_ble_eq_true rfl) dL_chute_5 ⟨Nat.le_of_ble_eq_true rfl, Nat.le_of_ble_eq_true rfl⟩) (fun ce q9 H locs hU hS hce hcv hcl => ?_)
      refine vx_catch (name := "java/lang/IndexOutOfBoundsException") X.2.2.2.1 [] ⟨0, 10, 13, 28⟩ [⟨0, 10, 17, 19⟩] (htb.trans rfl) (fun z h => absurd h List.not_mem_nil) (by decide) (by decide) (X.2.2.2.2.1 _ t_1042) (va_Nw.use rfl (X.2.2.2.2.2.2.2.2.2.2.2.2.2.2.2.1 _ (by decide))) hce hcv hcl ?_
      refine lv_astore (lv' := [(4, .ref q9), (0, .ref (ad 0 0)), (1, .int a1), (2, .int a2), (3, .ref (ad 6 0))]) X.1 X.2.1 dL_chute_13 hl (by decide) rfl (fun ls hl => ?_)
      refine lv_iconst (v := 1) X.1 X.2.1 dL_chute_15 (by decide) ?_
      refine vx_ret (W.widen (k := 1) (n := 6) (Nat.le_refl _) (Nat.le_refl _) ?_)
      exact k_iret (v := 1) X hU hS hr hlk rfl rfl dL_chute_16
    by_cases hj1 : j = 1
    · subst hj1
      have hz := Option.some.inj hf
      subst hz
      refine k_xback X hS (k_xrunV (As := [.int a1, .int a2]) (rest := [.int 0, .ref (ad 6 0)]) X hS hU sh_0_0 (by decide) rfl vl_L_24 (x_X10_chute X.2.2.2.2.2.2.1 hlT hg) rfl rfl rfl hl.1 ⟨Nat.le_of_ble_eq_true rfl, Nat.le_of_ble_eq_true rfl⟩ (Nat.le_of_ble_eq_true rfl) dL_chute_5 ⟨Nat.le_of_ble_eq_true rfl, Nat.le_of_ble_eq_true rfl⟩) (fun ce q9 H locs hU hS hce hcv hcl => ?_)
      refine vx_catch (name := "java/lang/IllegalArgumentException") X.2.2.2.1 [⟨0, 10, 13, 28⟩] ⟨0, 10, 17, 19⟩ [] (htb.trans rfl) (fun z h => Or.inr ⟨by rw [List.mem_singleton.mp h]; decide, "java/lang/IndexOutOfBoundsException", by rw [List.mem_singleton.mp h]; exact X.2.2.2.2.1 _ t_1042, X.2.2.2.2.2.2.2.2.2.2.2.2.2.2.2.2 (_, _) (by decide)⟩) (by decide) (by decide) (X.2.2.2.2.1 _ t_1024) (va_Nw.use rfl (X.2.2.2.2.2.2.2.2.2.2.2.2.2.2.2.1 _ (by decide))) hce hcv hcl ?_
      refine lv_astore (lv' := [(4, .ref q9), (0, .ref (ad 0 0)), (1, .int a1), (2, .int a2), (3, .ref (ad 6 0))]) X.1 X.2.1 dL_chute_17 hl (by decide) rfl (fun ls hl => ?_)
      refine lv_iconst (v := 2) X.1 X.2.1 dL_chute_19 (by decide) ?_
      refine vx_ret (W.widen (k := 1) (n := 6) (Nat.le_refl _) (Nat.le_refl _) ?_)
      exact k_iret (v := 2) X hU hS hr hlk rfl rfl dL_chute_20
    exfalso
    have hn : ¬ j ∈ ([2, 1] : List Nat) := by simp; omega
    have hf : (if j ∈ ([2, 1] : List Nat) then some (u, Int32.ofNat (([2, 1] : List Nat).idxOf j + 1)) else none) = some r := hf
    rw [if_neg hn] at hf
    cases hf
def rm_L_line : Room := { frames := 7, cells := 1, slots := 6, locals := 113 }
set_option maxRecDepth 100000 in
set_option maxHeartbeats 4000000 in
theorem c_L_line {l : Launch} {D : va_G} {G : Nat → ClassId} {ad : Nat → Nat → Nat} {u : k_U} (hI : k_ok ad) (hlT : l.stackTraces = false) {a1 : Int32} {a2 : Int32} {sz : Nat} {r : k_U × Int32} (hf : f_L_line u a1 a2 = some r) : Met l yL_line (.codeWith yL_line cL_line 5 (some .int) [(0, 10, 13, 28)] :: lw_g) rm_L_line (k_Pre D G ad u sz [.ref (ad 0 0), .int a1, .int a2, .ref (ad 6 0)]) (k_Qi D G ad r.1 r.2 sz) 1 6 (k_A ad sz) := by
  refine k_wofW (by decide +kernel) hI (Nat.le_of_ble_eq_true rfl) ?_
  intro p e s m args below meth c X hr hlk htb hU hS ls hl
  have hl : lv_has ls 5 [(0, .ref (ad 0 0)), (1, .int a1), (2, .int a2), (3, .ref (ad 6 0))] := hl
  refine lv_aload_n X.1 X.2.1 dL_line_0 rfl (lv_at hl 3 rfl) ?_
  refine lv_iconst (v := 0) X.1 X.2.1 dL_line_1 (by decide) ?_
  refine lv_aload_n X.1 X.2.1 dL_line_2 rfl (lv_at hl 0 rfl) ?_
  refine lv_iload_n X.1 X.2.1 dL_line_3 rfl (lv_at hl 1 rfl) ?_
  refine lv_iload_n X.1 X.2.1 dL_line_4 rfl (lv_at hl 2 rfl) ?_
  unfold f_L_line at hf
  rcases hg : f_X10_line u a1 a2 with _ | (v | j)
  · rw [hg] at hf
    cases hf
  · rw [hg] at hf
    have hz := Option.some.inj hf
    subst hz
    refine k_backi X hS (k_runV (As := [.int a1, .int a2]) (rest := [.int 0, .ref (ad 6 0)]) X hS hU sh_0_0 (by decide) rfl vl_L_30 (c_X10_line X.2.2.2.2.2.2.1 hg) rfl rfl rfl hl.1 ⟨Nat.le_of_ble_eq_true rfl, Nat.le_of_ble_eq_true rfl⟩ (Nat.le_of_ble_eq_true rfl) dL_line_5 ⟨Nat.zero_le _, Nat.zero_le _⟩) (fun H locs hU hS => ?_)
    refine lv_i2l (v := v.toInt64) X.1 X.2.1 dL_line_8 rfl ?_
    refine k_jst sh_6_0 X hU hS dL_line_9 (fun H locs hU hS => ?_)
    refine lv_goto (tgt := 17) X.1 X.2.1 dL_line_10 (by decide) ?_
    refine lv_iconst (v := 0) X.1 X.2.1 dL_line_17 (by decide) ?_
    refine vx_ret (W.widen (k := 1) (n := 6) (Nat.zero_le _) (Nat.zero_le _) ?_)
    exact k_iret (v := 0) X hU hS hr hlk rfl rfl dL_line_18
  · rw [hg] at hf
    by_cases hj0 : j = 2
    · subst hj0
      have hz := Option.some.inj hf
      subst hz
      refine k_xback X hS (k_xrunV (As := [.int a1, .int a2]) (rest := [.int 0, .ref (ad 6 0)]) X hS hU sh_0_0 (by decide) rfl vl_L_30 (x_X10_line X.2.2.2.2.2.2.1 hlT hg) rfl rfl rfl hl.1 ⟨Nat.le_of_ble_eq_true rfl, Nat.le_of_ble_eq_true rfl⟩ (Nat.le_of_ble_eq_true rfl) dL_line_5 ⟨Nat.le_of_ble_eq_true rfl, Nat.le_of_ble_eq_true rfl⟩) (fun ce q9 H locs hU hS hce hcv hcl => ?_)
      refine vx_catch (name := "java/lang/IndexOutOfBoundsException") X.2.2.2.1 [] ⟨0, 10, 13, 28⟩ [] (htb.trans rfl) (fun z h => absurd h List.not_mem_nil) (by decide) (by decide) (X.2.2.2.2.1 _ t_1042) (va_Nw.use rfl (X.2.2.2.2.2.2.2.2.2.2.2.2.2.2.2.1 _ (by decide))) hce hcv hcl ?_
      refine lv_astore (lv' := [(4, .ref q9), (0, .ref (ad 0 0)), (1, .int a1), (2, .int a2), (3, .ref (ad 6 0))]) X.1 X.2.1 dL_line_13 hl (by decide) rfl (fun ls hl => ?_)
      refine lv_iconst (v := 1) X.1 X.2.1 dL_line_15 (by decide) ?_
      refine vx_ret (W.widen (k := 1) (n := 6) (Nat.le_refl _) (Nat.le_refl _) ?_)
      exact k_iret (v := 1) X hU hS hr hlk rfl rfl dL_line_16
    exfalso
    have hn : ¬ j ∈ ([2] : List Nat) := by simp; omega
    have hf : (if j ∈ ([2] : List Nat) then some (u, Int32.ofNat (([2] : List Nat).idxOf j + 1)) else none) = some r := hf
    rw [if_neg hn] at hf
    cases hf
def rm_L_targetAt : Room := { frames := 7, cells := 1, slots := 6, locals := 111 }
set_option maxRecDepth 100000 in
set_option maxHeartbeats 4000000 in
theorem c_L_targetAt {l : Launch} {D : va_G} {G : Nat → ClassId} {ad : Nat → Nat → Nat} {u : k_U} (hI : k_ok ad) (hlT : l.stackTraces = false) {a1 : Int32} {sz : Nat} {r : k_U × Int32} (hf : f_L_targetAt u a1 = some r) : Met l yL_targetAt (.codeWith yL_targetAt cL_targetAt 4 (some .int) [(0, 9, 12, 19)] :: lw_g) rm_L_targetAt (k_Pre D G ad u sz [.ref (ad 0 0), .int a1, .ref (ad 6 0)]) (k_Qi D G ad r.1 r.2 sz) 1 6 (k_A ad sz) := by
  refine k_wofW (by decide +kernel) hI (Nat.le_of_ble_eq_true rfl) ?_
  intro p e s m args below meth c X hr hlk htb hU hS ls hl
  have hl : lv_has ls 4 [(0, .ref (ad 0 0)), (1, .int a1), (2, .ref (ad 6 0))] := hl
  refine lv_aload_n X.1 X.2.1 dL_targetAt_0 rfl (lv_at hl 2 rfl) ?_
  refine lv_iconst (v := 0) X.1 X.2.1 dL_targetAt_1 (by decide) ?_
  refine lv_aload_n X.1 X.2.1 dL_targetAt_2 rfl (lv_at hl 0 rfl) ?_
  refine lv_iload_n X.1 X.2.1 dL_targetAt_3 rfl (lv_at hl 1 rfl) ?_
  unfold f_L_targetAt at hf
  rcases hg : f_X10_targetAt u a1 with _ | (v | j)
  · rw [hg] at hf
    cases hf
  · rw [hg] at hf
    have hz := Option.some.inj hf
    subst hz
    refine k_backi X hS (k_runV (As := [.int a1]) (rest := [.int 0, .ref (ad 6 0)]) X hS hU sh_0_0 (by decide) rfl vl_L_33 (c_X10_targetAt X.2.2.2.2.2.2.1 hg) rfl rfl rfl hl.1 ⟨Nat.le_of_ble_eq_true rfl, Nat.le_of_ble_eq_true rfl⟩ (Nat.le_of_ble_eq_true rfl) dL_targetAt_4 ⟨Nat.zero_le _, Nat.zero_le _⟩) (fun H locs hU hS => ?_)
    refine lv_i2l (v := v.toInt64) X.1 X.2.1 dL_targetAt_7 rfl ?_
    refine k_jst sh_6_0 X hU hS dL_targetAt_8 (fun H locs hU hS => ?_)
    refine lv_goto (tgt := 15) X.1 X.2.1 dL_targetAt_9 (by decide) ?_
    refine lv_iconst (v := 0) X.1 X.2.1 dL_targetAt_15 (by decide) ?_
    refine vx_ret (W.widen (k := 1) (n := 6) (Nat.zero_le _) (Nat.zero_le _) ?_)
    exact k_iret (v := 0) X hU hS hr hlk rfl rfl dL_targetAt_16
  · rw [hg] at hf
    by_cases hj0 : j = 1
    · subst hj0
      have hz := Option.some.inj hf
      subst hz
      refine k_xback X hS (k_xrunV (As := [.int a1]) (rest := [.int 0, .ref (ad 6 0)]) X hS hU sh_0_0 (by decide) rfl vl_L_33 (x_X10_targetAt X.2.2.2.2.2.2.1 hlT hg) rfl rfl rfl hl.1 ⟨Nat.le_of_ble_eq_true rfl, Nat.le_of_ble_eq_true rfl⟩ (Nat.le_of_ble_eq_true rfl) dL_targetAt_4 ⟨Nat.le_of_ble_eq_true rfl, Nat.le_of_ble_eq_true rfl⟩) (fun ce q9 H locs hU hS hce hcv hcl => ?_)
      refine vx_catch (name := "java/lang/IllegalArgumentException") X.2.2.2.1 [] ⟨0, 9, 12, 19⟩ [] (htb.trans rfl) (fun z h => absurd h List.not_mem_nil) (by decide) (by decide) (X.2.2.2.2.1 _ t_1024) (va_Nw.use rfl (X.2.2.2.2.2.2.2.2.2.2.2.2.2.2.2.1 _ (by decide))) hce hcv hcl ?_
      refine lv_astore_n (lv' := [(3, .ref q9), (0, .ref (ad 0 0)), (1, .int a1), (2, .ref (ad 6 0))]) X.1 X.2.1 dL_targetAt_12 rfl hl (by decide) rfl (fun ls hl => ?_)
      refine lv_iconst (v := 1) X.1 X.2.1 dL_targetAt_13 (by decide) ?_
      refine vx_ret (W.widen (k := 1) (n := 6) (Nat.le_refl _) (Nat.le_refl _) ?_)
      exact k_iret (v := 1) X hU hS hr hlk rfl rfl dL_targetAt_14
    exfalso
    have hn : ¬ j ∈ ([1] : List Nat) := by simp; omega
    have hf : (if j ∈ ([1] : List Nat) then some (u, Int32.ofNat (([1] : List Nat).idxOf j + 1)) else none) = some r := hf
    rw [if_neg hn] at hf
    cases hf
def rm_L_windAt : Room := { frames := 7, cells := 1, slots := 6, locals := 111 }
set_option maxRecDepth 100000 in
set_option maxHeartbeats 4000000 in
theorem c_L_windAt {l : Launch} {D : va_G} {G : Nat → ClassId} {ad : Nat → Nat → Nat} {u : k_U} (hI : k_ok ad) (hlT : l.stackTraces = false) {a1 : Int32} {sz : Nat} {r : k_U × Int32} (hf : f_L_windAt u a1 = some r) : Met l yL_windAt (.codeWith yL_windAt cL_windAt 4 (some .int) [(0, 9, 12, 19)] :: lw_g) rm_L_windAt (k_Pre D G ad u sz [.ref (ad 0 0), .int a1, .ref (ad 6 0)]) (k_Qi D G ad r.1 r.2 sz) 1 6 (k_A ad sz) := by
  refine k_wofW (by decide +kernel) hI (Nat.le_of_ble_eq_true rfl) ?_
  intro p e s m args below meth c X hr hlk htb hU hS ls hl
  have hl : lv_has ls 4 [(0, .ref (ad 0 0)), (1, .int a1), (2, .ref (ad 6 0))] := hl
  refine lv_aload_n X.1 X.2.1 dL_windAt_0 rfl (lv_at hl 2 rfl) ?_
  refine lv_iconst (v := 0) X.1 X.2.1 dL_windAt_1 (by decide) ?_
  refine lv_aload_n X.1 X.2.1 dL_windAt_2 rfl (lv_at hl 0 rfl) ?_
  refine lv_iload_n X.1 X.2.1 dL_windAt_3 rfl (lv_at hl 1 rfl) ?_
  unfold f_L_windAt at hf
  rcases hg : f_X10_windAt u a1 with _ | (v | j)
  · rw [hg] at hf
    cases hf
  · rw [hg] at hf
    have hz := Option.some.inj hf
    subst hz
    refine k_backi X hS (k_runV (As := [.int a1]) (rest := [.int 0, .ref (ad 6 0)]) X hS hU sh_0_0 (by decide) rfl vl_L_36 (c_X10_windAt X.2.2.2.2.2.2.1 hg) rfl rfl rfl hl.1 ⟨Nat.le_of_ble_eq_true rfl, Nat.le_of_ble_eq_true rfl⟩ (Nat.le_of_ble_eq_true rfl) dL_windAt_4 ⟨Nat.zero_le _, Nat.zero_le _⟩) (fun H locs hU hS => ?_)
    refine lv_i2l (v := v.toInt64) X.1 X.2.1 dL_windAt_7 rfl ?_
    refine k_jst sh_6_0 X hU hS dL_windAt_8 (fun H locs hU hS => ?_)
    refine lv_goto (tgt := 15) X.1 X.2.1 dL_windAt_9 (by decide) ?_
    refine lv_iconst (v := 0) X.1 X.2.1 dL_windAt_15 (by decide) ?_
    refine vx_ret (W.widen (k := 1) (n := 6) (Nat.zero_le _) (Nat.zero_le _) ?_)
    exact k_iret (v := 0) X hU hS hr hlk rfl rfl dL_windAt_16
  · rw [hg] at hf
    by_cases hj0 : j = 1
    · subst hj0
      have hz := Option.some.inj hf
      subst hz
      refine k_xback X hS (k_xrunV (As := [.int a1]) (rest := [.int 0, .ref (ad 6 0)]) X hS hU sh_0_0 (by decide) rfl vl_L_36 (x_X10_windAt X.2.2.2.2.2.2.1 hlT hg) rfl rfl rfl hl.1 ⟨Nat.le_of_ble_eq_true rfl, Nat.le_of_ble_eq_true rfl⟩ (Nat.le_of_ble_eq_true rfl) dL_windAt_4 ⟨Nat.le_of_ble_eq_true rfl, Nat.le_of_ble_eq_true rfl⟩) (fun ce q9 H locs hU hS hce hcv hcl => ?_)
      refine vx_catch (name := "java/lang/IllegalArgumentException") X.2.2.2.1 [] ⟨0, 9, 12, 19⟩ [] (htb.trans rfl) (fun z h => absurd h List.not_mem_nil) (by decide) (by decide) (X.2.2.2.2.1 _ t_1024) (va_Nw.use rfl (X.2.2.2.2.2.2.2.2.2.2.2.2.2.2.2.1 _ (by decide))) hce hcv hcl ?_
      refine lv_astore_n (lv' := [(3, .ref q9), (0, .ref (ad 0 0)), (1, .int a1), (2, .ref (ad 6 0))]) X.1 X.2.1 dL_windAt_12 rfl hl (by decide) rfl (fun ls hl => ?_)
      refine lv_iconst (v := 1) X.1 X.2.1 dL_windAt_13 (by decide) ?_
      refine vx_ret (W.widen (k := 1) (n := 6) (Nat.le_refl _) (Nat.le_refl _) ?_)
      exact k_iret (v := 1) X hU hS hr hlk rfl rfl dL_windAt_14
    exfalso
    have hn : ¬ j ∈ ([1] : List Nat) := by simp; omega
    have hf : (if j ∈ ([1] : List Nat) then some (u, Int32.ofNat (([1] : List Nat).idxOf j + 1)) else none) = some r := hf
    rw [if_neg hn] at hf
    cases hf
def rm_L_spot : Room := { frames := 7, cells := 1, slots := 6, locals := 112 }
set_option maxRecDepth 100000 in
set_option maxHeartbeats 4000000 in
theorem c_L_spot {l : Launch} {D : va_G} {G : Nat → ClassId} {ad : Nat → Nat → Nat} {u : k_U} (hI : k_ok ad) (hlT : l.stackTraces = false) {a1 : Int32} {a2 : Int32} {sz : Nat} {r : k_U × Int32} (hf : f_L_spot u a1 a2 = some r) : Met l yL_spot (.codeWith yL_spot cL_spot 5 (some .int) [(0, 10, 13, 28), (0, 10, 17, 19)] :: lw_g) rm_L_spot (k_Pre D G ad u sz [.ref (ad 0 0), .int a1, .int a2, .ref (ad 6 0)]) (k_Qi D G ad r.1 r.2 sz) 1 6 (k_A ad sz) := by
  refine k_wofW (by decide +kernel) hI (Nat.le_of_ble_eq_true rfl) ?_
  intro p e s m args below meth c X hr hlk htb hU hS ls hl
  have hl : lv_has ls 5 [(0, .ref (ad 0 0)), (1, .int a1), (2, .int a2), (3, .ref (ad 6 0))] := hl
  refine lv_aload_n X.1 X.2.1 dL_spot_0 rfl (lv_at hl 3 rfl) ?_
  refine lv_iconst (v := 0) X.1 X.2.1 dL_spot_1 (by decide) ?_
  refine lv_aload_n X.1 X.2.1 dL_spot_2 rfl (lv_at hl 0 rfl) ?_
  refine lv_iload_n X.1 X.2.1 dL_spot_3 rfl (lv_at hl 1 rfl) ?_
  refine lv_iload_n X.1 X.2.1 dL_spot_4 rfl (lv_at hl 2 rfl) ?_
  unfold f_L_spot at hf
  rcases hg : f_X10_spot u a1 a2 with _ | (v | j)
  · rw [hg] at hf
    cases hf
  · rw [hg] at hf
    have hz := Option.some.inj hf
    subst hz
    refine k_backi X hS (k_runV (As := [.int a1, .int a2]) (rest := [.int 0, .ref (ad 6 0)]) X hS hU sh_0_0 (by decide) rfl vl_L_39 (c_X10_spot X.2.2.2.2.2.2.1 hg) rfl rfl rfl hl.1 ⟨Nat.le_of_ble_eq_true rfl, Nat.le_of_ble_eq_true rfl⟩ (Nat.le_of_ble_eq_true rfl) dL_spot_5 ⟨Nat.zero_le _, Nat.zero_le _⟩) (fun H locs hU hS => ?_)
    refine lv_i2l (v := v.toInt64) X.1 X.2.1 dL_spot_8 rfl ?_
    refine k_jst sh_6_0 X hU hS dL_spot_9 (fun H locs hU hS => ?_)
    refine lv_goto (tgt := 21) X.1 X.2.1 dL_spot_10 (by decide) ?_
    refine lv_iconst (v := 0) X.1 X.2.1 dL_spot_21 (by decide) ?_
    refine vx_ret (W.widen (k := 1) (n := 6) (Nat.zero_le _) (Nat.zero_le _) ?_)
    exact k_iret (v := 0) X hU hS hr hlk rfl rfl dL_spot_22
  · rw [hg] at hf
    by_cases hj0 : j = 2
    · subst hj0
      have hz := Option.some.inj hf
      subst hz
      refine k_xback X hS (k_xrunV (As := [.int a1, .int a2]) (rest := [.int 0, .ref (ad 6 0)]) X hS hU sh_0_0 (by decide) rfl vl_L_39 (x_X10_spot X.2.2.2.2.2.2.1 hlT hg) rfl rfl rfl hl.1 ⟨Nat.le_of_ble_eq_true rfl, Nat.le_of_ble_eq_true rfl⟩ (Nat.le_of_ble_eq_true rfl) dL_spot_5 ⟨Nat.le_of_ble_eq_true rfl, Nat.le_of_ble_eq_true rfl⟩) (fun ce q9 H locs hU hS hce hcv hcl => ?_)
      refine vx_catch (name := "java/lang/IndexOutOfBoundsException") X.2.2.2.1 [] ⟨0, 10, 13, 28⟩ [⟨0, 10, 17, 19⟩] (htb.trans rfl) (fun z h => absurd h List.not_mem_nil) (by decide) (by decide) (X.2.2.2.2.1 _ t_1042) (va_Nw.use rfl (X.2.2.2.2.2.2.2.2.2.2.2.2.2.2.2.1 _ (by decide))) hce hcv hcl ?_
      refine lv_astore (lv' := [(4, .ref q9), (0, .ref (ad 0 0)), (1, .int a1), (2, .int a2), (3, .ref (ad 6 0))]) X.1 X.2.1 dL_spot_13 hl (by decide) rfl (fun ls hl => ?_)
      refine lv_iconst (v := 1) X.1 X.2.1 dL_spot_15 (by decide) ?_
      refine vx_ret (W.widen (k := 1) (n := 6) (Nat.le_refl _) (Nat.le_refl _) ?_)
      exact k_iret (v := 1) X hU hS hr hlk rfl rfl dL_spot_16
    by_cases hj1 : j = 1
    · subst hj1
      have hz := Option.some.inj hf
      subst hz
      refine k_xback X hS (k_xrunV (As := [.int a1, .int a2]) (rest := [.int 0, .ref (ad 6 0)]) X hS hU sh_0_0 (by decide) rfl vl_L_39 (x_X10_spot X.2.2.2.2.2.2.1 hlT hg) rfl rfl rfl hl.1 ⟨Nat.le_of_ble_eq_true rfl, Nat.le_of_ble_eq_true rfl⟩ (Nat.le_of_ble_eq_true rfl) dL_spot_5 ⟨Nat.le_of_ble_eq_true rfl, Nat.le_of_ble_eq_true rfl⟩) (fun ce q9 H locs hU hS hce hcv hcl => ?_)
      refine vx_catch (name := "java/lang/IllegalArgumentException") X.2.2.2.1 [⟨0, 10, 13, 28⟩] ⟨0, 10, 17, 19⟩ [] (htb.trans rfl) (fun z h => Or.inr ⟨by rw [List.mem_singleton.mp h]; decide, "java/lang/IndexOutOfBoundsException", by rw [List.mem_singleton.mp h]; exact X.2.2.2.2.1 _ t_1042, X.2.2.2.2.2.2.2.2.2.2.2.2.2.2.2.2 (_, _) (by decide)⟩) (by decide) (by decide) (X.2.2.2.2.1 _ t_1024) (va_Nw.use rfl (X.2.2.2.2.2.2.2.2.2.2.2.2.2.2.2.1 _ (by decide))) hce hcv hcl ?_
      refine lv_astore (lv' := [(4, .ref q9), (0, .ref (ad 0 0)), (1, .int a1), (2, .int a2), (3, .ref (ad 6 0))]) X.1 X.2.1 dL_spot_17 hl (by decide) rfl (fun ls hl => ?_)
      refine lv_iconst (v := 2) X.1 X.2.1 dL_spot_19 (by decide) ?_
      refine vx_ret (W.widen (k := 1) (n := 6) (Nat.le_refl _) (Nat.le_refl _) ?_)
      exact k_iret (v := 2) X hU hS hr hlk rfl rfl dL_spot_20
    exfalso
    have hn : ¬ j ∈ ([2, 1] : List Nat) := by simp; omega
    have hf : (if j ∈ ([2, 1] : List Nat) then some (u, Int32.ofNat (([2, 1] : List Nat).idxOf j + 1)) else none) = some r := hf
    rw [if_neg hn] at hf
    cases hf
def rm_L_event : Room := { frames := 7, cells := 1, slots := 6, locals := 112 }
set_option maxRecDepth 100000 in
set_option maxHeartbeats 4000000 in
theorem c_L_event {l : Launch} {D : va_G} {G : Nat → ClassId} {ad : Nat → Nat → Nat} {u : k_U} (hI : k_ok ad) (hlT : l.stackTraces = false) {a1 : Int32} {a2 : Int32} {sz : Nat} {r : k_U × Int32} (hf : f_L_event u a1 a2 = some r) : Met l yL_event (.codeWith yL_event cL_event 5 (some .int) [(0, 10, 13, 45), (0, 10, 17, 19)] :: lw_g) rm_L_event (k_Pre D G ad u sz [.ref (ad 0 0), .int a1, .int a2, .ref (ad 6 0)]) (k_Qi D G ad r.1 r.2 sz) 1 6 (k_A ad sz) := by
  refine k_wofW (by decide +kernel) hI (Nat.le_of_ble_eq_true rfl) ?_
  intro p e s m args below meth c X hr hlk htb hU hS ls hl
  have hl : lv_has ls 5 [(0, .ref (ad 0 0)), (1, .int a1), (2, .int a2), (3, .ref (ad 6 0))] := hl
  refine lv_aload_n X.1 X.2.1 dL_event_0 rfl (lv_at hl 3 rfl) ?_
  refine lv_iconst (v := 0) X.1 X.2.1 dL_event_1 (by decide) ?_
  refine lv_aload_n X.1 X.2.1 dL_event_2 rfl (lv_at hl 0 rfl) ?_
  refine lv_iload_n X.1 X.2.1 dL_event_3 rfl (lv_at hl 1 rfl) ?_
  refine lv_iload_n X.1 X.2.1 dL_event_4 rfl (lv_at hl 2 rfl) ?_
  unfold f_L_event at hf
  rcases hg : f_X10_event u a1 a2 with _ | (v | j)
  · rw [hg] at hf
    cases hf
  · rw [hg] at hf
    have hz := Option.some.inj hf
    subst hz
    refine k_backi X hS (k_runV (As := [.int a1, .int a2]) (rest := [.int 0, .ref (ad 6 0)]) X hS hU sh_0_0 (by decide) rfl vl_L_42 (c_X10_event X.2.2.2.2.2.2.1 hg) rfl rfl rfl hl.1 ⟨Nat.le_of_ble_eq_true rfl, Nat.le_of_ble_eq_true rfl⟩ (Nat.le_of_ble_eq_true rfl) dL_event_5 ⟨Nat.zero_le _, Nat.zero_le _⟩) (fun H locs hU hS => ?_)
    refine lv_i2l (v := v.toInt64) X.1 X.2.1 dL_event_8 rfl ?_
    refine k_jst sh_6_0 X hU hS dL_event_9 (fun H locs hU hS => ?_)
    refine lv_goto (tgt := 21) X.1 X.2.1 dL_event_10 (by decide) ?_
    refine lv_iconst (v := 0) X.1 X.2.1 dL_event_21 (by decide) ?_
    refine vx_ret (W.widen (k := 1) (n := 6) (Nat.zero_le _) (Nat.zero_le _) ?_)
    exact k_iret (v := 0) X hU hS hr hlk rfl rfl dL_event_22
  · rw [hg] at hf
    by_cases hj0 : j = 3
    · subst hj0
      have hz := Option.some.inj hf
      subst hz
      refine k_xback X hS (k_xrunV (As := [.int a1, .int a2]) (rest := [.int 0, .ref (ad 6 0)]) X hS hU sh_0_0 (by decide) rfl vl_L_42 (x_X10_event X.2.2.2.2.2.2.1 hlT hg) rfl rfl rfl hl.1 ⟨Nat.le_of_ble_eq_true rfl, Nat.le_of_ble_eq_true rfl⟩ (Nat.le_of_ble_eq_true rfl) dL_event_5 ⟨Nat.le_of_ble_eq_true rfl, Nat.le_of_ble_eq_true rfl⟩) (fun ce q9 H locs hU hS hce hcv hcl => ?_)
      refine vx_catch (name := "java/util/NoSuchElementException") X.2.2.2.1 [] ⟨0, 10, 13, 45⟩ [⟨0, 10, 17, 19⟩] (htb.trans rfl) (fun z h => absurd h List.not_mem_nil) (by decide) (by decide) (X.2.2.2.2.1 _ t_1089) (va_Nw.use rfl (X.2.2.2.2.2.2.2.2.2.2.2.2.2.2.2.1 _ (by decide))) hce hcv hcl ?_
      refine lv_astore (lv' := [(4, .ref q9), (0, .ref (ad 0 0)), (1, .int a1), (2, .int a2), (3, .ref (ad 6 0))]) X.1 X.2.1 dL_event_13 hl (by decide) rfl (fun ls hl => ?_)
      refine lv_iconst (v := 1) X.1 X.2.1 dL_event_15 (by decide) ?_
      refine vx_ret (W.widen (k := 1) (n := 6) (Nat.le_refl _) (Nat.le_refl _) ?_)
      exact k_iret (v := 1) X hU hS hr hlk rfl rfl dL_event_16
    by_cases hj1 : j = 1
    · subst hj1
      have hz := Option.some.inj hf
      subst hz
      refine k_xback X hS (k_xrunV (As := [.int a1, .int a2]) (rest := [.int 0, .ref (ad 6 0)]) X hS hU sh_0_0 (by decide) rfl vl_L_42 (x_X10_event X.2.2.2.2.2.2.1 hlT hg) rfl rfl rfl hl.1 ⟨Nat.le_of_ble_eq_true rfl, Nat.le_of_ble_eq_true rfl⟩ (Nat.le_of_ble_eq_true rfl) dL_event_5 ⟨Nat.le_of_ble_eq_true rfl, Nat.le_of_ble_eq_true rfl⟩) (fun ce q9 H locs hU hS hce hcv hcl => ?_)
      refine vx_catch (name := "java/lang/IllegalArgumentException") X.2.2.2.1 [⟨0, 10, 13, 45⟩] ⟨0, 10, 17, 19⟩ [] (htb.trans rfl) (fun z h => Or.inr ⟨by rw [List.mem_singleton.mp h]; decide, "java/util/NoSuchElementException", by rw [List.mem_singleton.mp h]; exact X.2.2.2.2.1 _ t_1089, X.2.2.2.2.2.2.2.2.2.2.2.2.2.2.2.2 (_, _) (by decide)⟩) (by decide) (by decide) (X.2.2.2.2.1 _ t_1024) (va_Nw.use rfl (X.2.2.2.2.2.2.2.2.2.2.2.2.2.2.2.1 _ (by decide))) hce hcv hcl ?_
      refine lv_astore (lv' := [(4, .ref q9), (0, .ref (ad 0 0)), (1, .int a1), (2, .int a2), (3, .ref (ad 6 0))]) X.1 X.2.1 dL_event_17 hl (by decide) rfl (fun ls hl => ?_)
      refine lv_iconst (v := 2) X.1 X.2.1 dL_event_19 (by decide) ?_
      refine vx_ret (W.widen (k := 1) (n := 6) (Nat.le_refl _) (Nat.le_refl _) ?_)
      exact k_iret (v := 2) X hU hS hr hlk rfl rfl dL_event_20
    exfalso
    have hn : ¬ j ∈ ([3, 1] : List Nat) := by simp; omega
    have hf : (if j ∈ ([3, 1] : List Nat) then some (u, Int32.ofNat (([3, 1] : List Nat).idxOf j + 1)) else none) = some r := hf
    rw [if_neg hn] at hf
    cases hf
def rm_L_account : Room := { frames := 7, cells := 1, slots := 6, locals := 111 }
set_option maxRecDepth 100000 in
set_option maxHeartbeats 4000000 in
theorem c_L_account {l : Launch} {D : va_G} {G : Nat → ClassId} {ad : Nat → Nat → Nat} {u : k_U} (hI : k_ok ad) (hlT : l.stackTraces = false) {a1 : Int32} {sz : Nat} {r : k_U × Int32} (hf : f_L_account u a1 = some r) : Met l yL_account (.codeWith yL_account cL_account 4 (some .int) [(0, 9, 12, 19)] :: lw_g) rm_L_account (k_Pre D G ad u sz [.ref (ad 0 0), .int a1, .ref (ad 6 0)]) (k_Qi D G ad r.1 r.2 sz) 1 6 (k_A ad sz) := by
  refine k_wofW (by decide +kernel) hI (Nat.le_of_ble_eq_true rfl) ?_
  intro p e s m args below meth c X hr hlk htb hU hS ls hl
  have hl : lv_has ls 4 [(0, .ref (ad 0 0)), (1, .int a1), (2, .ref (ad 6 0))] := hl
  refine lv_aload_n X.1 X.2.1 dL_account_0 rfl (lv_at hl 2 rfl) ?_
  refine lv_iconst (v := 0) X.1 X.2.1 dL_account_1 (by decide) ?_
  refine lv_aload_n X.1 X.2.1 dL_account_2 rfl (lv_at hl 0 rfl) ?_
  refine lv_iload_n X.1 X.2.1 dL_account_3 rfl (lv_at hl 1 rfl) ?_
  unfold f_L_account at hf
  rcases hg : f_X10_account u a1 with _ | (v | j)
  · rw [hg] at hf
    cases hf
  · rw [hg] at hf
    have hz := Option.some.inj hf
    subst hz
    refine k_backi X hS (k_runV (As := [.int a1]) (rest := [.int 0, .ref (ad 6 0)]) X hS hU sh_0_0 (by decide) rfl vl_L_47 (c_X10_account X.2.2.2.2.2.2.1 hg) rfl rfl rfl hl.1 ⟨Nat.le_of_ble_eq_true rfl, Nat.le_of_ble_eq_true rfl⟩ (Nat.le_of_ble_eq_true rfl) dL_account_4 ⟨Nat.zero_le _, Nat.zero_le _⟩) (fun H locs hU hS => ?_)
    refine lv_i2l (v := v.toInt64) X.1 X.2.1 dL_account_7 rfl ?_
    refine k_jst sh_6_0 X hU hS dL_account_8 (fun H locs hU hS => ?_)
    refine lv_goto (tgt := 15) X.1 X.2.1 dL_account_9 (by decide) ?_
    refine lv_iconst (v := 0) X.1 X.2.1 dL_account_15 (by decide) ?_
    refine vx_ret (W.widen (k := 1) (n := 6) (Nat.zero_le _) (Nat.zero_le _) ?_)
    exact k_iret (v := 0) X hU hS hr hlk rfl rfl dL_account_16
  · rw [hg] at hf
    by_cases hj0 : j = 1
    · subst hj0
      have hz := Option.some.inj hf
      subst hz
      refine k_xback X hS (k_xrunV (As := [.int a1]) (rest := [.int 0, .ref (ad 6 0)]) X hS hU sh_0_0 (by decide) rfl vl_L_47 (x_X10_account X.2.2.2.2.2.2.1 hlT hg) rfl rfl rfl hl.1 ⟨Nat.le_of_ble_eq_true rfl, Nat.le_of_ble_eq_true rfl⟩ (Nat.le_of_ble_eq_true rfl) dL_account_4 ⟨Nat.le_of_ble_eq_true rfl, Nat.le_of_ble_eq_true rfl⟩) (fun ce q9 H locs hU hS hce hcv hcl => ?_)
      refine vx_catch (name := "java/lang/IllegalArgumentException") X.2.2.2.1 [] ⟨0, 9, 12, 19⟩ [] (htb.trans rfl) (fun z h => absurd h List.not_mem_nil) (by decide) (by decide) (X.2.2.2.2.1 _ t_1024) (va_Nw.use rfl (X.2.2.2.2.2.2.2.2.2.2.2.2.2.2.2.1 _ (by decide))) hce hcv hcl ?_
      refine lv_astore_n (lv' := [(3, .ref q9), (0, .ref (ad 0 0)), (1, .int a1), (2, .ref (ad 6 0))]) X.1 X.2.1 dL_account_12 rfl hl (by decide) rfl (fun ls hl => ?_)
      refine lv_iconst (v := 1) X.1 X.2.1 dL_account_13 (by decide) ?_
      refine vx_ret (W.widen (k := 1) (n := 6) (Nat.le_refl _) (Nat.le_refl _) ?_)
      exact k_iret (v := 1) X hU hS hr hlk rfl rfl dL_account_14
    exfalso
    have hn : ¬ j ∈ ([1] : List Nat) := by simp; omega
    have hf : (if j ∈ ([1] : List Nat) then some (u, Int32.ofNat (([1] : List Nat).idxOf j + 1)) else none) = some r := hf
    rw [if_neg hn] at hf
    cases hf
def rm_L_why : Room := { frames := 7, cells := 1, slots := 6, locals := 111 }
set_option maxRecDepth 100000 in
set_option maxHeartbeats 4000000 in
theorem c_L_why {l : Launch} {D : va_G} {G : Nat → ClassId} {ad : Nat → Nat → Nat} {u : k_U} (hI : k_ok ad) (hlT : l.stackTraces = false) {a1 : Int32} {sz : Nat} {r : k_U × Int32} (hf : f_L_why u a1 = some r) : Met l yL_why (.codeWith yL_why cL_why 4 (some .int) [(0, 9, 12, 28)] :: lw_g) rm_L_why (k_Pre D G ad u sz [.ref (ad 0 0), .int a1, .ref (ad 6 0)]) (k_Qi D G ad r.1 r.2 sz) 1 6 (k_A ad sz) := by
  refine k_wofW (by decide +kernel) hI (Nat.le_of_ble_eq_true rfl) ?_
  intro p e s m args below meth c X hr hlk htb hU hS ls hl
  have hl : lv_has ls 4 [(0, .ref (ad 0 0)), (1, .int a1), (2, .ref (ad 6 0))] := hl
  refine lv_aload_n X.1 X.2.1 dL_why_0 rfl (lv_at hl 2 rfl) ?_
  refine lv_iconst (v := 0) X.1 X.2.1 dL_why_1 (by decide) ?_
  refine lv_aload_n X.1 X.2.1 dL_why_2 rfl (lv_at hl 0 rfl) ?_
  refine lv_iload_n X.1 X.2.1 dL_why_3 rfl (lv_at hl 1 rfl) ?_
  unfold f_L_why at hf
  rcases hg : f_X10_why u a1 with _ | (v | j)
  · rw [hg] at hf
    cases hf
  · rw [hg] at hf
    have hz := Option.some.inj hf
    subst hz
    refine k_backi X hS (k_runV (As := [.int a1]) (rest := [.int 0, .ref (ad 6 0)]) X hS hU sh_0_0 (by decide) rfl vl_L_50 (c_X10_why X.2.2.2.2.2.2.1 hg) rfl rfl rfl hl.1 ⟨Nat.le_of_ble_eq_true rfl, Nat.le_of_ble_eq_true rfl⟩ (Nat.le_of_ble_eq_true rfl) dL_why_4 ⟨Nat.zero_le _, Nat.zero_le _⟩) (fun H locs hU hS => ?_)
    refine lv_i2l (v := v.toInt64) X.1 X.2.1 dL_why_7 rfl ?_
    refine k_jst sh_6_0 X hU hS dL_why_8 (fun H locs hU hS => ?_)
    refine lv_goto (tgt := 15) X.1 X.2.1 dL_why_9 (by decide) ?_
    refine lv_iconst (v := 0) X.1 X.2.1 dL_why_15 (by decide) ?_
    refine vx_ret (W.widen (k := 1) (n := 6) (Nat.zero_le _) (Nat.zero_le _) ?_)
    exact k_iret (v := 0) X hU hS hr hlk rfl rfl dL_why_16
  · rw [hg] at hf
    by_cases hj0 : j = 2
    · subst hj0
      have hz := Option.some.inj hf
      subst hz
      refine k_xback X hS (k_xrunV (As := [.int a1]) (rest := [.int 0, .ref (ad 6 0)]) X hS hU sh_0_0 (by decide) rfl vl_L_50 (x_X10_why X.2.2.2.2.2.2.1 hlT hg) rfl rfl rfl hl.1 ⟨Nat.le_of_ble_eq_true rfl, Nat.le_of_ble_eq_true rfl⟩ (Nat.le_of_ble_eq_true rfl) dL_why_4 ⟨Nat.le_of_ble_eq_true rfl, Nat.le_of_ble_eq_true rfl⟩) (fun ce q9 H locs hU hS hce hcv hcl => ?_)
      refine vx_catch (name := "java/lang/IndexOutOfBoundsException") X.2.2.2.1 [] ⟨0, 9, 12, 28⟩ [] (htb.trans rfl) (fun z h => absurd h List.not_mem_nil) (by decide) (by decide) (X.2.2.2.2.1 _ t_1042) (va_Nw.use rfl (X.2.2.2.2.2.2.2.2.2.2.2.2.2.2.2.1 _ (by decide))) hce hcv hcl ?_
      refine lv_astore_n (lv' := [(3, .ref q9), (0, .ref (ad 0 0)), (1, .int a1), (2, .ref (ad 6 0))]) X.1 X.2.1 dL_why_12 rfl hl (by decide) rfl (fun ls hl => ?_)
      refine lv_iconst (v := 1) X.1 X.2.1 dL_why_13 (by decide) ?_
      refine vx_ret (W.widen (k := 1) (n := 6) (Nat.le_refl _) (Nat.le_refl _) ?_)
      exact k_iret (v := 1) X hU hS hr hlk rfl rfl dL_why_14
    exfalso
    have hn : ¬ j ∈ ([2] : List Nat) := by simp; omega
    have hf : (if j ∈ ([2] : List Nat) then some (u, Int32.ofNat (([2] : List Nat).idxOf j + 1)) else none) = some r := hf
    rw [if_neg hn] at hf
    cases hf
def rm_L_loadOn : Room := { frames := 7, cells := 1, slots := 6, locals := 114 }
set_option maxRecDepth 100000 in
set_option maxHeartbeats 4000000 in
theorem c_L_loadOn {l : Launch} {D : va_G} {G : Nat → ClassId} {ad : Nat → Nat → Nat} {u : k_U} (hI : k_ok ad) (hlT : l.stackTraces = false) {a1 : Int32} {sz : Nat} {r : k_U × Int32} (hf : f_L_loadOn u a1 = some r) : Met l yL_loadOn (.codeWith yL_loadOn cL_loadOn 4 (some .int) [(0, 9, 12, 28)] :: lw_g) rm_L_loadOn (k_Pre D G ad u sz [.ref (ad 0 0), .int a1, .ref (ad 6 0)]) (k_Qi D G ad r.1 r.2 sz) 1 6 (k_A ad sz) := by
  refine k_wofW (by decide +kernel) hI (Nat.le_of_ble_eq_true rfl) ?_
  intro p e s m args below meth c X hr hlk htb hU hS ls hl
  have hl : lv_has ls 4 [(0, .ref (ad 0 0)), (1, .int a1), (2, .ref (ad 6 0))] := hl
  refine lv_aload_n X.1 X.2.1 dL_loadOn_0 rfl (lv_at hl 2 rfl) ?_
  refine lv_iconst (v := 0) X.1 X.2.1 dL_loadOn_1 (by decide) ?_
  refine lv_aload_n X.1 X.2.1 dL_loadOn_2 rfl (lv_at hl 0 rfl) ?_
  refine lv_iload_n X.1 X.2.1 dL_loadOn_3 rfl (lv_at hl 1 rfl) ?_
  unfold f_L_loadOn at hf
  rcases hg : f_X10_loadOn u a1 with _ | (v | j)
  · rw [hg] at hf
    cases hf
  · rw [hg] at hf
    have hz := Option.some.inj hf
    subst hz
    refine k_backi X hS (k_runV (As := [.int a1]) (rest := [.int 0, .ref (ad 6 0)]) X hS hU sh_0_0 (by decide) rfl vl_L_53 (c_X10_loadOn X.2.2.2.2.2.2.1 hg) rfl rfl rfl hl.1 ⟨Nat.le_of_ble_eq_true rfl, Nat.le_of_ble_eq_true rfl⟩ (Nat.le_of_ble_eq_true rfl) dL_loadOn_4 ⟨Nat.zero_le _, Nat.zero_le _⟩) (fun H locs hU hS => ?_)
    refine lv_i2l (v := v.toInt64) X.1 X.2.1 dL_loadOn_7 rfl ?_
    refine k_jst sh_6_0 X hU hS dL_loadOn_8 (fun H locs hU hS => ?_)
    refine lv_goto (tgt := 15) X.1 X.2.1 dL_loadOn_9 (by decide) ?_
    refine lv_iconst (v := 0) X.1 X.2.1 dL_loadOn_15 (by decide) ?_
    refine vx_ret (W.widen (k := 1) (n := 6) (Nat.zero_le _) (Nat.zero_le _) ?_)
    exact k_iret (v := 0) X hU hS hr hlk rfl rfl dL_loadOn_16
  · rw [hg] at hf
    by_cases hj0 : j = 2
    · subst hj0
      have hz := Option.some.inj hf
      subst hz
      refine k_xback X hS (k_xrunV (As := [.int a1]) (rest := [.int 0, .ref (ad 6 0)]) X hS hU sh_0_0 (by decide) rfl vl_L_53 (x_X10_loadOn X.2.2.2.2.2.2.1 hlT hg) rfl rfl rfl hl.1 ⟨Nat.le_of_ble_eq_true rfl, Nat.le_of_ble_eq_true rfl⟩ (Nat.le_of_ble_eq_true rfl) dL_loadOn_4 ⟨Nat.le_of_ble_eq_true rfl, Nat.le_of_ble_eq_true rfl⟩) (fun ce q9 H locs hU hS hce hcv hcl => ?_)
      refine vx_catch (name := "java/lang/IndexOutOfBoundsException") X.2.2.2.1 [] ⟨0, 9, 12, 28⟩ [] (htb.trans rfl) (fun z h => absurd h List.not_mem_nil) (by decide) (by decide) (X.2.2.2.2.1 _ t_1042) (va_Nw.use rfl (X.2.2.2.2.2.2.2.2.2.2.2.2.2.2.2.1 _ (by decide))) hce hcv hcl ?_
      refine lv_astore_n (lv' := [(3, .ref q9), (0, .ref (ad 0 0)), (1, .int a1), (2, .ref (ad 6 0))]) X.1 X.2.1 dL_loadOn_12 rfl hl (by decide) rfl (fun ls hl => ?_)
      refine lv_iconst (v := 1) X.1 X.2.1 dL_loadOn_13 (by decide) ?_
      refine vx_ret (W.widen (k := 1) (n := 6) (Nat.le_refl _) (Nat.le_refl _) ?_)
      exact k_iret (v := 1) X hU hS hr hlk rfl rfl dL_loadOn_14
    exfalso
    have hn : ¬ j ∈ ([2] : List Nat) := by simp; omega
    have hf : (if j ∈ ([2] : List Nat) then some (u, Int32.ofNat (([2] : List Nat).idxOf j + 1)) else none) = some r := hf
    rw [if_neg hn] at hf
    cases hf
def rm_L_wouldTear : Room := { frames := 7, cells := 1, slots := 6, locals := 114 }
set_option maxRecDepth 100000 in
set_option maxHeartbeats 4000000 in
theorem c_L_wouldTear {l : Launch} {D : va_G} {G : Nat → ClassId} {ad : Nat → Nat → Nat} {u : k_U} (hI : k_ok ad) (hlT : l.stackTraces = false) {a1 : Int32} {sz : Nat} {r : k_U × Int32} (hf : f_L_wouldTear u a1 = some r) : Met l yL_wouldTear (.codeWith yL_wouldTear cL_wouldTear 4 (some .int) [(0, 9, 12, 28)] :: lw_g) rm_L_wouldTear (k_Pre D G ad u sz [.ref (ad 0 0), .int a1, .ref (ad 6 0)]) (k_Qi D G ad r.1 r.2 sz) 1 6 (k_A ad sz) := by
  refine k_wofW (by decide +kernel) hI (Nat.le_of_ble_eq_true rfl) ?_
  intro p e s m args below meth c X hr hlk htb hU hS ls hl
  have hl : lv_has ls 4 [(0, .ref (ad 0 0)), (1, .int a1), (2, .ref (ad 6 0))] := hl
  refine lv_aload_n X.1 X.2.1 dL_wouldTear_0 rfl (lv_at hl 2 rfl) ?_
  refine lv_iconst (v := 0) X.1 X.2.1 dL_wouldTear_1 (by decide) ?_
  refine lv_aload_n X.1 X.2.1 dL_wouldTear_2 rfl (lv_at hl 0 rfl) ?_
  refine lv_iload_n X.1 X.2.1 dL_wouldTear_3 rfl (lv_at hl 1 rfl) ?_
  unfold f_L_wouldTear at hf
  rcases hg : f_X10_wouldTear u a1 with _ | (v | j)
  · rw [hg] at hf
    cases hf
  · rw [hg] at hf
    have hz := Option.some.inj hf
    subst hz
    refine k_backi X hS (k_runV (As := [.int a1]) (rest := [.int 0, .ref (ad 6 0)]) X hS hU sh_0_0 (by decide) rfl vl_L_56 (c_X10_wouldTear X.2.2.2.2.2.2.1 hg) rfl rfl rfl hl.1 ⟨Nat.le_of_ble_eq_true rfl, Nat.le_of_ble_eq_true rfl⟩ (Nat.le_of_ble_eq_true rfl) dL_wouldTear_4 ⟨Nat.zero_le _, Nat.zero_le _⟩) (fun H locs hU hS => ?_)
    refine lv_i2l (v := v.toInt64) X.1 X.2.1 dL_wouldTear_7 rfl ?_
    refine k_jst sh_6_0 X hU hS dL_wouldTear_8 (fun H locs hU hS => ?_)
    refine lv_goto (tgt := 15) X.1 X.2.1 dL_wouldTear_9 (by decide) ?_
    refine lv_iconst (v := 0) X.1 X.2.1 dL_wouldTear_15 (by decide) ?_
    refine vx_ret (W.widen (k := 1) (n := 6) (Nat.zero_le _) (Nat.zero_le _) ?_)
    exact k_iret (v := 0) X hU hS hr hlk rfl rfl dL_wouldTear_16
  · rw [hg] at hf
    by_cases hj0 : j = 2
    · subst hj0
      have hz := Option.some.inj hf
      subst hz
      refine k_xback X hS (k_xrunV (As := [.int a1]) (rest := [.int 0, .ref (ad 6 0)]) X hS hU sh_0_0 (by decide) rfl vl_L_56 (x_X10_wouldTear X.2.2.2.2.2.2.1 hlT hg) rfl rfl rfl hl.1 ⟨Nat.le_of_ble_eq_true rfl, Nat.le_of_ble_eq_true rfl⟩ (Nat.le_of_ble_eq_true rfl) dL_wouldTear_4 ⟨Nat.le_of_ble_eq_true rfl, Nat.le_of_ble_eq_true rfl⟩) (fun ce q9 H locs hU hS hce hcv hcl => ?_)
      refine vx_catch (name := "java/lang/IndexOutOfBoundsException") X.2.2.2.1 [] ⟨0, 9, 12, 28⟩ [] (htb.trans rfl) (fun z h => absurd h List.not_mem_nil) (by decide) (by decide) (X.2.2.2.2.1 _ t_1042) (va_Nw.use rfl (X.2.2.2.2.2.2.2.2.2.2.2.2.2.2.2.1 _ (by decide))) hce hcv hcl ?_
      refine lv_astore_n (lv' := [(3, .ref q9), (0, .ref (ad 0 0)), (1, .int a1), (2, .ref (ad 6 0))]) X.1 X.2.1 dL_wouldTear_12 rfl hl (by decide) rfl (fun ls hl => ?_)
      refine lv_iconst (v := 1) X.1 X.2.1 dL_wouldTear_13 (by decide) ?_
      refine vx_ret (W.widen (k := 1) (n := 6) (Nat.le_refl _) (Nat.le_refl _) ?_)
      exact k_iret (v := 1) X hU hS hr hlk rfl rfl dL_wouldTear_14
    exfalso
    have hn : ¬ j ∈ ([2] : List Nat) := by simp; omega
    have hf : (if j ∈ ([2] : List Nat) then some (u, Int32.ofNat (([2] : List Nat).idxOf j + 1)) else none) = some r := hf
    rw [if_neg hn] at hf
    cases hf
def rm_L_landAt : Room := { frames := 7, cells := 1, slots := 6, locals := 176 }
set_option maxRecDepth 100000 in
set_option maxHeartbeats 4000000 in
theorem c_L_landAt {l : Launch} {D : va_G} {G : Nat → ClassId} {ad : Nat → Nat → Nat} {u : k_U} (hI : k_ok ad) (hlT : l.stackTraces = false)  {sz : Nat} {r : k_U × Int32} (hf : f_L_landAt u = some r) : Met l yL_landAt (.codeWith yL_landAt cL_landAt 3 (some .int) [(0, 8, 11, 45)] :: lw_g) rm_L_landAt (k_Pre D G ad u sz [.ref (ad 0 0), .ref (ad 6 0)]) (k_Qi D G ad r.1 r.2 sz) 1 6 (k_A ad sz) := by
  refine k_wofW (by decide +kernel) hI (Nat.le_of_ble_eq_true rfl) ?_
  intro p e s m args below meth c X hr hlk htb hU hS ls hl
  have hl : lv_has ls 3 [(0, .ref (ad 0 0)), (1, .ref (ad 6 0))] := hl
  refine lv_aload_n X.1 X.2.1 dL_landAt_0 rfl (lv_at hl 1 rfl) ?_
  refine lv_iconst (v := 0) X.1 X.2.1 dL_landAt_1 (by decide) ?_
  refine lv_aload_n X.1 X.2.1 dL_landAt_2 rfl (lv_at hl 0 rfl) ?_
  unfold f_L_landAt at hf
  rcases hg : f_X10_landAt u with _ | ⟨u1, v | j⟩
  · rw [hg] at hf
    cases hf
  · rw [hg] at hf
    have hz := Option.some.inj hf
    subst hz
    refine k_backi X hS (k_runV (As := []) (rest := [.int 0, .ref (ad 6 0)]) X hS hU sh_0_0 (by decide) rfl vl_L_59 (c_X10_landAt X.2.2.2.2.2.2.1 hg) rfl rfl rfl hl.1 ⟨Nat.le_of_ble_eq_true rfl, Nat.le_of_ble_eq_true rfl⟩ (Nat.le_of_ble_eq_true rfl) dL_landAt_3 ⟨Nat.zero_le _, Nat.zero_le _⟩) (fun H locs hU hS => ?_)
    refine lv_i2l (v := v.toInt64) X.1 X.2.1 dL_landAt_6 rfl ?_
    refine k_jst sh_6_0 X hU hS dL_landAt_7 (fun H locs hU hS => ?_)
    refine lv_goto (tgt := 14) X.1 X.2.1 dL_landAt_8 (by decide) ?_
    refine lv_iconst (v := 0) X.1 X.2.1 dL_landAt_14 (by decide) ?_
    refine vx_ret (W.widen (k := 1) (n := 6) (Nat.zero_le _) (Nat.zero_le _) ?_)
    exact k_iret (v := 0) X hU hS hr hlk rfl rfl dL_landAt_15
  · rw [hg] at hf
    by_cases hj0 : j = 3
    · subst hj0
      have hz := Option.some.inj hf
      subst hz
      refine k_xback X hS (k_xrunV (As := []) (rest := [.int 0, .ref (ad 6 0)]) X hS hU sh_0_0 (by decide) rfl vl_L_59 (x_X10_landAt X.2.2.2.2.2.2.1 hlT hg) rfl rfl rfl hl.1 ⟨Nat.le_of_ble_eq_true rfl, Nat.le_of_ble_eq_true rfl⟩ (Nat.le_of_ble_eq_true rfl) dL_landAt_3 ⟨Nat.le_of_ble_eq_true rfl, Nat.le_of_ble_eq_true rfl⟩) (fun ce q9 H locs hU hS hce hcv hcl => ?_)
      refine vx_catch (name := "java/util/NoSuchElementException") X.2.2.2.1 [] ⟨0, 8, 11, 45⟩ [] (htb.trans rfl) (fun z h => absurd h List.not_mem_nil) (by decide) (by decide) (X.2.2.2.2.1 _ t_1089) (va_Nw.use rfl (X.2.2.2.2.2.2.2.2.2.2.2.2.2.2.2.1 _ (by decide))) hce hcv hcl ?_
      refine lv_astore_n (lv' := [(2, .ref q9), (0, .ref (ad 0 0)), (1, .ref (ad 6 0))]) X.1 X.2.1 dL_landAt_11 rfl hl (by decide) rfl (fun ls hl => ?_)
      refine lv_iconst (v := 1) X.1 X.2.1 dL_landAt_12 (by decide) ?_
      refine vx_ret (W.widen (k := 1) (n := 6) (Nat.le_refl _) (Nat.le_refl _) ?_)
      exact k_iret (v := 1) X hU hS hr hlk rfl rfl dL_landAt_13
    exfalso
    have hn : ¬ j ∈ ([3] : List Nat) := by simp; omega
    have hf : (if j ∈ ([3] : List Nat) then some (u1, Int32.ofNat (([3] : List Nat).idxOf j + 1)) else none) = some r := hf
    rw [if_neg hn] at hf
    cases hf
def rm_L_failsIn : Room := { frames := 7, cells := 1, slots := 6, locals := 136 }
set_option maxRecDepth 100000 in
set_option maxHeartbeats 4000000 in
theorem c_L_failsIn {l : Launch} {D : va_G} {G : Nat → ClassId} {ad : Nat → Nat → Nat} {u : k_U} (hI : k_ok ad) (hlT : l.stackTraces = false) {a1 : Int32} {sz : Nat} {r : k_U × Int32} (hf : f_L_failsIn u a1 = some r) : Met l yL_failsIn (.codeWith yL_failsIn cL_failsIn 4 (some .int) [(0, 9, 12, 28)] :: lw_g) rm_L_failsIn (k_Pre D G ad u sz [.ref (ad 0 0), .int a1, .ref (ad 6 0)]) (k_Qi D G ad r.1 r.2 sz) 1 6 (k_A ad sz) := by
  refine k_wofW (by decide +kernel) hI (Nat.le_of_ble_eq_true rfl) ?_
  intro p e s m args below meth c X hr hlk htb hU hS ls hl
  have hl : lv_has ls 4 [(0, .ref (ad 0 0)), (1, .int a1), (2, .ref (ad 6 0))] := hl
  refine lv_aload_n X.1 X.2.1 dL_failsIn_0 rfl (lv_at hl 2 rfl) ?_
  refine lv_iconst (v := 0) X.1 X.2.1 dL_failsIn_1 (by decide) ?_
  refine lv_aload_n X.1 X.2.1 dL_failsIn_2 rfl (lv_at hl 0 rfl) ?_
  refine lv_iload_n X.1 X.2.1 dL_failsIn_3 rfl (lv_at hl 1 rfl) ?_
  unfold f_L_failsIn at hf
  rcases hg : f_X10_failsIn u a1 with _ | ⟨u1, v | j⟩
  · rw [hg] at hf
    cases hf
  · rw [hg] at hf
    have hz := Option.some.inj hf
    subst hz
    refine k_backi X hS (k_runV (As := [.int a1]) (rest := [.int 0, .ref (ad 6 0)]) X hS hU sh_0_0 (by decide) rfl vl_L_63 (c_X10_failsIn X.2.2.2.2.2.2.1 hg) rfl rfl rfl hl.1 ⟨Nat.le_of_ble_eq_true rfl, Nat.le_of_ble_eq_true rfl⟩ (Nat.le_of_ble_eq_true rfl) dL_failsIn_4 ⟨Nat.zero_le _, Nat.zero_le _⟩) (fun H locs hU hS => ?_)
    refine lv_i2l (v := v.toInt64) X.1 X.2.1 dL_failsIn_7 rfl ?_
    refine k_jst sh_6_0 X hU hS dL_failsIn_8 (fun H locs hU hS => ?_)
    refine lv_goto (tgt := 15) X.1 X.2.1 dL_failsIn_9 (by decide) ?_
    refine lv_iconst (v := 0) X.1 X.2.1 dL_failsIn_15 (by decide) ?_
    refine vx_ret (W.widen (k := 1) (n := 6) (Nat.zero_le _) (Nat.zero_le _) ?_)
    exact k_iret (v := 0) X hU hS hr hlk rfl rfl dL_failsIn_16
  · rw [hg] at hf
    by_cases hj0 : j = 2
    · subst hj0
      have hz := Option.some.inj hf
      subst hz
      refine k_xback X hS (k_xrunV (As := [.int a1]) (rest := [.int 0, .ref (ad 6 0)]) X hS hU sh_0_0 (by decide) rfl vl_L_63 (x_X10_failsIn X.2.2.2.2.2.2.1 hlT hg) rfl rfl rfl hl.1 ⟨Nat.le_of_ble_eq_true rfl, Nat.le_of_ble_eq_true rfl⟩ (Nat.le_of_ble_eq_true rfl) dL_failsIn_4 ⟨Nat.le_of_ble_eq_true rfl, Nat.le_of_ble_eq_true rfl⟩) (fun ce q9 H locs hU hS hce hcv hcl => ?_)
      refine vx_catch (name := "java/lang/IndexOutOfBoundsException") X.2.2.2.1 [] ⟨0, 9, 12, 28⟩ [] (htb.trans rfl) (fun z h => absurd h List.not_mem_nil) (by decide) (by decide) (X.2.2.2.2.1 _ t_1042) (va_Nw.use rfl (X.2.2.2.2.2.2.2.2.2.2.2.2.2.2.2.1 _ (by decide))) hce hcv hcl ?_
      refine lv_astore_n (lv' := [(3, .ref q9), (0, .ref (ad 0 0)), (1, .int a1), (2, .ref (ad 6 0))]) X.1 X.2.1 dL_failsIn_12 rfl hl (by decide) rfl (fun ls hl => ?_)
      refine lv_iconst (v := 1) X.1 X.2.1 dL_failsIn_13 (by decide) ?_
      refine vx_ret (W.widen (k := 1) (n := 6) (Nat.le_refl _) (Nat.le_refl _) ?_)
      exact k_iret (v := 1) X hU hS hr hlk rfl rfl dL_failsIn_14
    exfalso
    have hn : ¬ j ∈ ([2] : List Nat) := by simp; omega
    have hf : (if j ∈ ([2] : List Nat) then some (u1, Int32.ofNat (([2] : List Nat).idxOf j + 1)) else none) = some r := hf
    rw [if_neg hn] at hf
    cases hf
def rm_L_bestSlip : Room := { frames := 7, cells := 1, slots := 6, locals := 183 }
set_option maxRecDepth 100000 in
set_option maxHeartbeats 4000000 in
theorem c_L_bestSlip {l : Launch} {D : va_G} {G : Nat → ClassId} {ad : Nat → Nat → Nat} {u : k_U} (hI : k_ok ad) (hlT : l.stackTraces = false) {a1 : Int32} {sz : Nat} {r : k_U × Int32} (hf : f_L_bestSlip u a1 = some r) : Met l yL_bestSlip (.codeWith yL_bestSlip cL_bestSlip 4 (some .int) [(0, 9, 12, 28)] :: lw_g) rm_L_bestSlip (k_Pre D G ad u sz [.ref (ad 0 0), .int a1, .ref (ad 6 0)]) (k_Qi D G ad r.1 r.2 sz) 1 6 (k_A ad sz) := by
  refine k_wofW (by decide +kernel) hI (Nat.le_of_ble_eq_true rfl) ?_
  intro p e s m args below meth c X hr hlk htb hU hS ls hl
  have hl : lv_has ls 4 [(0, .ref (ad 0 0)), (1, .int a1), (2, .ref (ad 6 0))] := hl
  refine lv_aload_n X.1 X.2.1 dL_bestSlip_0 rfl (lv_at hl 2 rfl) ?_
  refine lv_iconst (v := 0) X.1 X.2.1 dL_bestSlip_1 (by decide) ?_
  refine lv_aload_n X.1 X.2.1 dL_bestSlip_2 rfl (lv_at hl 0 rfl) ?_
  refine lv_iload_n X.1 X.2.1 dL_bestSlip_3 rfl (lv_at hl 1 rfl) ?_
  unfold f_L_bestSlip at hf
  rcases hg : f_X10_bestSlip u a1 with _ | ⟨u1, v | j⟩
  · rw [hg] at hf
    cases hf
  · rw [hg] at hf
    have hz := Option.some.inj hf
    subst hz
    refine k_backi X hS (k_runV (As := [.int a1]) (rest := [.int 0, .ref (ad 6 0)]) X hS hU sh_0_0 (by decide) rfl vl_L_66 (c_X10_bestSlip X.2.2.2.2.2.2.1 hg) rfl rfl rfl hl.1 ⟨Nat.le_of_ble_eq_true rfl, Nat.le_of_ble_eq_true rfl⟩ (Nat.le_of_ble_eq_true rfl) dL_bestSlip_4 ⟨Nat.zero_le _, Nat.zero_le _⟩) (fun H locs hU hS => ?_)
    refine lv_i2l (v := v.toInt64) X.1 X.2.1 dL_bestSlip_7 rfl ?_
    refine k_jst sh_6_0 X hU hS dL_bestSlip_8 (fun H locs hU hS => ?_)
    refine lv_goto (tgt := 15) X.1 X.2.1 dL_bestSlip_9 (by decide) ?_
    refine lv_iconst (v := 0) X.1 X.2.1 dL_bestSlip_15 (by decide) ?_
    refine vx_ret (W.widen (k := 1) (n := 6) (Nat.zero_le _) (Nat.zero_le _) ?_)
    exact k_iret (v := 0) X hU hS hr hlk rfl rfl dL_bestSlip_16
  · rw [hg] at hf
    by_cases hj0 : j = 2
    · subst hj0
      have hz := Option.some.inj hf
      subst hz
      refine k_xback X hS (k_xrunV (As := [.int a1]) (rest := [.int 0, .ref (ad 6 0)]) X hS hU sh_0_0 (by decide) rfl vl_L_66 (x_X10_bestSlip X.2.2.2.2.2.2.1 hlT hg) rfl rfl rfl hl.1 ⟨Nat.le_of_ble_eq_true rfl, Nat.le_of_ble_eq_true rfl⟩ (Nat.le_of_ble_eq_true rfl) dL_bestSlip_4 ⟨Nat.le_of_ble_eq_true rfl, Nat.le_of_ble_eq_true rfl⟩) (fun ce q9 H locs hU hS hce hcv hcl => ?_)
      refine vx_catch (name := "java/lang/IndexOutOfBoundsException") X.2.2.2.1 [] ⟨0, 9, 12, 28⟩ [] (htb.trans rfl) (fun z h => absurd h List.not_mem_nil) (by decide) (by decide) (X.2.2.2.2.1 _ t_1042) (va_Nw.use rfl (X.2.2.2.2.2.2.2.2.2.2.2.2.2.2.2.1 _ (by decide))) hce hcv hcl ?_
      refine lv_astore_n (lv' := [(3, .ref q9), (0, .ref (ad 0 0)), (1, .int a1), (2, .ref (ad 6 0))]) X.1 X.2.1 dL_bestSlip_12 rfl hl (by decide) rfl (fun ls hl => ?_)
      refine lv_iconst (v := 1) X.1 X.2.1 dL_bestSlip_13 (by decide) ?_
      refine vx_ret (W.widen (k := 1) (n := 6) (Nat.le_refl _) (Nat.le_refl _) ?_)
      exact k_iret (v := 1) X hU hS hr hlk rfl rfl dL_bestSlip_14
    exfalso
    have hn : ¬ j ∈ ([2] : List Nat) := by simp; omega
    have hf : (if j ∈ ([2] : List Nat) then some (u1, Int32.ofNat (([2] : List Nat).idxOf j + 1)) else none) = some r := hf
    rw [if_neg hn] at hf
    cases hf
def rm_L_tick : Room := { frames := 7, cells := 1, slots := 6, locals := 157 }
set_option maxRecDepth 100000 in
set_option maxHeartbeats 4000000 in
theorem c_L_tick {l : Launch} {D : va_G} {G : Nat → ClassId} {ad : Nat → Nat → Nat} {u : k_U} (hI : k_ok ad) (hlT : l.stackTraces = false) {a1 : Int32} {sz : Nat} {r : k_U × Int32} (hf : f_L_tick u a1 = some r) : Met l yL_tick (.codeWith yL_tick cL_tick 4 (some .int) [(0, 9, 12, 19)] :: lw_g) rm_L_tick (k_Pre D G ad u sz [.ref (ad 0 0), .int a1, .ref (ad 6 0)]) (k_Qi D G ad r.1 r.2 sz) 1 6 (k_A ad sz) := by
  refine k_wofW (by decide +kernel) hI (Nat.le_of_ble_eq_true rfl) ?_
  intro p e s m args below meth c X hr hlk htb hU hS ls hl
  have hl : lv_has ls 4 [(0, .ref (ad 0 0)), (1, .int a1), (2, .ref (ad 6 0))] := hl
  refine lv_aload_n X.1 X.2.1 dL_tick_0 rfl (lv_at hl 2 rfl) ?_
  refine lv_iconst (v := 0) X.1 X.2.1 dL_tick_1 (by decide) ?_
  refine lv_aload_n X.1 X.2.1 dL_tick_2 rfl (lv_at hl 0 rfl) ?_
  refine lv_iload_n X.1 X.2.1 dL_tick_3 rfl (lv_at hl 1 rfl) ?_
  unfold f_L_tick at hf
  rcases hg : f_X10_tick u a1 with _ | ⟨u1, v | j⟩
  · rw [hg] at hf
    cases hf
  · rw [hg] at hf
    have hz := Option.some.inj hf
    subst hz
    refine k_backi X hS (k_runV (As := [.int a1]) (rest := [.int 0, .ref (ad 6 0)]) X hS hU sh_0_0 (by decide) rfl vl_L_69 (c_X10_tick X.2.2.2.2.2.2.1 hg) rfl rfl rfl hl.1 ⟨Nat.le_of_ble_eq_true rfl, Nat.le_of_ble_eq_true rfl⟩ (Nat.le_of_ble_eq_true rfl) dL_tick_4 ⟨Nat.zero_le _, Nat.zero_le _⟩) (fun H locs hU hS => ?_)
    refine lv_i2l (v := v.toInt64) X.1 X.2.1 dL_tick_7 rfl ?_
    refine k_jst sh_6_0 X hU hS dL_tick_8 (fun H locs hU hS => ?_)
    refine lv_goto (tgt := 15) X.1 X.2.1 dL_tick_9 (by decide) ?_
    refine lv_iconst (v := 0) X.1 X.2.1 dL_tick_15 (by decide) ?_
    refine vx_ret (W.widen (k := 1) (n := 6) (Nat.zero_le _) (Nat.zero_le _) ?_)
    exact k_iret (v := 0) X hU hS hr hlk rfl rfl dL_tick_16
  · rw [hg] at hf
    by_cases hj0 : j = 1
    · subst hj0
      have hz := Option.some.inj hf
      subst hz
      refine k_xback X hS (k_xrunV (As := [.int a1]) (rest := [.int 0, .ref (ad 6 0)]) X hS hU sh_0_0 (by decide) rfl vl_L_69 (x_X10_tick X.2.2.2.2.2.2.1 hlT hg) rfl rfl rfl hl.1 ⟨Nat.le_of_ble_eq_true rfl, Nat.le_of_ble_eq_true rfl⟩ (Nat.le_of_ble_eq_true rfl) dL_tick_4 ⟨Nat.le_of_ble_eq_true rfl, Nat.le_of_ble_eq_true rfl⟩) (fun ce q9 H locs hU hS hce hcv hcl => ?_)
      refine vx_catch (name := "java/lang/IllegalArgumentException") X.2.2.2.1 [] ⟨0, 9, 12, 19⟩ [] (htb.trans rfl) (fun z h => absurd h List.not_mem_nil) (by decide) (by decide) (X.2.2.2.2.1 _ t_1024) (va_Nw.use rfl (X.2.2.2.2.2.2.2.2.2.2.2.2.2.2.2.1 _ (by decide))) hce hcv hcl ?_
      refine lv_astore_n (lv' := [(3, .ref q9), (0, .ref (ad 0 0)), (1, .int a1), (2, .ref (ad 6 0))]) X.1 X.2.1 dL_tick_12 rfl hl (by decide) rfl (fun ls hl => ?_)
      refine lv_iconst (v := 1) X.1 X.2.1 dL_tick_13 (by decide) ?_
      refine vx_ret (W.widen (k := 1) (n := 6) (Nat.le_refl _) (Nat.le_refl _) ?_)
      exact k_iret (v := 1) X hU hS hr hlk rfl rfl dL_tick_14
    exfalso
    have hn : ¬ j ∈ ([1] : List Nat) := by simp; omega
    have hf : (if j ∈ ([1] : List Nat) then some (u1, Int32.ofNat (([1] : List Nat).idxOf j + 1)) else none) = some r := hf
    rw [if_neg hn] at hf
    cases hf
def rm_L_fallTo : Room := { frames := 7, cells := 1, slots := 6, locals := 157 }
set_option maxRecDepth 100000 in
set_option maxHeartbeats 4000000 in
theorem c_L_fallTo {l : Launch} {D : va_G} {G : Nat → ClassId} {ad : Nat → Nat → Nat} {u : k_U} (hI : k_ok ad) (hlT : l.stackTraces = false) {a1 : Int32} {sz : Nat} {r : k_U × Int32} (hf : f_L_fallTo u a1 = some r) : Met l yL_fallTo (.codeWith yL_fallTo cL_fallTo 4 (some .int) [(0, 9, 12, 19)] :: lw_g) rm_L_fallTo (k_Pre D G ad u sz [.ref (ad 0 0), .int a1, .ref (ad 6 0)]) (k_Qi D G ad r.1 r.2 sz) 1 6 (k_A ad sz) := by
  refine k_wofW (by decide +kernel) hI (Nat.le_of_ble_eq_true rfl) ?_
  intro p e s m args below meth c X hr hlk htb hU hS ls hl
  have hl : lv_has ls 4 [(0, .ref (ad 0 0)), (1, .int a1), (2, .ref (ad 6 0))] := hl
  refine lv_aload_n X.1 X.2.1 dL_fallTo_0 rfl (lv_at hl 2 rfl) ?_
  refine lv_iconst (v := 0) X.1 X.2.1 dL_fallTo_1 (by decide) ?_
  refine lv_aload_n X.1 X.2.1 dL_fallTo_2 rfl (lv_at hl 0 rfl) ?_
  refine lv_iload_n X.1 X.2.1 dL_fallTo_3 rfl (lv_at hl 1 rfl) ?_
  unfold f_L_fallTo at hf
  rcases hg : f_X10_fallTo u a1 with _ | ⟨u1, v | j⟩
  · rw [hg] at hf
    cases hf
  · rw [hg] at hf
    have hz := Option.some.inj hf
    subst hz
    refine k_backi X hS (k_runV (As := [.int a1]) (rest := [.int 0, .ref (ad 6 0)]) X hS hU sh_0_0 (by decide) rfl vl_L_72 (c_X10_fallTo X.2.2.2.2.2.2.1 hg) rfl rfl rfl hl.1 ⟨Nat.le_of_ble_eq_true rfl, Nat.le_of_ble_eq_true rfl⟩ (Nat.le_of_ble_eq_true rfl) dL_fallTo_4 ⟨Nat.zero_le _, Nat.zero_le _⟩) (fun H locs hU hS => ?_)
    refine lv_i2l (v := v.toInt64) X.1 X.2.1 dL_fallTo_7 rfl ?_
    refine k_jst sh_6_0 X hU hS dL_fallTo_8 (fun H locs hU hS => ?_)
    refine lv_goto (tgt := 15) X.1 X.2.1 dL_fallTo_9 (by decide) ?_
    refine lv_iconst (v := 0) X.1 X.2.1 dL_fallTo_15 (by decide) ?_
    refine vx_ret (W.widen (k := 1) (n := 6) (Nat.zero_le _) (Nat.zero_le _) ?_)
    exact k_iret (v := 0) X hU hS hr hlk rfl rfl dL_fallTo_16
  · rw [hg] at hf
    by_cases hj0 : j = 1
    · subst hj0
      have hz := Option.some.inj hf
      subst hz
      refine k_xback X hS (k_xrunV (As := [.int a1]) (rest := [.int 0, .ref (ad 6 0)]) X hS hU sh_0_0 (by decide) rfl vl_L_72 (x_X10_fallTo X.2.2.2.2.2.2.1 hlT hg) rfl rfl rfl hl.1 ⟨Nat.le_of_ble_eq_true rfl, Nat.le_of_ble_eq_true rfl⟩ (Nat.le_of_ble_eq_true rfl) dL_fallTo_4 ⟨Nat.le_of_ble_eq_true rfl, Nat.le_of_ble_eq_true rfl⟩) (fun ce q9 H locs hU hS hce hcv hcl => ?_)
      refine vx_catch (name := "java/lang/IllegalArgumentException") X.2.2.2.1 [] ⟨0, 9, 12, 19⟩ [] (htb.trans rfl) (fun z h => absurd h List.not_mem_nil) (by decide) (by decide) (X.2.2.2.2.1 _ t_1024) (va_Nw.use rfl (X.2.2.2.2.2.2.2.2.2.2.2.2.2.2.2.1 _ (by decide))) hce hcv hcl ?_
      refine lv_astore_n (lv' := [(3, .ref q9), (0, .ref (ad 0 0)), (1, .int a1), (2, .ref (ad 6 0))]) X.1 X.2.1 dL_fallTo_12 rfl hl (by decide) rfl (fun ls hl => ?_)
      refine lv_iconst (v := 1) X.1 X.2.1 dL_fallTo_13 (by decide) ?_
      refine vx_ret (W.widen (k := 1) (n := 6) (Nat.le_refl _) (Nat.le_refl _) ?_)
      exact k_iret (v := 1) X hU hS hr hlk rfl rfl dL_fallTo_14
    exfalso
    have hn : ¬ j ∈ ([1] : List Nat) := by simp; omega
    have hf : (if j ∈ ([1] : List Nat) then some (u1, Int32.ofNat (([1] : List Nat).idxOf j + 1)) else none) = some r := hf
    rw [if_neg hn] at hf
    cases hf
def rm_L_open : Room := { frames := 7, cells := 1, slots := 6, locals := 130 }
set_option maxRecDepth 100000 in
set_option maxHeartbeats 4000000 in
theorem c_L_open {l : Launch} {D : va_G} {G : Nat → ClassId} {ad : Nat → Nat → Nat} {u : k_U} (hI : k_ok ad) (hlT : l.stackTraces = false) {a1 : Int32} {sz : Nat} {r : k_U × Int32} (hf : f_L_open u a1 = some r) : Met l yL_open (.codeWith yL_open cL_open 4 (some .int) [(0, 9, 12, 28)] :: lw_g) rm_L_open (k_Pre D G ad u sz [.ref (ad 0 0), .int a1, .ref (ad 6 0)]) (k_Qi D G ad r.1 r.2 sz) 1 6 (k_A ad sz) := by
  refine k_wofW (by decide +kernel) hI (Nat.le_of_ble_eq_true rfl) ?_
  intro p e s m args below meth c X hr hlk htb hU hS ls hl
  have hl : lv_has ls 4 [(0, .ref (ad 0 0)), (1, .int a1), (2, .ref (ad 6 0))] := hl
  refine lv_aload_n X.1 X.2.1 dL_open_0 rfl (lv_at hl 2 rfl) ?_
  refine lv_iconst (v := 0) X.1 X.2.1 dL_open_1 (by decide) ?_
  refine lv_aload_n X.1 X.2.1 dL_open_2 rfl (lv_at hl 0 rfl) ?_
  refine lv_iload_n X.1 X.2.1 dL_open_3 rfl (lv_at hl 1 rfl) ?_
  unfold f_L_open at hf
  rcases hg : f_X10_open u a1 with _ | ⟨u1, v | j⟩
  · rw [hg] at hf
    cases hf
  · rw [hg] at hf
    have hz := Option.some.inj hf
    subst hz
    refine k_backi X hS (k_runV (As := [.int a1]) (rest := [.int 0, .ref (ad 6 0)]) X hS hU sh_0_0 (by decide) rfl vl_L_75 (c_X10_open X.2.2.2.2.2.2.1 hg) rfl rfl rfl hl.1 ⟨Nat.le_of_ble_eq_true rfl, Nat.le_of_ble_eq_true rfl⟩ (Nat.le_of_ble_eq_true rfl) dL_open_4 ⟨Nat.zero_le _, Nat.zero_le _⟩) (fun H locs hU hS => ?_)
    refine lv_i2l (v := v.toInt64) X.1 X.2.1 dL_open_7 rfl ?_
    refine k_jst sh_6_0 X hU hS dL_open_8 (fun H locs hU hS => ?_)
    refine lv_goto (tgt := 15) X.1 X.2.1 dL_open_9 (by decide) ?_
    refine lv_iconst (v := 0) X.1 X.2.1 dL_open_15 (by decide) ?_
    refine vx_ret (W.widen (k := 1) (n := 6) (Nat.zero_le _) (Nat.zero_le _) ?_)
    exact k_iret (v := 0) X hU hS hr hlk rfl rfl dL_open_16
  · rw [hg] at hf
    by_cases hj0 : j = 2
    · subst hj0
      have hz := Option.some.inj hf
      subst hz
      refine k_xback X hS (k_xrunV (As := [.int a1]) (rest := [.int 0, .ref (ad 6 0)]) X hS hU sh_0_0 (by decide) rfl vl_L_75 (x_X10_open X.2.2.2.2.2.2.1 hlT hg) rfl rfl rfl hl.1 ⟨Nat.le_of_ble_eq_true rfl, Nat.le_of_ble_eq_true rfl⟩ (Nat.le_of_ble_eq_true rfl) dL_open_4 ⟨Nat.le_of_ble_eq_true rfl, Nat.le_of_ble_eq_true rfl⟩) (fun ce q9 H locs hU hS hce hcv hcl => ?_)
      refine vx_catch (name := "java/lang/IndexOutOfBoundsException") X.2.2.2.1 [] ⟨0, 9, 12, 28⟩ [] (htb.trans rfl) (fun z h => absurd h List.not_mem_nil) (by decide) (by decide) (X.2.2.2.2.1 _ t_1042) (va_Nw.use rfl (X.2.2.2.2.2.2.2.2.2.2.2.2.2.2.2.1 _ (by decide))) hce hcv hcl ?_
      refine lv_astore_n (lv' := [(3, .ref q9), (0, .ref (ad 0 0)), (1, .int a1), (2, .ref (ad 6 0))]) X.1 X.2.1 dL_open_12 rfl hl (by decide) rfl (fun ls hl => ?_)
      refine lv_iconst (v := 1) X.1 X.2.1 dL_open_13 (by decide) ?_
      refine vx_ret (W.widen (k := 1) (n := 6) (Nat.le_refl _) (Nat.le_refl _) ?_)
      exact k_iret (v := 1) X hU hS hr hlk rfl rfl dL_open_14
    exfalso
    have hn : ¬ j ∈ ([2] : List Nat) := by simp; omega
    have hf : (if j ∈ ([2] : List Nat) then some (u1, Int32.ofNat (([2] : List Nat).idxOf j + 1)) else none) = some r := hf
    rw [if_neg hn] at hf
    cases hf
def rm_L_cut : Room := { frames := 7, cells := 1, slots := 6, locals := 129 }
set_option maxRecDepth 100000 in
set_option maxHeartbeats 4000000 in
theorem c_L_cut {l : Launch} {D : va_G} {G : Nat → ClassId} {ad : Nat → Nat → Nat} {u : k_U} (hI : k_ok ad) (hlT : l.stackTraces = false) {a1 : Int32} {sz : Nat} {r : k_U × Int32} (hf : f_L_cut u a1 = some r) : Met l yL_cut (.codeWith yL_cut cL_cut 4 (some .int) [(0, 9, 12, 28)] :: lw_g) rm_L_cut (k_Pre D G ad u sz [.ref (ad 0 0), .int a1, .ref (ad 6 0)]) (k_Qi D G ad r.1 r.2 sz) 1 6 (k_A ad sz) := by
  refine k_wofW (by decide +kernel) hI (Nat.le_of_ble_eq_true rfl) ?_
  intro p e s m args below meth c X hr hlk htb hU hS ls hl
  have hl : lv_has ls 4 [(0, .ref (ad 0 0)), (1, .int a1), (2, .ref (ad 6 0))] := hl
  refine lv_aload_n X.1 X.2.1 dL_cut_0 rfl (lv_at hl 2 rfl) ?_
  refine lv_iconst (v := 0) X.1 X.2.1 dL_cut_1 (by decide) ?_
  refine lv_aload_n X.1 X.2.1 dL_cut_2 rfl (lv_at hl 0 rfl) ?_
  refine lv_iload_n X.1 X.2.1 dL_cut_3 rfl (lv_at hl 1 rfl) ?_
  unfold f_L_cut at hf
  rcases hg : f_X10_cut u a1 with _ | ⟨u1, v | j⟩
  · rw [hg] at hf
    cases hf
  · rw [hg] at hf
    have hz := Option.some.inj hf
    subst hz
    refine k_backi X hS (k_runV (As := [.int a1]) (rest := [.int 0, .ref (ad 6 0)]) X hS hU sh_0_0 (by decide) rfl vl_L_78 (c_X10_cut X.2.2.2.2.2.2.1 hg) rfl rfl rfl hl.1 ⟨Nat.le_of_ble_eq_true rfl, Nat.le_of_ble_eq_true rfl⟩ (Nat.le_of_ble_eq_true rfl) dL_cut_4 ⟨Nat.zero_le _, Nat.zero_le _⟩) (fun H locs hU hS => ?_)
    refine lv_i2l (v := v.toInt64) X.1 X.2.1 dL_cut_7 rfl ?_
    refine k_jst sh_6_0 X hU hS dL_cut_8 (fun H locs hU hS => ?_)
    refine lv_goto (tgt := 15) X.1 X.2.1 dL_cut_9 (by decide) ?_
    refine lv_iconst (v := 0) X.1 X.2.1 dL_cut_15 (by decide) ?_
    refine vx_ret (W.widen (k := 1) (n := 6) (Nat.zero_le _) (Nat.zero_le _) ?_)
    exact k_iret (v := 0) X hU hS hr hlk rfl rfl dL_cut_16
  · rw [hg] at hf
    by_cases hj0 : j = 2
    · subst hj0
      have hz := Option.some.inj hf
      subst hz
      refine k_xback X hS (k_xrunV (As := [.int a1]) (rest := [.int 0, .ref (ad 6 0)]) X hS hU sh_0_0 (by decide) rfl vl_L_78 (x_X10_cut X.2.2.2.2.2.2.1 hlT hg) rfl rfl rfl hl.1 ⟨Nat.le_of_ble_eq_true rfl, Nat.le_of_ble_eq_true rfl⟩ (Nat.le_of_ble_eq_true rfl) dL_cut_4 ⟨Nat.le_of_ble_eq_true rfl, Nat.le_of_ble_eq_true rfl⟩) (fun ce q9 H locs hU hS hce hcv hcl => ?_)
      refine vx_catch (name := "java/lang/IndexOutOfBoundsException") X.2.2.2.1 [] ⟨0, 9, 12, 28⟩ [] (htb.trans rfl) (fun z h => absurd h List.not_mem_nil) (by decide) (by decide) (X.2.2.2.2.1 _ t_1042) (va_Nw.use rfl (X.2.2.2.2.2.2.2.2.2.2.2.2.2.2.2.1 _ (by decide))) hce hcv hcl ?_
      refine lv_astore_n (lv' := [(3, .ref q9), (0, .ref (ad 0 0)), (1, .int a1), (2, .ref (ad 6 0))]) X.1 X.2.1 dL_cut_12 rfl hl (by decide) rfl (fun ls hl => ?_)
      refine lv_iconst (v := 1) X.1 X.2.1 dL_cut_13 (by decide) ?_
      refine vx_ret (W.widen (k := 1) (n := 6) (Nat.le_refl _) (Nat.le_refl _) ?_)
      exact k_iret (v := 1) X hU hS hr hlk rfl rfl dL_cut_14
    exfalso
    have hn : ¬ j ∈ ([2] : List Nat) := by simp; omega
    have hf : (if j ∈ ([2] : List Nat) then some (u1, Int32.ofNat (([2] : List Nat).idxOf j + 1)) else none) = some r := hf
    rw [if_neg hn] at hf
    cases hf
def rm_L_steer : Room := { frames := 7, cells := 1, slots := 6, locals := 130 }
set_option maxRecDepth 100000 in
set_option maxHeartbeats 4000000 in
theorem c_L_steer {l : Launch} {D : va_G} {G : Nat → ClassId} {ad : Nat → Nat → Nat} {u : k_U} (hI : k_ok ad) (hlT : l.stackTraces = false) {a1 : Int32} {sz : Nat} {r : k_U × Int32} (hf : f_L_steer u a1 = some r) : Met l yL_steer (.codeWith yL_steer cL_steer 4 (some .int) [(0, 9, 12, 19)] :: lw_g) rm_L_steer (k_Pre D G ad u sz [.ref (ad 0 0), .int a1, .ref (ad 6 0)]) (k_Qi D G ad r.1 r.2 sz) 1 6 (k_A ad sz) := by
  refine k_wofW (by decide +kernel) hI (Nat.le_of_ble_eq_true rfl) ?_
  intro p e s m args below meth c X hr hlk htb hU hS ls hl
  have hl : lv_has ls 4 [(0, .ref (ad 0 0)), (1, .int a1), (2, .ref (ad 6 0))] := hl
  refine lv_aload_n X.1 X.2.1 dL_steer_0 rfl (lv_at hl 2 rfl) ?_
  refine lv_iconst (v := 0) X.1 X.2.1 dL_steer_1 (by decide) ?_
  refine lv_aload_n X.1 X.2.1 dL_steer_2 rfl (lv_at hl 0 rfl) ?_
  refine lv_iload_n X.1 X.2.1 dL_steer_3 rfl (lv_at hl 1 rfl) ?_
  unfold f_L_steer at hf
  rcases hg : f_X10_steer u a1 with _ | ⟨u1, v | j⟩
  · rw [hg] at hf
    cases hf
  · rw [hg] at hf
    have hz := Option.some.inj hf
    subst hz
    refine k_backi X hS (k_runV (As := [.int a1]) (rest := [.int 0, .ref (ad 6 0)]) X hS hU sh_0_0 (by decide) rfl vl_L_81 (c_X10_steer X.2.2.2.2.2.2.1 hg) rfl rfl rfl hl.1 ⟨Nat.le_of_ble_eq_true rfl, Nat.le_of_ble_eq_true rfl⟩ (Nat.le_of_ble_eq_true rfl) dL_steer_4 ⟨Nat.zero_le _, Nat.zero_le _⟩) (fun H locs hU hS => ?_)
    refine lv_i2l (v := v.toInt64) X.1 X.2.1 dL_steer_7 rfl ?_
    refine k_jst sh_6_0 X hU hS dL_steer_8 (fun H locs hU hS => ?_)
    refine lv_goto (tgt := 15) X.1 X.2.1 dL_steer_9 (by decide) ?_
    refine lv_iconst (v := 0) X.1 X.2.1 dL_steer_15 (by decide) ?_
    refine vx_ret (W.widen (k := 1) (n := 6) (Nat.zero_le _) (Nat.zero_le _) ?_)
    exact k_iret (v := 0) X hU hS hr hlk rfl rfl dL_steer_16
  · rw [hg] at hf
    by_cases hj0 : j = 1
    · subst hj0
      have hz := Option.some.inj hf
      subst hz
      refine k_xback X hS (k_xrunV (As := [.int a1]) (rest := [.int 0, .ref (ad 6 0)]) X hS hU sh_0_0 (by decide) rfl vl_L_81 (x_X10_steer X.2.2.2.2.2.2.1 hlT hg) rfl rfl rfl hl.1 ⟨Nat.le_of_ble_eq_true rfl, Nat.le_of_ble_eq_true rfl⟩ (Nat.le_of_ble_eq_true rfl) dL_steer_4 ⟨Nat.le_of_ble_eq_true rfl, Nat.le_of_ble_eq_true rfl⟩) (fun ce q9 H locs hU hS hce hcv hcl => ?_)
      refine vx_catch (name := "java/lang/IllegalArgumentException") X.2.2.2.1 [] ⟨0, 9, 12, 19⟩ [] (htb.trans rfl) (fun z h => absurd h List.not_mem_nil) (by decide) (by decide) (X.2.2.2.2.1 _ t_1024) (va_Nw.use rfl (X.2.2.2.2.2.2.2.2.2.2.2.2.2.2.2.1 _ (by decide))) hce hcv hcl ?_
      refine lv_astore_n (lv' := [(3, .ref q9), (0, .ref (ad 0 0)), (1, .int a1), (2, .ref (ad 6 0))]) X.1 X.2.1 dL_steer_12 rfl hl (by decide) rfl (fun ls hl => ?_)
      refine lv_iconst (v := 1) X.1 X.2.1 dL_steer_13 (by decide) ?_
      refine vx_ret (W.widen (k := 1) (n := 6) (Nat.le_refl _) (Nat.le_refl _) ?_)
      exact k_iret (v := 1) X hU hS hr hlk rfl rfl dL_steer_14
    exfalso
    have hn : ¬ j ∈ ([1] : List Nat) := by simp; omega
    have hf : (if j ∈ ([1] : List Nat) then some (u1, Int32.ofNat (([1] : List Nat).idxOf j + 1)) else none) = some r := hf
    rw [if_neg hn] at hf
    cases hf
def rm_L_setTarget : Room := { frames := 7, cells := 1, slots := 6, locals := 130 }
set_option maxRecDepth 100000 in
set_option maxHeartbeats 4000000 in
theorem c_L_setTarget {l : Launch} {D : va_G} {G : Nat → ClassId} {ad : Nat → Nat → Nat} {u : k_U} (hI : k_ok ad) (hlT : l.stackTraces = false) {a1 : Int32} {a2 : Int32} {sz : Nat} {r : k_U × Int32} (hf : f_L_setTarget u a1 a2 = some r) : Met l yL_setTarget (.codeWith yL_setTarget cL_setTarget 5 (some .int) [(0, 10, 13, 19)] :: lw_g) rm_L_setTarget (k_Pre D G ad u sz [.ref (ad 0 0), .int a1, .int a2, .ref (ad 6 0)]) (k_Qi D G ad r.1 r.2 sz) 1 6 (k_A ad sz) := by
  refine k_wofW (by decide +kernel) hI (Nat.le_of_ble_eq_true rfl) ?_
  intro p e s m args below meth c X hr hlk htb hU hS ls hl
  have hl : lv_has ls 5 [(0, .ref (ad 0 0)), (1, .int a1), (2, .int a2), (3, .ref (ad 6 0))] := hl
  refine lv_aload_n X.1 X.2.1 dL_setTarget_0 rfl (lv_at hl 3 rfl) ?_
  refine lv_iconst (v := 0) X.1 X.2.1 dL_setTarget_1 (by decide) ?_
  refine lv_aload_n X.1 X.2.1 dL_setTarget_2 rfl (lv_at hl 0 rfl) ?_
  refine lv_iload_n X.1 X.2.1 dL_setTarget_3 rfl (lv_at hl 1 rfl) ?_
  refine lv_iload_n X.1 X.2.1 dL_setTarget_4 rfl (lv_at hl 2 rfl) ?_
  unfold f_L_setTarget at hf
  rcases hg : f_X10_setTarget u a1 a2 with _ | ⟨u1, v | j⟩
  · rw [hg] at hf
    cases hf
  · rw [hg] at hf
    have hz := Option.some.inj hf
    subst hz
    refine k_backi X hS (k_runV (As := [.int a1, .int a2]) (rest := [.int 0, .ref (ad 6 0)]) X hS hU sh_0_0 (by decide) rfl vl_L_84 (c_X10_setTarget X.2.2.2.2.2.2.1 hg) rfl rfl rfl hl.1 ⟨Nat.le_of_ble_eq_true rfl, Nat.le_of_ble_eq_true rfl⟩ (Nat.le_of_ble_eq_true rfl) dL_setTarget_5 ⟨Nat.zero_le _, Nat.zero_le _⟩) (fun H locs hU hS => ?_)
    refine lv_i2l (v := v.toInt64) X.1 X.2.1 dL_setTarget_8 rfl ?_
    refine k_jst sh_6_0 X hU hS dL_setTarget_9 (fun H locs hU hS => ?_)
    refine lv_goto (tgt := 17) X.1 X.2.1 dL_setTarget_10 (by decide) ?_
    refine lv_iconst (v := 0) X.1 X.2.1 dL_setTarget_17 (by decide) ?_
    refine vx_ret (W.widen (k := 1) (n := 6) (Nat.zero_le _) (Nat.zero_le _) ?_)
    exact k_iret (v := 0) X hU hS hr hlk rfl rfl dL_setTarget_18
  · rw [hg] at hf
    by_cases hj0 : j = 1
    · subst hj0
      have hz := Option.some.inj hf
      subst hz
      refine k_xback X hS (k_xrunV (As := [.int a1, .int a2]) (rest := [.int 0, .ref (ad 6 0)]) X hS hU sh_0_0 (by decide) rfl vl_L_84 (x_X10_setTarget X.2.2.2.2.2.2.1 hlT hg) rfl rfl rfl hl.1 ⟨Nat.le_of_ble_eq_true rfl, Nat.le_of_ble_eq_true rfl⟩ (Nat.le_of_ble_eq_true rfl) dL_setTarget_5 ⟨Nat.le_of_ble_eq_true rfl, Nat.le_of_ble_eq_true rfl⟩) (fun ce q9 H locs hU hS hce hcv hcl => ?_)
      refine vx_catch (name := "java/lang/IllegalArgumentException") X.2.2.2.1 [] ⟨0, 10, 13, 19⟩ [] (htb.trans rfl) (fun z h => absurd h List.not_mem_nil) (by decide) (by decide) (X.2.2.2.2.1 _ t_1024) (va_Nw.use rfl (X.2.2.2.2.2.2.2.2.2.2.2.2.2.2.2.1 _ (by decide))) hce hcv hcl ?_
      refine lv_astore (lv' := [(4, .ref q9), (0, .ref (ad 0 0)), (1, .int a1), (2, .int a2), (3, .ref (ad 6 0))]) X.1 X.2.1 dL_setTarget_13 hl (by decide) rfl (fun ls hl => ?_)
      refine lv_iconst (v := 1) X.1 X.2.1 dL_setTarget_15 (by decide) ?_
      refine vx_ret (W.widen (k := 1) (n := 6) (Nat.le_refl _) (Nat.le_refl _) ?_)
      exact k_iret (v := 1) X hU hS hr hlk rfl rfl dL_setTarget_16
    exfalso
    have hn : ¬ j ∈ ([1] : List Nat) := by simp; omega
    have hf : (if j ∈ ([1] : List Nat) then some (u1, Int32.ofNat (([1] : List Nat).idxOf j + 1)) else none) = some r := hf
    rw [if_neg hn] at hf
    cases hf
def rm_L_jam : Room := { frames := 7, cells := 1, slots := 6, locals := 131 }
set_option maxRecDepth 100000 in
set_option maxHeartbeats 4000000 in
theorem c_L_jam {l : Launch} {D : va_G} {G : Nat → ClassId} {ad : Nat → Nat → Nat} {u : k_U} (hI : k_ok ad) (hlT : l.stackTraces = false) {a1 : Int32} {a2 : Int32} {sz : Nat} {r : k_U × Int32} (hf : f_L_jam u a1 a2 = some r) : Met l yL_jam (.codeWith yL_jam cL_jam 5 (some .int) [(0, 10, 13, 28)] :: lw_g) rm_L_jam (k_Pre D G ad u sz [.ref (ad 0 0), .int a1, .int a2, .ref (ad 6 0)]) (k_Qi D G ad r.1 r.2 sz) 1 6 (k_A ad sz) := by
  refine k_wofW (by decide +kernel) hI (Nat.le_of_ble_eq_true rfl) ?_
  intro p e s m args below meth c X hr hlk htb hU hS ls hl
  have hl : lv_has ls 5 [(0, .ref (ad 0 0)), (1, .int a1), (2, .int a2), (3, .ref (ad 6 0))] := hl
  refine lv_aload_n X.1 X.2.1 dL_jam_0 rfl (lv_at hl 3 rfl) ?_
  refine lv_iconst (v := 0) X.1 X.2.1 dL_jam_1 (by decide) ?_
  refine lv_aload_n X.1 X.2.1 dL_jam_2 rfl (lv_at hl 0 rfl) ?_
  refine lv_iload_n X.1 X.2.1 dL_jam_3 rfl (lv_at hl 1 rfl) ?_
  refine lv_iload_n X.1 X.2.1 dL_jam_4 rfl (lv_at hl 2 rfl) ?_
  unfold f_L_jam at hf
  rcases hg : f_X10_jam u a1 a2 with _ | ⟨u1, v | j⟩
  · rw [hg] at hf
    cases hf
  · rw [hg] at hf
    have hz := Option.some.inj hf
    subst hz
    refine k_backi X hS (k_runV (As := [.int a1, .int a2]) (rest := [.int 0, .ref (ad 6 0)]) X hS hU sh_0_0 (by decide) rfl vl_L_87 (c_X10_jam X.2.2.2.2.2.2.1 hg) rfl rfl rfl hl.1 ⟨Nat.le_of_ble_eq_true rfl, Nat.le_of_ble_eq_true rfl⟩ (Nat.le_of_ble_eq_true rfl) dL_jam_5 ⟨Nat.zero_le _, Nat.zero_le _⟩) (fun H locs hU hS => ?_)
    refine lv_i2l (v := v.toInt64) X.1 X.2.1 dL_jam_8 rfl ?_
    refine k_jst sh_6_0 X hU hS dL_jam_9 (fun H locs hU hS => ?_)
    refine lv_goto (tgt := 17) X.1 X.2.1 dL_jam_10 (by decide) ?_
    refine lv_iconst (v := 0) X.1 X.2.1 dL_jam_17 (by decide) ?_
    refine vx_ret (W.widen (k := 1) (n := 6) (Nat.zero_le _) (Nat.zero_le _) ?_)
    exact k_iret (v := 0) X hU hS hr hlk rfl rfl dL_jam_18
  · rw [hg] at hf
    by_cases hj0 : j = 2
    · subst hj0
      have hz := Option.some.inj hf
      subst hz
      refine k_xback X hS (k_xrunV (As := [.int a1, .int a2]) (rest := [.int 0, .ref (ad 6 0)]) X hS hU sh_0_0 (by decide) rfl vl_L_87 (x_X10_jam X.2.2.2.2.2.2.1 hlT hg) rfl rfl rfl hl.1 ⟨Nat.le_of_ble_eq_true rfl, Nat.le_of_ble_eq_true rfl⟩ (Nat.le_of_ble_eq_true rfl) dL_jam_5 ⟨Nat.le_of_ble_eq_true rfl, Nat.le_of_ble_eq_true rfl⟩) (fun ce q9 H locs hU hS hce hcv hcl => ?_)
      refine vx_catch (name := "java/lang/IndexOutOfBoundsException") X.2.2.2.1 [] ⟨0, 10, 13, 28⟩ [] (htb.trans rfl) (fun z h => absurd h List.not_mem_nil) (by decide) (by decide) (X.2.2.2.2.1 _ t_1042) (va_Nw.use rfl (X.2.2.2.2.2.2.2.2.2.2.2.2.2.2.2.1 _ (by decide))) hce hcv hcl ?_
      refine lv_astore (lv' := [(4, .ref q9), (0, .ref (ad 0 0)), (1, .int a1), (2, .int a2), (3, .ref (ad 6 0))]) X.1 X.2.1 dL_jam_13 hl (by decide) rfl (fun ls hl => ?_)
      refine lv_iconst (v := 1) X.1 X.2.1 dL_jam_15 (by decide) ?_
      refine vx_ret (W.widen (k := 1) (n := 6) (Nat.le_refl _) (Nat.le_refl _) ?_)
      exact k_iret (v := 1) X hU hS hr hlk rfl rfl dL_jam_16
    exfalso
    have hn : ¬ j ∈ ([2] : List Nat) := by simp; omega
    have hf : (if j ∈ ([2] : List Nat) then some (u1, Int32.ofNat (([2] : List Nat).idxOf j + 1)) else none) = some r := hf
    rw [if_neg hn] at hf
    cases hf
def rm_L_output : Room := { frames := 7, cells := 1, slots := 6, locals := 111 }
set_option maxRecDepth 100000 in
set_option maxHeartbeats 4000000 in
theorem c_L_output {l : Launch} {D : va_G} {G : Nat → ClassId} {ad : Nat → Nat → Nat} {u : k_U} (hI : k_ok ad) (hlT : l.stackTraces = false) {a1 : Int32} {sz : Nat} {r : k_U × Int32} (hf : f_L_output u a1 = some r) : Met l yL_output (.codeWith yL_output cL_output 4 (some .int) [(0, 9, 12, 28)] :: lw_g) rm_L_output (k_Pre D G ad u sz [.ref (ad 0 0), .int a1, .ref (ad 6 0)]) (k_Qi D G ad r.1 r.2 sz) 1 6 (k_A ad sz) := by
  refine k_wofW (by decide +kernel) hI (Nat.le_of_ble_eq_true rfl) ?_
  intro p e s m args below meth c X hr hlk htb hU hS ls hl
  have hl : lv_has ls 4 [(0, .ref (ad 0 0)), (1, .int a1), (2, .ref (ad 6 0))] := hl
  refine lv_aload_n X.1 X.2.1 dL_output_0 rfl (lv_at hl 2 rfl) ?_
  refine lv_iconst (v := 0) X.1 X.2.1 dL_output_1 (by decide) ?_
  refine lv_aload_n X.1 X.2.1 dL_output_2 rfl (lv_at hl 0 rfl) ?_
  refine lv_iload_n X.1 X.2.1 dL_output_3 rfl (lv_at hl 1 rfl) ?_
  unfold f_L_output at hf
  rcases hg : f_X10_output u a1 with _ | (v | j)
  · rw [hg] at hf
    cases hf
  · rw [hg] at hf
    have hz := Option.some.inj hf
    subst hz
    refine k_backi X hS (k_runV (As := [.int a1]) (rest := [.int 0, .ref (ad 6 0)]) X hS hU sh_0_0 (by decide) rfl vl_L_91 (c_X10_output X.2.2.2.2.2.2.1 hg) rfl rfl rfl hl.1 ⟨Nat.le_of_ble_eq_true rfl, Nat.le_of_ble_eq_true rfl⟩ (Nat.le_of_ble_eq_true rfl) dL_output_4 ⟨Nat.zero_le _, Nat.zero_le _⟩) (fun H locs hU hS => ?_)
    refine lv_i2l (v := v.toInt64) X.1 X.2.1 dL_output_7 rfl ?_
    refine k_jst sh_6_0 X hU hS dL_output_8 (fun H locs hU hS => ?_)
    refine lv_goto (tgt := 15) X.1 X.2.1 dL_output_9 (by decide) ?_
    refine lv_iconst (v := 0) X.1 X.2.1 dL_output_15 (by decide) ?_
    refine vx_ret (W.widen (k := 1) (n := 6) (Nat.zero_le _) (Nat.zero_le _) ?_)
    exact k_iret (v := 0) X hU hS hr hlk rfl rfl dL_output_16
  · rw [hg] at hf
    by_cases hj0 : j = 2
    · subst hj0
      have hz := Option.some.inj hf
      subst hz
      refine k_xback X hS (k_xrunV (As := [.int a1]) (rest := [.int 0, .ref (ad 6 0)]) X hS hU sh_0_0 (by decide) rfl vl_L_91 (x_X10_output X.2.2.2.2.2.2.1 hlT hg) rfl rfl rfl hl.1 ⟨Nat.le_of_ble_eq_true rfl, Nat.le_of_ble_eq_true rfl⟩ (Nat.le_of_ble_eq_true rfl) dL_output_4 ⟨Nat.le_of_ble_eq_true rfl, Nat.le_of_ble_eq_true rfl⟩) (fun ce q9 H locs hU hS hce hcv hcl => ?_)
      refine vx_catch (name := "java/lang/IndexOutOfBoundsException") X.2.2.2.1 [] ⟨0, 9, 12, 28⟩ [] (htb.trans rfl) (fun z h => absurd h List.not_mem_nil) (by decide) (by decide) (X.2.2.2.2.1 _ t_1042) (va_Nw.use rfl (X.2.2.2.2.2.2.2.2.2.2.2.2.2.2.2.1 _ (by decide))) hce hcv hcl ?_
      refine lv_astore_n (lv' := [(3, .ref q9), (0, .ref (ad 0 0)), (1, .int a1), (2, .ref (ad 6 0))]) X.1 X.2.1 dL_output_12 rfl hl (by decide) rfl (fun ls hl => ?_)
      refine lv_iconst (v := 1) X.1 X.2.1 dL_output_13 (by decide) ?_
      refine vx_ret (W.widen (k := 1) (n := 6) (Nat.le_refl _) (Nat.le_refl _) ?_)
      exact k_iret (v := 1) X hU hS hr hlk rfl rfl dL_output_14
    exfalso
    have hn : ¬ j ∈ ([2] : List Nat) := by simp; omega
    have hf : (if j ∈ ([2] : List Nat) then some (u, Int32.ofNat (([2] : List Nat).idxOf j + 1)) else none) = some r := hf
    rw [if_neg hn] at hf
    cases hf
def rm_L_undo : Room := { frames := 7, cells := 1, slots := 6, locals := 110 }
set_option maxRecDepth 100000 in
set_option maxHeartbeats 4000000 in
theorem c_L_undo {l : Launch} {D : va_G} {G : Nat → ClassId} {ad : Nat → Nat → Nat} {u : k_U} (hI : k_ok ad) (hlT : l.stackTraces = false)  {sz : Nat} {r : k_U × Int32} (hf : f_L_undo u = some r) : Met l yL_undo (.codeWith yL_undo cL_undo 3 (some .int) [(0, 8, 11, 13)] :: lw_g) rm_L_undo (k_Pre D G ad u sz [.ref (ad 0 0), .ref (ad 6 0)]) (k_Qi D G ad r.1 r.2 sz) 1 6 (k_A ad sz) := by
  refine k_wofW (by decide +kernel) hI (Nat.le_of_ble_eq_true rfl) ?_
  intro p e s m args below meth c X hr hlk htb hU hS ls hl
  have hl : lv_has ls 3 [(0, .ref (ad 0 0)), (1, .ref (ad 6 0))] := hl
  refine lv_aload_n X.1 X.2.1 dL_undo_0 rfl (lv_at hl 1 rfl) ?_
  refine lv_iconst (v := 0) X.1 X.2.1 dL_undo_1 (by decide) ?_
  refine lv_aload_n X.1 X.2.1 dL_undo_2 rfl (lv_at hl 0 rfl) ?_
  unfold f_L_undo at hf
  rcases hg : f_X10_undo u with _ | ⟨u1, v | j⟩
  · rw [hg] at hf
    cases hf
  · rw [hg] at hf
    have hz := Option.some.inj hf
    subst hz
    refine k_backi X hS (k_runV (As := []) (rest := [.int 0, .ref (ad 6 0)]) X hS hU sh_0_0 (by decide) rfl vl_L_94 (c_X10_undo X.2.2.2.2.2.2.1 hg) rfl rfl rfl hl.1 ⟨Nat.le_of_ble_eq_true rfl, Nat.le_of_ble_eq_true rfl⟩ (Nat.le_of_ble_eq_true rfl) dL_undo_3 ⟨Nat.zero_le _, Nat.zero_le _⟩) (fun H locs hU hS => ?_)
    refine lv_i2l (v := v.toInt64) X.1 X.2.1 dL_undo_6 rfl ?_
    refine k_jst sh_6_0 X hU hS dL_undo_7 (fun H locs hU hS => ?_)
    refine lv_goto (tgt := 14) X.1 X.2.1 dL_undo_8 (by decide) ?_
    refine lv_iconst (v := 0) X.1 X.2.1 dL_undo_14 (by decide) ?_
    refine vx_ret (W.widen (k := 1) (n := 6) (Nat.zero_le _) (Nat.zero_le _) ?_)
    exact k_iret (v := 0) X hU hS hr hlk rfl rfl dL_undo_15
  · rw [hg] at hf
    by_cases hj0 : j = 0
    · subst hj0
      have hz := Option.some.inj hf
      subst hz
      refine k_xback X hS (k_xrunV (As := []) (rest := [.int 0, .ref (ad 6 0)]) X hS hU sh_0_0 (by decide) rfl vl_L_94 (x_X10_undo X.2.2.2.2.2.2.1 hlT hg) rfl rfl rfl hl.1 ⟨Nat.le_of_ble_eq_true rfl, Nat.le_of_ble_eq_true rfl⟩ (Nat.le_of_ble_eq_true rfl) dL_undo_3 ⟨Nat.le_of_ble_eq_true rfl, Nat.le_of_ble_eq_true rfl⟩) (fun ce q9 H locs hU hS hce hcv hcl => ?_)
      refine vx_catch (name := "java/lang/IllegalStateException") X.2.2.2.1 [] ⟨0, 8, 11, 13⟩ [] (htb.trans rfl) (fun z h => absurd h List.not_mem_nil) (by decide) (by decide) (X.2.2.2.2.1 _ t_986) (va_Nw.use rfl (X.2.2.2.2.2.2.2.2.2.2.2.2.2.2.2.1 _ (by decide))) hce hcv hcl ?_
      refine lv_astore_n (lv' := [(2, .ref q9), (0, .ref (ad 0 0)), (1, .ref (ad 6 0))]) X.1 X.2.1 dL_undo_11 rfl hl (by decide) rfl (fun ls hl => ?_)
      refine lv_iconst (v := 1) X.1 X.2.1 dL_undo_12 (by decide) ?_
      refine vx_ret (W.widen (k := 1) (n := 6) (Nat.le_refl _) (Nat.le_refl _) ?_)
      exact k_iret (v := 1) X hU hS hr hlk rfl rfl dL_undo_13
    exfalso
    have hn : ¬ j ∈ ([0] : List Nat) := by simp; omega
    have hf : (if j ∈ ([0] : List Nat) then some (u1, Int32.ofNat (([0] : List Nat).idxOf j + 1)) else none) = some r := hf
    rw [if_neg hn] at hf
    cases hf
def rm_L_save : Room := { frames := 7, cells := 1, slots := 6, locals := 111 }
set_option maxRecDepth 100000 in
set_option maxHeartbeats 4000000 in
theorem c_L_save {l : Launch} {D : va_G} {G : Nat → ClassId} {ad : Nat → Nat → Nat} {u : k_U} (hI : k_ok ad) (hlT : l.stackTraces = false) {a1 : Int32} {sz : Nat} {r : k_U × Int32} (hf : f_L_save u a1 = some r) : Met l yL_save (.codeWith yL_save cL_save 4 (some .int) [(0, 9, 12, 28)] :: lw_g) rm_L_save (k_Pre D G ad u sz [.ref (ad 0 0), .int a1, .ref (ad 6 0)]) (k_Qi D G ad r.1 r.2 sz) 1 6 (k_A ad sz) := by
  refine k_wofW (by decide +kernel) hI (Nat.le_of_ble_eq_true rfl) ?_
  intro p e s m args below meth c X hr hlk htb hU hS ls hl
  have hl : lv_has ls 4 [(0, .ref (ad 0 0)), (1, .int a1), (2, .ref (ad 6 0))] := hl
  refine lv_aload_n X.1 X.2.1 dL_save_0 rfl (lv_at hl 2 rfl) ?_
  refine lv_iconst (v := 0) X.1 X.2.1 dL_save_1 (by decide) ?_
  refine lv_aload_n X.1 X.2.1 dL_save_2 rfl (lv_at hl 0 rfl) ?_
  refine lv_iload_n X.1 X.2.1 dL_save_3 rfl (lv_at hl 1 rfl) ?_
  unfold f_L_save at hf
  rcases hg : f_X10_save u a1 with _ | ⟨u1, v | j⟩
  · rw [hg] at hf
    cases hf
  · rw [hg] at hf
    have hz := Option.some.inj hf
    subst hz
    refine k_backi X hS (k_runV (As := [.int a1]) (rest := [.int 0, .ref (ad 6 0)]) X hS hU sh_0_0 (by decide) rfl vl_L_97 (c_X10_save X.2.2.2.2.2.2.1 hg) rfl rfl rfl hl.1 ⟨Nat.le_of_ble_eq_true rfl, Nat.le_of_ble_eq_true rfl⟩ (Nat.le_of_ble_eq_true rfl) dL_save_4 ⟨Nat.zero_le _, Nat.zero_le _⟩) (fun H locs hU hS => ?_)
    refine lv_i2l (v := v.toInt64) X.1 X.2.1 dL_save_7 rfl ?_
    refine k_jst sh_6_0 X hU hS dL_save_8 (fun H locs hU hS => ?_)
    refine lv_goto (tgt := 15) X.1 X.2.1 dL_save_9 (by decide) ?_
    refine lv_iconst (v := 0) X.1 X.2.1 dL_save_15 (by decide) ?_
    refine vx_ret (W.widen (k := 1) (n := 6) (Nat.zero_le _) (Nat.zero_le _) ?_)
    exact k_iret (v := 0) X hU hS hr hlk rfl rfl dL_save_16
  · rw [hg] at hf
    by_cases hj0 : j = 2
    · subst hj0
      have hz := Option.some.inj hf
      subst hz
      refine k_xback X hS (k_xrunV (As := [.int a1]) (rest := [.int 0, .ref (ad 6 0)]) X hS hU sh_0_0 (by decide) rfl vl_L_97 (x_X10_save X.2.2.2.2.2.2.1 hlT hg) rfl rfl rfl hl.1 ⟨Nat.le_of_ble_eq_true rfl, Nat.le_of_ble_eq_true rfl⟩ (Nat.le_of_ble_eq_true rfl) dL_save_4 ⟨Nat.le_of_ble_eq_true rfl, Nat.le_of_ble_eq_true rfl⟩) (fun ce q9 H locs hU hS hce hcv hcl => ?_)
      refine vx_catch (name := "java/lang/IndexOutOfBoundsException") X.2.2.2.1 [] ⟨0, 9, 12, 28⟩ [] (htb.trans rfl) (fun z h => absurd h List.not_mem_nil) (by decide) (by decide) (X.2.2.2.2.1 _ t_1042) (va_Nw.use rfl (X.2.2.2.2.2.2.2.2.2.2.2.2.2.2.2.1 _ (by decide))) hce hcv hcl ?_
      refine lv_astore_n (lv' := [(3, .ref q9), (0, .ref (ad 0 0)), (1, .int a1), (2, .ref (ad 6 0))]) X.1 X.2.1 dL_save_12 rfl hl (by decide) rfl (fun ls hl => ?_)
      refine lv_iconst (v := 1) X.1 X.2.1 dL_save_13 (by decide) ?_
      refine vx_ret (W.widen (k := 1) (n := 6) (Nat.le_refl _) (Nat.le_refl _) ?_)
      exact k_iret (v := 1) X hU hS hr hlk rfl rfl dL_save_14
    exfalso
    have hn : ¬ j ∈ ([2] : List Nat) := by simp; omega
    have hf : (if j ∈ ([2] : List Nat) then some (u1, Int32.ofNat (([2] : List Nat).idxOf j + 1)) else none) = some r := hf
    rw [if_neg hn] at hf
    cases hf
def rm_L_restore : Room := { frames := 7, cells := 1, slots := 6, locals := 111 }
set_option maxRecDepth 100000 in
set_option maxHeartbeats 4000000 in
theorem c_L_restore {l : Launch} {D : va_G} {G : Nat → ClassId} {ad : Nat → Nat → Nat} {u : k_U} (hI : k_ok ad) (hlT : l.stackTraces = false) {a1 : Int32} {sz : Nat} {r : k_U × Int32} (hf : f_L_restore u a1 = some r) : Met l yL_restore (.codeWith yL_restore cL_restore 4 (some .int) [(0, 9, 12, 28), (0, 9, 15, 13)] :: lw_g) rm_L_restore (k_Pre D G ad u sz [.ref (ad 0 0), .int a1, .ref (ad 6 0)]) (k_Qi D G ad r.1 r.2 sz) 1 6 (k_A ad sz) := by
  refine k_wofW (by decide +kernel) hI (Nat.le_of_ble_eq_true rfl) ?_
  intro p e s m args below meth c X hr hlk htb hU hS ls hl
  have hl : lv_has ls 4 [(0, .ref (ad 0 0)), (1, .int a1), (2, .ref (ad 6 0))] := hl
  refine lv_aload_n X.1 X.2.1 dL_restore_0 rfl (lv_at hl 2 rfl) ?_
  refine lv_iconst (v := 0) X.1 X.2.1 dL_restore_1 (by decide) ?_
  refine lv_aload_n X.1 X.2.1 dL_restore_2 rfl (lv_at hl 0 rfl) ?_
  refine lv_iload_n X.1 X.2.1 dL_restore_3 rfl (lv_at hl 1 rfl) ?_
  unfold f_L_restore at hf
  rcases hg : f_X10_restore u a1 with _ | ⟨u1, v | j⟩
  · rw [hg] at hf
    cases hf
  · rw [hg] at hf
    have hz := Option.some.inj hf
    subst hz
    refine k_backi X hS (k_runV (As := [.int a1]) (rest := [.int 0, .ref (ad 6 0)]) X hS hU sh_0_0 (by decide) rfl vl_L_100 (c_X10_restore X.2.2.2.2.2.2.1 hg) rfl rfl rfl hl.1 ⟨Nat.le_of_ble_eq_true rfl, Nat.le_of_ble_eq_true rfl⟩ (Nat.le_of_ble_eq_true rfl) dL_restore_4 ⟨Nat.zero_le _, Nat.zero_le _⟩) (fun H locs hU hS => ?_)
    refine lv_i2l (v := v.toInt64) X.1 X.2.1 dL_restore_7 rfl ?_
    refine k_jst sh_6_0 X hU hS dL_restore_8 (fun H locs hU hS => ?_)
    refine lv_goto (tgt := 18) X.1 X.2.1 dL_restore_9 (by decide) ?_
    refine lv_iconst (v := 0) X.1 X.2.1 dL_restore_18 (by decide) ?_
    refine vx_ret (W.widen (k := 1) (n := 6) (Nat.zero_le _) (Nat.zero_le _) ?_)
    exact k_iret (v := 0) X hU hS hr hlk rfl rfl dL_restore_19
  · rw [hg] at hf
    by_cases hj0 : j = 2
    · subst hj0
      have hz := Option.some.inj hf
      subst hz
      refine k_xback X hS (k_xrunV (As := [.int a1]) (rest := [.int 0, .ref (ad 6 0)]) X hS hU sh_0_0 (by decide) rfl vl_L_100 (x_X10_restore X.2.2.2.2.2.2.1 hlT hg) rfl rfl rfl hl.1 ⟨Nat.le_of_ble_eq_true rfl, Nat.le_of_ble_eq_true rfl⟩ (Nat.le_of_ble_eq_true rfl) dL_restore_4 ⟨Nat.le_of_ble_eq_true rfl, Nat.le_of_ble_eq_true rfl⟩) (fun ce q9 H locs hU hS hce hcv hcl => ?_)
      refine vx_catch (name := "java/lang/IndexOutOfBoundsException") X.2.2.2.1 [] ⟨0, 9, 12, 28⟩ [⟨0, 9, 15, 13⟩] (htb.trans rfl) (fun z h => absurd h List.not_mem_nil) (by decide) (by decide) (X.2.2.2.2.1 _ t_1042) (va_Nw.use rfl (X.2.2.2.2.2.2.2.2.2.2.2.2.2.2.2.1 _ (by decide))) hce hcv hcl ?_
      refine lv_astore_n (lv' := [(3, .ref q9), (0, .ref (ad 0 0)), (1, .int a1), (2, .ref (ad 6 0))]) X.1 X.2.1 dL_restore_12 rfl hl (by decide) rfl (fun ls hl => ?_)
      refine lv_iconst (v := 1) X.1 X.2.1 dL_restore_13 (by decide) ?_
      refine vx_ret (W.widen (k := 1) (n := 6) (Nat.le_refl _) (Nat.le_refl _) ?_)
      exact k_iret (v := 1) X hU hS hr hlk rfl rfl dL_restore_14
    by_cases hj1 : j = 0
    · subst hj1
      have hz := Option.some.inj hf
      subst hz
      refine k_xback X hS (k_xrunV (As := [.int a1]) (rest := [.int 0, .ref (ad 6 0)]) X hS hU sh_0_0 (by decide) rfl vl_L_100 (x_X10_restore X.2.2.2.2.2.2.1 hlT hg) rfl rfl rfl hl.1 ⟨Nat.le_of_ble_eq_true rfl, Nat.le_of_ble_eq_true rfl⟩ (Nat.le_of_ble_eq_true rfl) dL_restore_4 ⟨Nat.le_of_ble_eq_true rfl, Nat.le_of_ble_eq_true rfl⟩) (fun ce q9 H locs hU hS hce hcv hcl => ?_)
      refine vx_catch (name := "java/lang/IllegalStateException") X.2.2.2.1 [⟨0, 9, 12, 28⟩] ⟨0, 9, 15, 13⟩ [] (htb.trans rfl) (fun z h => Or.inr ⟨by rw [List.mem_singleton.mp h]; decide, "java/lang/IndexOutOfBoundsException", by rw [List.mem_singleton.mp h]; exact X.2.2.2.2.1 _ t_1042, X.2.2.2.2.2.2.2.2.2.2.2.2.2.2.2.2 (_, _) (by decide)⟩) (by decide) (by decide) (X.2.2.2.2.1 _ t_986) (va_Nw.use rfl (X.2.2.2.2.2.2.2.2.2.2.2.2.2.2.2.1 _ (by decide))) hce hcv hcl ?_
      refine lv_astore_n (lv' := [(3, .ref q9), (0, .ref (ad 0 0)), (1, .int a1), (2, .ref (ad 6 0))]) X.1 X.2.1 dL_restore_15 rfl hl (by decide) rfl (fun ls hl => ?_)
      refine lv_iconst (v := 2) X.1 X.2.1 dL_restore_16 (by decide) ?_
      refine vx_ret (W.widen (k := 1) (n := 6) (Nat.le_refl _) (Nat.le_refl _) ?_)
      exact k_iret (v := 2) X hU hS hr hlk rfl rfl dL_restore_17
    exfalso
    have hn : ¬ j ∈ ([2, 0] : List Nat) := by simp; omega
    have hf : (if j ∈ ([2, 0] : List Nat) then some (u1, Int32.ofNat (([2, 0] : List Nat).idxOf j + 1)) else none) = some r := hf
    rw [if_neg hn] at hf
    cases hf

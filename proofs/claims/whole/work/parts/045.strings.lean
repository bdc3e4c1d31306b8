theorem t_17 : (Jvm.Cond.initialized "java/lang/String") ∈ lw_g := k_in (List.mem_append_right _ (List.mem_of_getElem? (i := 17) (by decide +kernel))) (by decide +kernel)
theorem t_18 : (Jvm.Cond.initialized "java/lang/StringLatin1") ∈ lw_g := k_in (List.mem_append_right _ (List.mem_of_getElem? (i := 18) (by decide +kernel))) (by decide +kernel)
theorem t_19 : (Jvm.Cond.initialized "jdk/internal/util/Preconditions") ∈ lw_g := k_in (List.mem_append_right _ (List.mem_of_getElem? (i := 19) (by decide +kernel))) (by decide +kernel)
theorem t_404 : (Jvm.Cond.methodLink "LayeredChute$Reader" (66 : Nat) ({ cls := "java/lang/String", name := "length", desc := "()I" } : Jvm.MethodName)) ∈ lw_g := k_in (List.mem_append_right _ (List.mem_of_getElem? (i := 404) (by decide +kernel))) (by decide +kernel)
theorem t_405 : (Jvm.Cond.instanceMethod ({ cls := "java/lang/String", name := "length", desc := "()I" } : Jvm.MethodName)) ∈ lw_g := k_in (List.mem_append_right _ (List.mem_of_getElem? (i := 405) (by decide +kernel))) (by decide +kernel)
theorem t_406 : (Jvm.Cond.selects "java/lang/String" ({ cls := "java/lang/String", name := "length", desc := "()I" } : Jvm.MethodName) ({ cls := "java/lang/String", name := "length", desc := "()I" } : Jvm.MethodName)) ∈ lw_g := k_in (List.mem_append_right _ (List.mem_of_getElem? (i := 406) (by decide +kernel))) (by decide +kernel)
theorem t_407 : (Jvm.Cond.code ({ cls := "java/lang/String", name := "length", desc := "()I" } : Jvm.MethodName) prog_23_method_54_code (1 : Nat) (Option.some Jvm.ClassFile.FieldType.int)) ∈ lw_g := k_in (List.mem_append_right _ (List.mem_of_getElem? (i := 407) (by decide +kernel))) (by decide +kernel)
theorem t_408 : (Jvm.Cond.methodLink "java/lang/String" (335 : Nat) ({ cls := "java/lang/String", name := "coder", desc := "()B" } : Jvm.MethodName)) ∈ lw_g := k_in (List.mem_append_right _ (List.mem_of_getElem? (i := 408) (by decide +kernel))) (by decide +kernel)
theorem t_409 : (Jvm.Cond.instanceMethod ({ cls := "java/lang/String", name := "coder", desc := "()B" } : Jvm.MethodName)) ∈ lw_g := k_in (List.mem_append_right _ (List.mem_of_getElem? (i := 409) (by decide +kernel))) (by decide +kernel)
theorem t_410 : (Jvm.Cond.selects "java/lang/String" ({ cls := "java/lang/String", name := "coder", desc := "()B" } : Jvm.MethodName) ({ cls := "java/lang/String", name := "coder", desc := "()B" } : Jvm.MethodName)) ∈ lw_g := k_in (List.mem_append_right _ (List.mem_of_getElem? (i := 410) (by decide +kernel))) (by decide +kernel)
theorem t_411 : (Jvm.Cond.code ({ cls := "java/lang/String", name := "coder", desc := "()B" } : Jvm.MethodName) prog_23_method_152_code (1 : Nat) (Option.some Jvm.ClassFile.FieldType.byte)) ∈ lw_g := k_in (List.mem_append_right _ (List.mem_of_getElem? (i := 411) (by decide +kernel))) (by decide +kernel)
theorem t_412 : (Jvm.Cond.fieldLink "java/lang/String" (38 : Nat) "java/lang/String" "COMPACT_STRINGS" "Z") ∈ lw_g := k_in (List.mem_append_right _ (List.mem_of_getElem? (i := 412) (by decide +kernel))) (by decide +kernel)
theorem t_414 : (Jvm.Cond.methodLink "LayeredChute$Reader" (71 : Nat) ({ cls := "java/lang/String", name := "charAt", desc := "(I)C" } : Jvm.MethodName)) ∈ lw_g := k_in (List.mem_append_right _ (List.mem_of_getElem? (i := 414) (by decide +kernel))) (by decide +kernel)
theorem t_415 : (Jvm.Cond.instanceMethod ({ cls := "java/lang/String", name := "charAt", desc := "(I)C" } : Jvm.MethodName)) ∈ lw_g := k_in (List.mem_append_right _ (List.mem_of_getElem? (i := 415) (by decide +kernel))) (by decide +kernel)
theorem t_416 : (Jvm.Cond.selects "java/lang/String" ({ cls := "java/lang/String", name := "charAt", desc := "(I)C" } : Jvm.MethodName) ({ cls := "java/lang/String", name := "charAt", desc := "(I)C" } : Jvm.MethodName)) ∈ lw_g := k_in (List.mem_append_right _ (List.mem_of_getElem? (i := 416) (by decide +kernel))) (by decide +kernel)
theorem t_417 : (Jvm.Cond.code ({ cls := "java/lang/String", name := "charAt", desc := "(I)C" } : Jvm.MethodName) prog_23_method_56_code (2 : Nat) (Option.some Jvm.ClassFile.FieldType.char)) ∈ lw_g := k_in (List.mem_append_right _ (List.mem_of_getElem? (i := 417) (by decide +kernel))) (by decide +kernel)
theorem t_418 : (Jvm.Cond.methodLink "java/lang/String" (492 : Nat) ({ cls := "java/lang/String", name := "isLatin1", desc := "()Z" } : Jvm.MethodName)) ∈ lw_g := k_in (List.mem_append_right _ (List.mem_of_getElem? (i := 418) (by decide +kernel))) (by decide +kernel)
theorem t_419 : (Jvm.Cond.instanceMethod ({ cls := "java/lang/String", name := "isLatin1", desc := "()Z" } : Jvm.MethodName)) ∈ lw_g := k_in (List.mem_append_right _ (List.mem_of_getElem? (i := 419) (by decide +kernel))) (by decide +kernel)
theorem t_420 : (Jvm.Cond.selects "java/lang/String" ({ cls := "java/lang/String", name := "isLatin1", desc := "()Z" } : Jvm.MethodName) ({ cls := "java/lang/String", name := "isLatin1", desc := "()Z" } : Jvm.MethodName)) ∈ lw_g := k_in (List.mem_append_right _ (List.mem_of_getElem? (i := 420) (by decide +kernel))) (by decide +kernel)
theorem t_421 : (Jvm.Cond.code ({ cls := "java/lang/String", name := "isLatin1", desc := "()Z" } : Jvm.MethodName) prog_23_method_154_code (1 : Nat) (Option.some Jvm.ClassFile.FieldType.boolean)) ∈ lw_g := k_in (List.mem_append_right _ (List.mem_of_getElem? (i := 421) (by decide +kernel))) (by decide +kernel)
theorem t_422 : (Jvm.Cond.methodLink "java/lang/String" (495 : Nat) ({ cls := "java/lang/StringLatin1", name := "charAt", desc := "([BI)C" } : Jvm.MethodName)) ∈ lw_g := k_in (List.mem_append_right _ (List.mem_of_getElem? (i := 422) (by decide +kernel))) (by decide +kernel)
theorem t_423 : (Jvm.Cond.static ({ cls := "java/lang/StringLatin1", name := "charAt", desc := "([BI)C" } : Jvm.MethodName)) ∈ lw_g := k_in (List.mem_append_right _ (List.mem_of_getElem? (i := 423) (by decide +kernel))) (by decide +kernel)
theorem t_424 : (Jvm.Cond.code ({ cls := "java/lang/StringLatin1", name := "charAt", desc := "([BI)C" } : Jvm.MethodName) prog_24_method_2_code (2 : Nat) (Option.some Jvm.ClassFile.FieldType.char)) ∈ lw_g := k_in (List.mem_append_right _ (List.mem_of_getElem? (i := 424) (by decide +kernel))) (by decide +kernel)
theorem t_425 : (Jvm.Cond.methodLink "java/lang/StringLatin1" (9 : Nat) ({ cls := "java/lang/String", name := "checkIndex", desc := "(II)V" } : Jvm.MethodName)) ∈ lw_g := k_in (List.mem_append_right _ (List.mem_of_getElem? (i := 425) (by decide +kernel))) (by decide +kernel)
theorem t_426 : (Jvm.Cond.static ({ cls := "java/lang/String", name := "checkIndex", desc := "(II)V" } : Jvm.MethodName)) ∈ lw_g := k_in (List.mem_append_right _ (List.mem_of_getElem? (i := 426) (by decide +kernel))) (by decide +kernel)
theorem t_427 : (Jvm.Cond.code ({ cls := "java/lang/String", name := "checkIndex", desc := "(II)V" } : Jvm.MethodName) prog_23_method_155_code (2 : Nat) (Option.none : Option Jvm.ClassFile.FieldType)) ∈ lw_g := k_in (List.mem_append_right _ (List.mem_of_getElem? (i := 427) (by decide +kernel))) (by decide +kernel)
theorem t_428 : (Jvm.Cond.fieldLink "java/lang/String" (1053 : Nat) "jdk/internal/util/Preconditions" "SIOOBE_FORMATTER" "Ljava/util/function/BiFunction;") ∈ lw_g := k_in (List.mem_append_right _ (List.mem_of_getElem? (i := 428) (by decide +kernel))) (by decide +kernel)
theorem t_430 : (Jvm.Cond.methodLink "java/lang/String" (1059 : Nat) ({ cls := "jdk/internal/util/Preconditions", name := "checkIndex", desc := "(IILjava/util/function/BiFunction;)I" } : Jvm.MethodName)) ∈ lw_g := k_in (List.mem_append_right _ (List.mem_of_getElem? (i := 430) (by decide +kernel))) (by decide +kernel)
theorem t_431 : (Jvm.Cond.static ({ cls := "jdk/internal/util/Preconditions", name := "checkIndex", desc := "(IILjava/util/function/BiFunction;)I" } : Jvm.MethodName)) ∈ lw_g := k_in (List.mem_append_right _ (List.mem_of_getElem? (i := 431) (by decide +kernel))) (by decide +kernel)
theorem t_432 : (Jvm.Cond.code ({ cls := "jdk/internal/util/Preconditions", name := "checkIndex", desc := "(IILjava/util/function/BiFunction;)I" } : Jvm.MethodName) prog_31_method_11_code (3 : Nat) (Option.some Jvm.ClassFile.FieldType.int)) ∈ lw_g := k_in (List.mem_append_right _ (List.mem_of_getElem? (i := 432) (by decide +kernel))) (by decide +kernel)
theorem t_1723 : (Jvm.Cond.methodLink "LayeredChuteModel" (271 : Nat) ({ cls := "java/lang/String", name := "length", desc := "()I" } : Jvm.MethodName)) ∈ lw_g := k_in (List.mem_append_right _ (List.mem_of_getElem? (i := 1723) (by decide +kernel))) (by decide +kernel)
theorem t_1724 : (Jvm.Cond.methodLink "LayeredChuteModel" (275 : Nat) ({ cls := "java/lang/String", name := "charAt", desc := "(I)C" } : Jvm.MethodName)) ∈ lw_g := k_in (List.mem_append_right _ (List.mem_of_getElem? (i := 1724) (by decide +kernel))) (by decide +kernel)
theorem t_1873 : (Jvm.Cond.fieldLink "java/lang/String" (9 : Nat) "java/lang/String" "value" "[B") ∈ lw_g := k_in (List.mem_append_right _ (List.mem_of_getElem? (i := 1873) (by decide +kernel))) (by decide +kernel)
theorem t_1874 : (Jvm.Cond.fieldLink "java/lang/String" (15 : Nat) "java/lang/String" "coder" "B") ∈ lw_g := k_in (List.mem_append_right _ (List.mem_of_getElem? (i := 1874) (by decide +kernel))) (by decide +kernel)
theorem vl_J0_335 : k_VL RJ0 335 RJ0 yJ0_coder_7d493 cJ0_coder_7d493 1 (some .byte) 0 := ⟨List.forall_mem_cons.mpr ⟨t_408, List.forall_mem_cons.mpr ⟨t_409, List.forall_mem_cons.mpr ⟨t_410, List.forall_mem_cons.mpr ⟨t_17, List.forall_mem_cons.mpr ⟨t_411, fun _ h => absurd h List.not_mem_nil⟩⟩⟩⟩⟩, rfl, by decide +kernel, by decide +kernel, by decide +kernel⟩
theorem vl_J0_492 : k_VL RJ0 492 RJ0 yJ0_isLatin1_aae02 cJ0_isLatin1_aae02 1 (some .boolean) 0 := ⟨List.forall_mem_cons.mpr ⟨t_418, List.forall_mem_cons.mpr ⟨t_419, List.forall_mem_cons.mpr ⟨t_420, List.forall_mem_cons.mpr ⟨t_17, List.forall_mem_cons.mpr ⟨t_421, fun _ h => absurd h List.not_mem_nil⟩⟩⟩⟩⟩, rfl, by decide +kernel, by decide +kernel, by decide +kernel⟩
theorem sl_J0_495 : k_SL RJ0 495 yJ1_charAt_3b067 cJ1_charAt_3b067 2 (some .char) 2 := ⟨List.forall_mem_cons.mpr ⟨t_422, List.forall_mem_cons.mpr ⟨t_423, List.forall_mem_cons.mpr ⟨t_18, List.forall_mem_cons.mpr ⟨t_424, fun _ h => absurd h List.not_mem_nil⟩⟩⟩⟩, by decide +kernel, by decide +kernel, by decide +kernel⟩
theorem sl_J1_9 : k_SL RJ1 9 yJ0_checkIndex_df160 cJ0_checkIndex_df160 2 none 2 := ⟨List.forall_mem_cons.mpr ⟨t_425, List.forall_mem_cons.mpr ⟨t_426, List.forall_mem_cons.mpr ⟨t_17, List.forall_mem_cons.mpr ⟨t_427, fun _ h => absurd h List.not_mem_nil⟩⟩⟩⟩, by decide +kernel, by decide +kernel, by decide +kernel⟩
theorem sl_J0_1059 : k_SL RJ0 1059 yJ3_checkIndex_8e157 cJ3_checkIndex_8e157 3 (some .int) 3 := ⟨List.forall_mem_cons.mpr ⟨t_430, List.forall_mem_cons.mpr ⟨t_431, List.forall_mem_cons.mpr ⟨t_19, List.forall_mem_cons.mpr ⟨t_432, fun _ h => absurd h List.not_mem_nil⟩⟩⟩⟩, by decide +kernel, by decide +kernel, by decide +kernel⟩
theorem vl_X4_66 : k_VL RX4 66 RJ0 yJ0_length_8abf5 cJ0_length_8abf5 1 (some .int) 0 := ⟨List.forall_mem_cons.mpr ⟨t_404, List.forall_mem_cons.mpr ⟨t_405, List.forall_mem_cons.mpr ⟨t_406, List.forall_mem_cons.mpr ⟨t_17, List.forall_mem_cons.mpr ⟨t_407, fun _ h => absurd h List.not_mem_nil⟩⟩⟩⟩⟩, rfl, by decide +kernel, by decide +kernel, by decide +kernel⟩
theorem vl_X4_71 : k_VL RX4 71 RJ0 yJ0_charAt_5068e cJ0_charAt_5068e 2 (some .char) 1 := ⟨List.forall_mem_cons.mpr ⟨t_414, List.forall_mem_cons.mpr ⟨t_415, List.forall_mem_cons.mpr ⟨t_416, List.forall_mem_cons.mpr ⟨t_17, List.forall_mem_cons.mpr ⟨t_417, fun _ h => absurd h List.not_mem_nil⟩⟩⟩⟩⟩, rfl, by decide +kernel, by decide +kernel, by decide +kernel⟩
theorem vl_X11_271 : k_VL RX11 271 RJ0 yJ0_length_8abf5 cJ0_length_8abf5 1 (some .int) 0 := ⟨List.forall_mem_cons.mpr ⟨t_1723, List.forall_mem_cons.mpr ⟨t_405, List.forall_mem_cons.mpr ⟨t_406, List.forall_mem_cons.mpr ⟨t_17, List.forall_mem_cons.mpr ⟨t_407, fun _ h => absurd h List.not_mem_nil⟩⟩⟩⟩⟩, rfl, by decide +kernel, by decide +kernel, by decide +kernel⟩
theorem vl_X11_275 : k_VL RX11 275 RJ0 yJ0_charAt_5068e cJ0_charAt_5068e 2 (some .char) 1 := ⟨List.forall_mem_cons.mpr ⟨t_1724, List.forall_mem_cons.mpr ⟨t_415, List.forall_mem_cons.mpr ⟨t_416, List.forall_mem_cons.mpr ⟨t_17, List.forall_mem_cons.mpr ⟨t_417, fun _ h => absurd h List.not_mem_nil⟩⟩⟩⟩⟩, rfl, by decide +kernel, by decide +kernel, by decide +kernel⟩
section KT
variable {p : Program} {l : Launch} {e : Env} {R : Room} {s : State} {m : MethodId} {args : Array Value} {below : List Frame} {meth : Method} {c : Code} {H : Heap} {locs : List Loc} {cells slots : Nat} {Q : State → Prop}
variable {cc : ByteArray} {own : String} {nL pc : Nat} {ls : Array Slot} {rest : List Value} {D : va_G} {G : Nat → ClassId} {ad : Nat → Nat → Nat} {sz : Nat} {u : k_U}
theorem k_runT (X : k_Cx p s m args c own cc nL D G ad sz) (hS : va_S (k_A ad sz) s.heap H locs) (hU : k_Uv D G ad u H) {t index nb n : Nat} (ht : t < 33)
    {y : MethodName} {cb : ByteArray} {ret : Option FieldType} {rm : Room} {Qc : Array Value → State → Outcome → State → Prop} {As : List Value} (cl : k_VL own index RJ0 y cb nb ret n) (hM : Met l y (.code y cb nb ret :: lw_g) rm (k_Pre D G ad u H.size (.ref (ad 30 t) :: As)) Qc 0 0 (k_A ad H.size))
    (hrc : rm.cells = 0) (hrs : rm.slots = 0) (hn : As.length = n) (hsize : ls.size = nL) (hR : rm.frames + 1 ≤ R.frames ∧ 8 + (nb + 11) + rm.locals ≤ R.locals) (hW : (rest.map fun v => v.category).sum ≤ 8) (hdg : decode cc pc = .ok (.invokevirtual index, 3)) (hf : cells ≤ R.cells ∧ slots ≤ R.slots) :
    va_Run p l e R s m args below meth c H locs cells slots 0 0 (F0 m pc ls (As.reverse ++ .ref (ad 30 t) :: rest)) rest (Qc (Value.ref (ad 30 t) :: As).toArray) (k_A ad H.size) := by
  have hWp := k_pass X hS
  obtain ⟨hx, hb, hml, hown, hts, hK, hI, -⟩ := X
  obtain ⟨cell, g1, g2, g3, -⟩ := (hWp.1 t ht).1
  exact va_runV (C := RJ0) (n := n) ⟨hx, hb, hml, hown, hts⟩ hM (cwV n hts (k_VLg cl) rfl hrc hrs cl.2 hR) ⟨k_blind, ⟨cell, g1, g2, g3⟩, fun U hUh hWm => ⟨rfl, by rw [hUh], by rw [hUh]; exact hU, va_K.moved hWm.alike hK, by rw [hUh]; exact hWp.warm hWm⟩⟩ rfl hn hsize rfl (by show 2 * 0 + _ ≤ 8; omega) hdg hf
/-- a text's word -/
theorem k_ldcS (X : k_Cx p s m args c own cc nL D G ad sz) {i index : Nat} {tx : String} (hi : k_str[i]? = some (own, index, tx)) (hdg : decode cc pc = .ok (.ldc index, 2))
    (kk : W p l e R s m args below meth c H locs cells slots Q (F0 m (pc + 2) ls (.ref (ad 30 i) :: rest))) : W p l e R s m args below meth c H locs cells slots Q (F0 m pc ls rest) :=
  va_ldcS X.1 X.2.1 X.2.2.2.1 (X.2.2.2.2.2.2.2.2.2.2.2.2.2.1 i _ hi) hdg kk
theorem k_ldcSW (X : k_Cx p s m args c own cc nL D G ad sz) {i index : Nat} {tx : String} (hi : k_str[i]? = some (own, index, tx)) (hdg : decode cc pc = .ok (.ldc_w index, 3))
    (kk : W p l e R s m args below meth c H locs cells slots Q (F0 m (pc + 3) ls (.ref (ad 30 i) :: rest))) : W p l e R s m args below meth c H locs cells slots Q (F0 m pc ls rest) := by
  have hZ := X.2.2.2.2.2.2.2.2.2.2.2.2.2.1 i _ hi
  intro T hT Y
  obtain ⟨t, a1, b1⟩ := kk T hT Y
  exact ⟨t, Y.ldcStringW X.1 X.2.2.2.1 (text := tx) (a := ad 30 i) hZ.1 hZ.2 (g := F0 m pc ls rest) rfl (by rw [X.2.1]; exact hdg) t a1, b1⟩
end KT
def rm_J0 : Room := { frames := 0, cells := 0, slots := 0, locals := 0 }
def rm_J1 : Room := { frames := 1, cells := 0, slots := 0, locals := 24 }
def rm_J2 : Room := { frames := 2, cells := 0, slots := 0, locals := 50 }
def rm_J3 : Room := { frames := 3, cells := 0, slots := 0, locals := 80 }
def rm_J4 : Room := { frames := 4, cells := 0, slots := 0, locals := 110 }
set_option maxRecDepth 100000 in
set_option maxHeartbeats 4000000 in
theorem c_J0_coder {l : Launch} {D : va_G} {G : Nat → ClassId} {ad : Nat → Nat → Nat} {u : k_U} (hI : k_ok ad) {t : Nat} (ht : t < 33) {sz : Nat} : Met l yJ0_coder_7d493 (.code yJ0_coder_7d493 cJ0_coder_7d493 1 (some .byte) :: lw_g) rm_J0 (k_Pre D G ad u sz [.ref (ad 30 t)]) (k_Qi D G ad u 0 sz) 0 0 (k_A ad sz) := by
  refine k_ofW (by decide +kernel) hI (Nat.le_of_ble_eq_true rfl) ?_
  intro p e s m args below meth c X hr hlk hU hS ls hl
  have hl : lv_has ls 1 [(0, .ref (ad 30 t))] := hl
  have hw := X.2.2.2.2.2.2.2.2
  refine va_gets X.1 X.2.1 hw.2.1 hS X.2.2.2.1 (X.2.2.2.2.1 _ t_412) (fun _ h => h) dJ0_coder_7d493_0 ?_
  refine lv_if_eq (tgt := 13) X.1 X.2.1 dJ0_coder_7d493_3 (by decide) (fun c3 => absurd c3 (by decide)) (fun c3 => ?_)
  refine lv_aload_n X.1 X.2.1 dJ0_coder_7d493_6 rfl (lv_at hl 0 rfl) ?_
  refine vk_getf X.1 X.2.1 (hw.1 t ht).2.1 hS X.2.2.2.1 (X.2.2.2.2.1 _ t_1874) (fun _ h => h) dJ0_coder_7d493_7 ?_
  refine lv_goto (tgt := 14) X.1 X.2.1 dJ0_coder_7d493_10 (by decide) ?_
  exact k_iret (v := 0) X hU hS hr hlk rfl rfl dJ0_coder_7d493_14
set_option maxRecDepth 100000 in
set_option maxHeartbeats 4000000 in
theorem c_J0_isLatin1 {l : Launch} {D : va_G} {G : Nat → ClassId} {ad : Nat → Nat → Nat} {u : k_U} (hI : k_ok ad) {t : Nat} (ht : t < 33) {sz : Nat} : Met l yJ0_isLatin1_aae02 (.code yJ0_isLatin1_aae02 cJ0_isLatin1_aae02 1 (some .boolean) :: lw_g) rm_J0 (k_Pre D G ad u sz [.ref (ad 30 t)]) (k_Qi D G ad u 1 sz) 0 0 (k_A ad sz) := by
  refine k_ofW (by decide +kernel) hI (Nat.le_of_ble_eq_true rfl) ?_
  intro p e s m args below meth c X hr hlk hU hS ls hl
  have hl : lv_has ls 1 [(0, .ref (ad 30 t))] := hl
  have hw := X.2.2.2.2.2.2.2.2
  refine va_gets X.1 X.2.1 hw.2.1 hS X.2.2.2.1 (X.2.2.2.2.1 _ t_412) (fun _ h => h) dJ0_isLatin1_aae02_0 ?_
  refine lv_if_eq (tgt := 17) X.1 X.2.1 dJ0_isLatin1_aae02_3 (by decide) (fun c3 => absurd c3 (by decide)) (fun c3 => ?_)
  refine lv_aload_n X.1 X.2.1 dJ0_isLatin1_aae02_6 rfl (lv_at hl 0 rfl) ?_
  refine vk_getf X.1 X.2.1 (hw.1 t ht).2.1 hS X.2.2.2.1 (X.2.2.2.2.1 _ t_1874) (fun _ h => h) dJ0_isLatin1_aae02_7 ?_
  refine lv_if_ne (tgt := 17) X.1 X.2.1 dJ0_isLatin1_aae02_10 (by decide) (fun c3 => absurd rfl c3) (fun c3 => ?_)
  refine lv_iconst (v := 1) X.1 X.2.1 dJ0_isLatin1_aae02_13 (by decide) ?_
  refine lv_goto (tgt := 18) X.1 X.2.1 dJ0_isLatin1_aae02_14 (by decide) ?_
  exact k_iret (v := 1) X hU hS hr hlk rfl rfl dJ0_isLatin1_aae02_18
set_option maxRecDepth 100000 in
set_option maxHeartbeats 4000000 in
theorem c_J0_length {l : Launch} {D : va_G} {G : Nat → ClassId} {ad : Nat → Nat → Nat} {u : k_U} (hI : k_ok ad) {t : Nat} (ht : t < 33) {sz : Nat} : Met l yJ0_length_8abf5 (.code yJ0_length_8abf5 cJ0_length_8abf5 1 (some .int) :: lw_g) rm_J1 (k_Pre D G ad u sz [.ref (ad 30 t)]) (k_Qi D G ad u (k_wlen t) sz) 0 0 (k_A ad sz) := by
  refine k_ofW (by decide +kernel) hI (Nat.le_of_ble_eq_true rfl) ?_
  intro p e s m args below meth c X hr hlk hU hS ls hl
  have hl : lv_has ls 1 [(0, .ref (ad 30 t))] := hl
  have hw := X.2.2.2.2.2.2.2.2
  refine lv_aload_n X.1 X.2.1 dJ0_length_8abf5_0 rfl (lv_at hl 0 rfl) ?_
  refine vk_getf X.1 X.2.1 (hw.1 t ht).2.2.1 hS X.2.2.2.1 (X.2.2.2.2.1 _ t_1873) (fun _ h => h) dJ0_length_8abf5_1 ?_
  refine va_tlen X.1 X.2.1 (hw.1 t ht).2.2.2 hS (v := k_wlen t) rfl dJ0_length_8abf5_4 ?_
  refine lv_aload_n X.1 X.2.1 dJ0_length_8abf5_5 rfl (lv_at hl 0 rfl) ?_
  refine k_backi X hS (k_runT (As := []) (rest := [.int (k_wlen t)]) X hS hU ht vl_J0_335 (c_J0_coder X.2.2.2.2.2.2.1 ht) rfl rfl rfl hl.1 ⟨Nat.le_of_ble_eq_true rfl, Nat.le_of_ble_eq_true rfl⟩ (Nat.le_of_ble_eq_true rfl) dJ0_length_8abf5_6 ⟨Nat.zero_le _, Nat.zero_le _⟩) (fun H locs hU hS => ?_)
  refine lv_ishr X.1 X.2.1 dJ0_length_8abf5_9 ?_
  exact k_iret (v := k_wlen t >>> ((0 : Int32) &&& 31)) X hU hS hr hlk rfl (sb_shr0 _) dJ0_length_8abf5_10
set_option maxRecDepth 100000 in
set_option maxHeartbeats 4000000 in
theorem c_J3_checkIndex {l : Launch} {D : va_G} {G : Nat → ClassId} {ad : Nat → Nat → Nat} {u : k_U} (hI : k_ok ad) {i n : Int32} (h0 : ¬ i < 0) (h1 : i < n) {v : Value} (hv : v = .null ∨ ∃ a, v = .ref a) {sz : Nat} : Met l yJ3_checkIndex_8e157 (.code yJ3_checkIndex_8e157 cJ3_checkIndex_8e157 3 (some .int) :: lw_g) rm_J0 (k_Pre D G ad u sz [.int i, .int n, v]) (k_Qi D G ad u i sz) 0 0 (k_A ad sz) := by
  refine k_ofW (by decide +kernel) hI (by rcases hv with rfl | ⟨a, rfl⟩ <;> exact Nat.le_of_ble_eq_true rfl) ?_
  intro p e s m args below meth c X hr hlk hU hS ls hl
  have hl : lv_has ls 3 [(0, .int i), (1, .int n)] := lv_sub hl [0, 1] rfl
  refine lv_iload_n X.1 X.2.1 dJ3_checkIndex_8e157_0 rfl (lv_at hl 0 rfl) ?_
  refine lv_if_lt (tgt := 9) X.1 X.2.1 dJ3_checkIndex_8e157_1 (by decide) (fun c3 => absurd c3 h0) (fun c3 => ?_)
  refine lv_iload_n X.1 X.2.1 dJ3_checkIndex_8e157_4 rfl (lv_at hl 0 rfl) ?_
  refine lv_iload_n X.1 X.2.1 dJ3_checkIndex_8e157_5 rfl (lv_at hl 1 rfl) ?_
  refine lv_icmp_lt (tgt := 16) X.1 X.2.1 dJ3_checkIndex_8e157_6 (by decide) (fun c3 => ?_) (fun c3 => absurd h1 c3)
  refine lv_iload_n X.1 X.2.1 dJ3_checkIndex_8e157_16 rfl (lv_at hl 0 rfl) ?_
  exact k_iret (v := i) X hU hS hr hlk rfl rfl dJ3_checkIndex_8e157_17
set_option maxRecDepth 100000 in
set_option maxHeartbeats 4000000 in
theorem c_J0_checkIndex {l : Launch} {D : va_G} {G : Nat → ClassId} {ad : Nat → Nat → Nat} {u : k_U} (hI : k_ok ad) {i n : Int32} (h0 : ¬ i < 0) (h1 : i < n) {sz : Nat} : Met l yJ0_checkIndex_df160 (.code yJ0_checkIndex_df160 cJ0_checkIndex_df160 2 none :: lw_g) rm_J1 (k_Pre D G ad u sz [.int i, .int n]) (k_Qv D G ad u sz) 0 0 (k_A ad sz) := by
  refine k_ofW (by decide +kernel) hI (Nat.le_of_ble_eq_true rfl) ?_
  intro p e s m args below meth c X hr hlk hU hS ls hl
  have hl : lv_has ls 2 [(0, .int i), (1, .int n)] := hl
  have hw := X.2.2.2.2.2.2.2.2
  refine lv_iload_n X.1 X.2.1 dJ0_checkIndex_df160_0 rfl (lv_at hl 0 rfl) ?_
  refine lv_iload_n X.1 X.2.1 dJ0_checkIndex_df160_1 rfl (lv_at hl 1 rfl) ?_
  have key : ∀ v : Value, (v = .null ∨ ∃ a, v = .ref a) → va_Z "jdk/internal/util/Preconditions" "SIOOBE_FORMATTER" "Ljava/util/function/BiFunction;" v (k_A ad sz) s s.heap → W p l e rm_J1 s m args below meth c s.heap [] 0 0 (MQ below (k_Qv D G ad u sz) args s 0 0 (k_A ad sz)) (F0 m 2 ls [.int n, .int i]) := by
    intro v hv hz
    refine va_gets X.1 X.2.1 hz hS X.2.2.2.1 (X.2.2.2.2.1 _ t_428) (fun _ h => h) dJ0_checkIndex_df160_2 ?_
    refine k_backi X hS (k_runS (As := [.int i, .int n, v]) (rest := []) X hS hU sl_J0_1059 (c_J3_checkIndex X.2.2.2.2.2.2.1 h0 h1 hv) rfl rfl rfl hl.1 ⟨Nat.le_of_ble_eq_true rfl, Nat.le_of_ble_eq_true rfl⟩ (Nat.le_of_ble_eq_true rfl) dJ0_checkIndex_df160_5 ⟨Nat.zero_le _, Nat.zero_le _⟩) (fun H locs hU hS => ?_)
    refine lv_pop X.1 X.2.1 dJ0_checkIndex_df160_8 rfl ?_
    exact k_vret X hU hS hr hlk dJ0_checkIndex_df160_9
  rcases hw.2.2.1 with hz | ⟨a, hz⟩
  · exact key .null (Or.inl rfl) hz
  · exact key (.ref a) (Or.inr ⟨a, rfl⟩) hz
theorem k_in_of {i : Int32} {n : Nat} (h : 0 ≤ i ∧ i < Int32.ofNat n) (hn : n < 2 ^ 31) : vp_in i n := k_vin h (nI_toInt hn)
set_option maxRecDepth 100000 in
set_option maxHeartbeats 4000000 in
theorem c_J1_charAt {l : Launch} {D : va_G} {G : Nat → ClassId} {ad : Nat → Nat → Nat} {u : k_U} (hI : k_ok ad) {t : Nat} (ht : t < 33) {i : Int32} (hi : 0 ≤ i ∧ i < k_wlen t) (hn : (k_wd t).length < 2 ^ 31) {sz : Nat} : Met l yJ1_charAt_3b067 (.code yJ1_charAt_3b067 cJ1_charAt_3b067 2 (some .char) :: lw_g) rm_J2 (k_Pre D G ad u sz [.ref (ad 31 t), .int i]) (k_Qi D G ad u (k_wchr t i.toNatClampNeg) sz) 0 0 (k_A ad sz) := by
  refine k_ofW (by decide +kernel) hI (Nat.le_of_ble_eq_true rfl) ?_
  intro p e s m args below meth c X hr hlk hU hS ls hl
  have hl : lv_has ls 2 [(0, .ref (ad 31 t)), (1, .int i)] := hl
  have hw := X.2.2.2.2.2.2.2.2
  refine lv_iload_n X.1 X.2.1 dJ1_charAt_3b067_0 rfl (lv_at hl 1 rfl) ?_
  refine lv_aload_n X.1 X.2.1 dJ1_charAt_3b067_1 rfl (lv_at hl 0 rfl) ?_
  refine va_tlen X.1 X.2.1 (hw.1 t ht).2.2.2 hS (v := k_wlen t) rfl dJ1_charAt_3b067_2 ?_
  refine k_backv X hS (k_runS (As := [.int i, .int (k_wlen t)]) (rest := []) X hS hU sl_J1_9 (c_J0_checkIndex X.2.2.2.2.2.2.1 (Int32.not_lt.mpr hi.1) hi.2) rfl rfl rfl hl.1 ⟨Nat.le_of_ble_eq_true rfl, Nat.le_of_ble_eq_true rfl⟩ (Nat.le_of_ble_eq_true rfl) dJ1_charAt_3b067_3 ⟨Nat.zero_le _, Nat.zero_le _⟩) (fun H locs hU hS => ?_)
  refine lv_aload_n X.1 X.2.1 dJ1_charAt_3b067_6 rfl (lv_at hl 0 rfl) ?_
  refine lv_iload_n X.1 X.2.1 dJ1_charAt_3b067_7 rfl (lv_at hl 1 rfl) ?_
  refine va_tb X.1 X.2.1 (hw.1 t ht).2.2.2 hS (k_in_of hi hn) rfl dJ1_charAt_3b067_8 ?_
  refine lv_sipush (v := 255) X.1 X.2.1 dJ1_charAt_3b067_9 (by decide) ?_
  refine lv_iand X.1 X.2.1 dJ1_charAt_3b067_12 ?_
  refine lv_i2c (v := k_wchr t i.toNatClampNeg) X.1 X.2.1 dJ1_charAt_3b067_13 rfl ?_
  exact k_iret (v := k_wchr t i.toNatClampNeg) X hU hS hr hlk (pk_nc _) rfl dJ1_charAt_3b067_14
set_option maxRecDepth 100000 in
set_option maxHeartbeats 4000000 in
theorem c_J0_charAt {l : Launch} {D : va_G} {G : Nat → ClassId} {ad : Nat → Nat → Nat} {u : k_U} (hI : k_ok ad) {t : Nat} (ht : t < 33) {i : Int32} (hi : 0 ≤ i ∧ i < k_wlen t) {sz : Nat} : Met l yJ0_charAt_5068e (.code yJ0_charAt_5068e cJ0_charAt_5068e 2 (some .char) :: lw_g) rm_J3 (k_Pre D G ad u sz [.ref (ad 30 t), .int i]) (k_Qi D G ad u (k_wchr t i.toNatClampNeg) sz) 0 0 (k_A ad sz) := by
  have hn : (k_wd t).length < 2 ^ 31 := by
    have h : ∀ j, j < 33 → (k_wd j).length < 2 ^ 31 := by decide
    exact h t ht
  refine k_ofW (by decide +kernel) hI (Nat.le_of_ble_eq_true rfl) ?_
  intro p e s m args below meth c X hr hlk hU hS ls hl
  have hl : lv_has ls 2 [(0, .ref (ad 30 t)), (1, .int i)] := hl
  refine lv_aload_n X.1 X.2.1 dJ0_charAt_5068e_0 rfl (lv_at hl 0 rfl) ?_
  refine k_backi X hS (k_runT (As := []) (rest := []) X hS hU ht vl_J0_492 (c_J0_isLatin1 X.2.2.2.2.2.2.1 ht) rfl rfl rfl hl.1 ⟨Nat.le_of_ble_eq_true rfl, Nat.le_of_ble_eq_true rfl⟩ (Nat.le_of_ble_eq_true rfl) dJ0_charAt_5068e_1 ⟨Nat.zero_le _, Nat.zero_le _⟩) (fun H locs hU hS => ?_)
  refine lv_if_eq (tgt := 16) X.1 X.2.1 dJ0_charAt_5068e_4 (by decide) (fun c3 => absurd c3 (by decide)) (fun c3 => ?_)
  have hw := X.2.2.2.2.2.2.2.2
  refine lv_aload_n X.1 X.2.1 dJ0_charAt_5068e_7 rfl (lv_at hl 0 rfl) ?_
  refine vk_getf X.1 X.2.1 (hw.1 t ht).2.2.1 hS X.2.2.2.1 (X.2.2.2.2.1 _ t_1873) (fun _ h => h) dJ0_charAt_5068e_8 ?_
  refine lv_iload_n X.1 X.2.1 dJ0_charAt_5068e_11 rfl (lv_at hl 1 rfl) ?_
  refine k_backi X hS (k_runS (As := [.ref (ad 31 t), .int i]) (rest := []) X hS hU sl_J0_495 (c_J1_charAt X.2.2.2.2.2.2.1 ht hi hn) rfl rfl rfl hl.1 ⟨Nat.le_of_ble_eq_true rfl, Nat.le_of_ble_eq_true rfl⟩ (Nat.le_of_ble_eq_true rfl) dJ0_charAt_5068e_12 ⟨Nat.zero_le _, Nat.zero_le _⟩) (fun H locs hU hS => ?_)
  exact k_iret (v := k_wchr t i.toNatClampNeg) X hU hS hr hlk (pk_nc _) rfl dJ0_charAt_5068e_15

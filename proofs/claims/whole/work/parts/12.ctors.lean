theorem t_31 : (Jvm.Cond.methodLink "LayeredChute" (1 : Nat) ({ cls := "java/lang/Object", name := "<init>", desc := "()V" } : Jvm.MethodName)) ∈ lw_g := k_in (List.mem_append_right _ (List.mem_of_getElem? (i := 31) (by decide +kernel))) (by decide +kernel)
theorem t_32 : (Jvm.Cond.instanceMethod ({ cls := "java/lang/Object", name := "<init>", desc := "()V" } : Jvm.MethodName)) ∈ lw_g := k_in (List.mem_append_right _ (List.mem_of_getElem? (i := 32) (by decide +kernel))) (by decide +kernel)
theorem t_33 : (Jvm.Cond.code ({ cls := "java/lang/Object", name := "<init>", desc := "()V" } : Jvm.MethodName) object_method_1_code (1 : Nat) (Option.none : Option Jvm.ClassFile.FieldType)) ∈ lw_g := k_in (List.mem_append_right _ (List.mem_of_getElem? (i := 33) (by decide +kernel))) (by decide +kernel)
theorem t_34 : (Jvm.Cond.classLink "LayeredChute" (7 : Nat) "LayeredChute$Reader") ∈ lw_g := k_in (List.mem_append_right _ (List.mem_of_getElem? (i := 34) (by decide +kernel))) (by decide +kernel)
theorem t_35 : (Jvm.Cond.instantiable "LayeredChute$Reader" (10 : Nat)) ∈ lw_g := k_in (List.mem_append_right _ (List.mem_of_getElem? (i := 35) (by decide +kernel))) (by decide +kernel)
theorem t_37 : (Jvm.Cond.instanceMethod ({ cls := "LayeredChute$Reader", name := "<init>", desc := "()V" } : Jvm.MethodName)) ∈ lw_g := k_in (List.mem_append_right _ (List.mem_of_getElem? (i := 37) (by decide +kernel))) (by decide +kernel)
theorem t_38 : (Jvm.Cond.code ({ cls := "LayeredChute$Reader", name := "<init>", desc := "()V" } : Jvm.MethodName) prog_6_method_1_code (1 : Nat) (Option.none : Option Jvm.ClassFile.FieldType)) ∈ lw_g := k_in (List.mem_append_right _ (List.mem_of_getElem? (i := 38) (by decide +kernel))) (by decide +kernel)
theorem t_39 : (Jvm.Cond.methodLink "LayeredChute$Reader" (3 : Nat) ({ cls := "java/lang/Object", name := "<init>", desc := "()V" } : Jvm.MethodName)) ∈ lw_g := k_in (List.mem_append_right _ (List.mem_of_getElem? (i := 39) (by decide +kernel))) (by decide +kernel)
theorem t_74 : (Jvm.Cond.arrayClass Jvm.ClassFile.FieldType.int) ∈ lw_g := k_in (List.mem_append_right _ (List.mem_of_getElem? (i := 74) (by decide +kernel))) (by decide +kernel)
theorem t_75 : (Jvm.Cond.classLink "LayeredChute" (16 : Nat) "LayeredChute$SetupReader") ∈ lw_g := k_in (List.mem_append_right _ (List.mem_of_getElem? (i := 75) (by decide +kernel))) (by decide +kernel)
theorem t_76 : (Jvm.Cond.instantiable "LayeredChute$SetupReader" (1 : Nat)) ∈ lw_g := k_in (List.mem_append_right _ (List.mem_of_getElem? (i := 76) (by decide +kernel))) (by decide +kernel)
theorem t_78 : (Jvm.Cond.instanceMethod ({ cls := "LayeredChute$SetupReader", name := "<init>", desc := "()V" } : Jvm.MethodName)) ∈ lw_g := k_in (List.mem_append_right _ (List.mem_of_getElem? (i := 78) (by decide +kernel))) (by decide +kernel)
theorem t_79 : (Jvm.Cond.code ({ cls := "LayeredChute$SetupReader", name := "<init>", desc := "()V" } : Jvm.MethodName) prog_8_method_1_code (1 : Nat) (Option.none : Option Jvm.ClassFile.FieldType)) ∈ lw_g := k_in (List.mem_append_right _ (List.mem_of_getElem? (i := 79) (by decide +kernel))) (by decide +kernel)
theorem t_80 : (Jvm.Cond.methodLink "LayeredChute$SetupReader" (3 : Nat) ({ cls := "java/lang/Object", name := "<init>", desc := "()V" } : Jvm.MethodName)) ∈ lw_g := k_in (List.mem_append_right _ (List.mem_of_getElem? (i := 80) (by decide +kernel))) (by decide +kernel)
theorem t_81 : (Jvm.Cond.classLink "LayeredChute$SetupReader" (9 : Nat) "LayeredChute$World") ∈ lw_g := k_in (List.mem_append_right _ (List.mem_of_getElem? (i := 81) (by decide +kernel))) (by decide +kernel)
theorem t_82 : (Jvm.Cond.instantiable "LayeredChute$World" (18 : Nat)) ∈ lw_g := k_in (List.mem_append_right _ (List.mem_of_getElem? (i := 82) (by decide +kernel))) (by decide +kernel)
theorem t_83 : (Jvm.Cond.methodLink "LayeredChute$SetupReader" (11 : Nat) ({ cls := "LayeredChute$World", name := "<init>", desc := "()V" } : Jvm.MethodName)) ∈ lw_g := k_in (List.mem_append_right _ (List.mem_of_getElem? (i := 83) (by decide +kernel))) (by decide +kernel)
theorem t_84 : (Jvm.Cond.instanceMethod ({ cls := "LayeredChute$World", name := "<init>", desc := "()V" } : Jvm.MethodName)) ∈ lw_g := k_in (List.mem_append_right _ (List.mem_of_getElem? (i := 84) (by decide +kernel))) (by decide +kernel)
theorem t_85 : (Jvm.Cond.code ({ cls := "LayeredChute$World", name := "<init>", desc := "()V" } : Jvm.MethodName) prog_11_method_1_code (2 : Nat) (Option.none : Option Jvm.ClassFile.FieldType)) ∈ lw_g := k_in (List.mem_append_right _ (List.mem_of_getElem? (i := 85) (by decide +kernel))) (by decide +kernel)
theorem t_86 : (Jvm.Cond.methodLink "LayeredChute$World" (3 : Nat) ({ cls := "java/lang/Object", name := "<init>", desc := "()V" } : Jvm.MethodName)) ∈ lw_g := k_in (List.mem_append_right _ (List.mem_of_getElem? (i := 86) (by decide +kernel))) (by decide +kernel)
theorem t_87 : (Jvm.Cond.classLink "LayeredChute$World" (11 : Nat) "LayeredChute$Chute") ∈ lw_g := k_in (List.mem_append_right _ (List.mem_of_getElem? (i := 87) (by decide +kernel))) (by decide +kernel)
theorem t_89 : (Jvm.Cond.instantiable "LayeredChute$Chute" (8 : Nat)) ∈ lw_g := k_in (List.mem_append_right _ (List.mem_of_getElem? (i := 89) (by decide +kernel))) (by decide +kernel)
theorem t_91 : (Jvm.Cond.instanceMethod ({ cls := "LayeredChute$Chute", name := "<init>", desc := "()V" } : Jvm.MethodName)) ∈ lw_g := k_in (List.mem_append_right _ (List.mem_of_getElem? (i := 91) (by decide +kernel))) (by decide +kernel)
theorem t_92 : (Jvm.Cond.code ({ cls := "LayeredChute$Chute", name := "<init>", desc := "()V" } : Jvm.MethodName) prog_2_method_1_code (1 : Nat) (Option.none : Option Jvm.ClassFile.FieldType)) ∈ lw_g := k_in (List.mem_append_right _ (List.mem_of_getElem? (i := 92) (by decide +kernel))) (by decide +kernel)
theorem t_93 : (Jvm.Cond.methodLink "LayeredChute$Chute" (3 : Nat) ({ cls := "java/lang/Object", name := "<init>", desc := "()V" } : Jvm.MethodName)) ∈ lw_g := k_in (List.mem_append_right _ (List.mem_of_getElem? (i := 93) (by decide +kernel))) (by decide +kernel)
theorem t_135 : (Jvm.Cond.classLink "LayeredChute$World" (22 : Nat) "LayeredChute$HeightTable") ∈ lw_g := k_in (List.mem_append_right _ (List.mem_of_getElem? (i := 135) (by decide +kernel))) (by decide +kernel)
theorem t_136 : (Jvm.Cond.instantiable "LayeredChute$HeightTable" (3 : Nat)) ∈ lw_g := k_in (List.mem_append_right _ (List.mem_of_getElem? (i := 136) (by decide +kernel))) (by decide +kernel)
theorem t_138 : (Jvm.Cond.instanceMethod ({ cls := "LayeredChute$HeightTable", name := "<init>", desc := "()V" } : Jvm.MethodName)) ∈ lw_g := k_in (List.mem_append_right _ (List.mem_of_getElem? (i := 138) (by decide +kernel))) (by decide +kernel)
theorem t_139 : (Jvm.Cond.code ({ cls := "LayeredChute$HeightTable", name := "<init>", desc := "()V" } : Jvm.MethodName) prog_4_method_1_code (1 : Nat) (Option.none : Option Jvm.ClassFile.FieldType)) ∈ lw_g := k_in (List.mem_append_right _ (List.mem_of_getElem? (i := 139) (by decide +kernel))) (by decide +kernel)
theorem t_140 : (Jvm.Cond.methodLink "LayeredChute$HeightTable" (3 : Nat) ({ cls := "java/lang/Object", name := "<init>", desc := "()V" } : Jvm.MethodName)) ∈ lw_g := k_in (List.mem_append_right _ (List.mem_of_getElem? (i := 140) (by decide +kernel))) (by decide +kernel)
theorem t_154 : (Jvm.Cond.classLink "LayeredChute$World" (32 : Nat) "LayeredChute$Spots") ∈ lw_g := k_in (List.mem_append_right _ (List.mem_of_getElem? (i := 154) (by decide +kernel))) (by decide +kernel)
theorem t_155 : (Jvm.Cond.instantiable "LayeredChute$Spots" (4 : Nat)) ∈ lw_g := k_in (List.mem_append_right _ (List.mem_of_getElem? (i := 155) (by decide +kernel))) (by decide +kernel)
theorem t_157 : (Jvm.Cond.instanceMethod ({ cls := "LayeredChute$Spots", name := "<init>", desc := "()V" } : Jvm.MethodName)) ∈ lw_g := k_in (List.mem_append_right _ (List.mem_of_getElem? (i := 157) (by decide +kernel))) (by decide +kernel)
theorem t_158 : (Jvm.Cond.code ({ cls := "LayeredChute$Spots", name := "<init>", desc := "()V" } : Jvm.MethodName) prog_10_method_1_code (1 : Nat) (Option.none : Option Jvm.ClassFile.FieldType)) ∈ lw_g := k_in (List.mem_append_right _ (List.mem_of_getElem? (i := 158) (by decide +kernel))) (by decide +kernel)
theorem t_159 : (Jvm.Cond.methodLink "LayeredChute$Spots" (3 : Nat) ({ cls := "java/lang/Object", name := "<init>", desc := "()V" } : Jvm.MethodName)) ∈ lw_g := k_in (List.mem_append_right _ (List.mem_of_getElem? (i := 159) (by decide +kernel))) (by decide +kernel)
theorem t_180 : (Jvm.Cond.classLink "LayeredChute$World" (39 : Nat) "LayeredChute$EventLog") ∈ lw_g := k_in (List.mem_append_right _ (List.mem_of_getElem? (i := 180) (by decide +kernel))) (by decide +kernel)
theorem t_181 : (Jvm.Cond.instantiable "LayeredChute$EventLog" (3 : Nat)) ∈ lw_g := k_in (List.mem_append_right _ (List.mem_of_getElem? (i := 181) (by decide +kernel))) (by decide +kernel)
theorem t_183 : (Jvm.Cond.instanceMethod ({ cls := "LayeredChute$EventLog", name := "<init>", desc := "()V" } : Jvm.MethodName)) ∈ lw_g := k_in (List.mem_append_right _ (List.mem_of_getElem? (i := 183) (by decide +kernel))) (by decide +kernel)
theorem t_184 : (Jvm.Cond.code ({ cls := "LayeredChute$EventLog", name := "<init>", desc := "()V" } : Jvm.MethodName) prog_3_method_1_code (1 : Nat) (Option.none : Option Jvm.ClassFile.FieldType)) ∈ lw_g := k_in (List.mem_append_right _ (List.mem_of_getElem? (i := 184) (by decide +kernel))) (by decide +kernel)
theorem t_185 : (Jvm.Cond.methodLink "LayeredChute$EventLog" (1 : Nat) ({ cls := "java/lang/Object", name := "<init>", desc := "()V" } : Jvm.MethodName)) ∈ lw_g := k_in (List.mem_append_right _ (List.mem_of_getElem? (i := 185) (by decide +kernel))) (by decide +kernel)
theorem t_282 : (Jvm.Cond.classLink "LayeredChute" (23 : Nat) "LayeredChute$Script") ∈ lw_g := k_in (List.mem_append_right _ (List.mem_of_getElem? (i := 282) (by decide +kernel))) (by decide +kernel)
theorem t_283 : (Jvm.Cond.instantiable "LayeredChute$Script" (3 : Nat)) ∈ lw_g := k_in (List.mem_append_right _ (List.mem_of_getElem? (i := 283) (by decide +kernel))) (by decide +kernel)
theorem t_285 : (Jvm.Cond.instanceMethod ({ cls := "LayeredChute$Script", name := "<init>", desc := "()V" } : Jvm.MethodName)) ∈ lw_g := k_in (List.mem_append_right _ (List.mem_of_getElem? (i := 285) (by decide +kernel))) (by decide +kernel)
theorem t_286 : (Jvm.Cond.code ({ cls := "LayeredChute$Script", name := "<init>", desc := "()V" } : Jvm.MethodName) prog_7_method_1_code (1 : Nat) (Option.none : Option Jvm.ClassFile.FieldType)) ∈ lw_g := k_in (List.mem_append_right _ (List.mem_of_getElem? (i := 286) (by decide +kernel))) (by decide +kernel)
theorem t_287 : (Jvm.Cond.methodLink "LayeredChute$Script" (3 : Nat) ({ cls := "java/lang/Object", name := "<init>", desc := "()V" } : Jvm.MethodName)) ∈ lw_g := k_in (List.mem_append_right _ (List.mem_of_getElem? (i := 287) (by decide +kernel))) (by decide +kernel)
theorem t_301 : (Jvm.Cond.classLink "LayeredChute" (30 : Nat) "LayeredChute$World") ∈ lw_g := k_in (List.mem_append_right _ (List.mem_of_getElem? (i := 301) (by decide +kernel))) (by decide +kernel)
theorem t_302 : (Jvm.Cond.methodLink "LayeredChute" (32 : Nat) ({ cls := "LayeredChute$World", name := "<init>", desc := "()V" } : Jvm.MethodName)) ∈ lw_g := k_in (List.mem_append_right _ (List.mem_of_getElem? (i := 302) (by decide +kernel))) (by decide +kernel)
theorem t_303 : (Jvm.Cond.classLink "LayeredChute" (40 : Nat) "LayeredChute$History") ∈ lw_g := k_in (List.mem_append_right _ (List.mem_of_getElem? (i := 303) (by decide +kernel))) (by decide +kernel)
theorem t_304 : (Jvm.Cond.instantiable "LayeredChute$History" (3 : Nat)) ∈ lw_g := k_in (List.mem_append_right _ (List.mem_of_getElem? (i := 304) (by decide +kernel))) (by decide +kernel)
theorem t_305 : (Jvm.Cond.methodLink "LayeredChute" (42 : Nat) ({ cls := "LayeredChute$History", name := "<init>", desc := "()V" } : Jvm.MethodName)) ∈ lw_g := k_in (List.mem_append_right _ (List.mem_of_getElem? (i := 305) (by decide +kernel))) (by decide +kernel)
theorem t_306 : (Jvm.Cond.instanceMethod ({ cls := "LayeredChute$History", name := "<init>", desc := "()V" } : Jvm.MethodName)) ∈ lw_g := k_in (List.mem_append_right _ (List.mem_of_getElem? (i := 306) (by decide +kernel))) (by decide +kernel)
theorem t_307 : (Jvm.Cond.code ({ cls := "LayeredChute$History", name := "<init>", desc := "()V" } : Jvm.MethodName) prog_5_method_1_code (2 : Nat) (Option.none : Option Jvm.ClassFile.FieldType)) ∈ lw_g := k_in (List.mem_append_right _ (List.mem_of_getElem? (i := 307) (by decide +kernel))) (by decide +kernel)
theorem t_308 : (Jvm.Cond.methodLink "LayeredChute$History" (1 : Nat) ({ cls := "java/lang/Object", name := "<init>", desc := "()V" } : Jvm.MethodName)) ∈ lw_g := k_in (List.mem_append_right _ (List.mem_of_getElem? (i := 308) (by decide +kernel))) (by decide +kernel)
theorem t_309 : (Jvm.Cond.classLink "LayeredChute$History" (9 : Nat) "LayeredChute$World") ∈ lw_g := k_in (List.mem_append_right _ (List.mem_of_getElem? (i := 309) (by decide +kernel))) (by decide +kernel)
theorem t_311 : (Jvm.Cond.methodLink "LayeredChute$History" (15 : Nat) ({ cls := "LayeredChute$World", name := "<init>", desc := "()V" } : Jvm.MethodName)) ∈ lw_g := k_in (List.mem_append_right _ (List.mem_of_getElem? (i := 311) (by decide +kernel))) (by decide +kernel)
theorem t_323 : (Jvm.Cond.classLink "LayeredChute" (59 : Nat) "LayeredChute$Slate") ∈ lw_g := k_in (List.mem_append_right _ (List.mem_of_getElem? (i := 323) (by decide +kernel))) (by decide +kernel)
theorem t_324 : (Jvm.Cond.instantiable "LayeredChute$Slate" (2 : Nat)) ∈ lw_g := k_in (List.mem_append_right _ (List.mem_of_getElem? (i := 324) (by decide +kernel))) (by decide +kernel)
theorem t_326 : (Jvm.Cond.instanceMethod ({ cls := "LayeredChute$Slate", name := "<init>", desc := "()V" } : Jvm.MethodName)) ∈ lw_g := k_in (List.mem_append_right _ (List.mem_of_getElem? (i := 326) (by decide +kernel))) (by decide +kernel)
theorem t_327 : (Jvm.Cond.code ({ cls := "LayeredChute$Slate", name := "<init>", desc := "()V" } : Jvm.MethodName) prog_9_method_1_code (1 : Nat) (Option.none : Option Jvm.ClassFile.FieldType)) ∈ lw_g := k_in (List.mem_append_right _ (List.mem_of_getElem? (i := 327) (by decide +kernel))) (by decide +kernel)
theorem t_328 : (Jvm.Cond.methodLink "LayeredChute$Slate" (1 : Nat) ({ cls := "java/lang/Object", name := "<init>", desc := "()V" } : Jvm.MethodName)) ∈ lw_g := k_in (List.mem_append_right _ (List.mem_of_getElem? (i := 328) (by decide +kernel))) (by decide +kernel)
theorem t_338 : (Jvm.Cond.arrayClass Jvm.ClassFile.FieldType.boolean) ∈ lw_g := k_in (List.mem_append_right _ (List.mem_of_getElem? (i := 338) (by decide +kernel))) (by decide +kernel)
def wsX0 (G : Nat → ClassId) (b sz : Nat) : va_W := ([(b, .inr (0, [.int 0, .int 0, .int 0, .int 0, .int 0, .int 0, .int 0, .int 0]))] ++ [])
def fsX0 : List Value := [.int 0, .int 0, .int 0, .int 0, .int 0, .int 0, .int 0, .int 0]
theorem fr_X0 : ∀ j, j < 8 → defaultValue (tyX0 j) = vp_V fsX0 j := fun j hj => by
  rcases (show j = 0 ∨ j = 1 ∨ j = 2 ∨ j = 3 ∨ j = 4 ∨ j = 5 ∨ j = 6 ∨ j = 7 by omega) with rfl | rfl | rfl | rfl | rfl | rfl | rfl | rfl <;> rfl
def rm_X0_init : Room := { frames := 1, cells := 0, slots := 0, locals := 12 }
set_option maxRecDepth 100000 in
set_option maxHeartbeats 4000000 in
theorem c_X0_init (l : Launch) (D : va_G) (G : Nat → ClassId) (b sz : Nat) : Met l yX0_init (.code yX0_init cX0_init 1 none :: lw_g) rm_X0_init (kcPre D G b sz 0 fsX0) (kcQ D b sz 0 (wsX0 G b sz)) 0 0 (kF b sz) := by
  refine kc_ofW (by decide +kernel) (Nat.le_of_ble_eq_true rfl) ?_ rfl
  intro p e s m args below meth c X hP hD hS ls hl
  have hz := X.2.2.2.2.2.2.1
  have hP : va_P D vwCl ([(b, .inr (0, [.int 0, .int 0, .int 0, .int 0, .int 0, .int 0, .int 0, .int 0]))] ++ []) s.heap := hP
  have hD : va_D (kF b sz) ([(b, .inr (0, [.int 0, .int 0, .int 0, .int 0, .int 0, .int 0, .int 0, .int 0]))] ++ []) := hD
  refine lv_aload_n X.1 X.2.1 dX0_init_0 rfl (lv_at hl 0 rfl) ?_
  refine kc_obj X t_93 t_32 t_33 hl.1 ⟨by decide, by decide⟩ dX0_init_1 ?_
  exact kc_vret (h := sz) (n := 0) X hP hD hS hz rfl rfl ⟨rfl, rfl⟩ dX0_init_4
def wsX2 (G : Nat → ClassId) (b sz : Nat) : va_W := ([(b, .inr (2, [.ref sz, .ref (sz + 1), .int 0]))] ++ (([] ++ [(sz, .inl (G 0, 8, .inl (fun _ => 0)))]) ++ [((sz + 1), .inl (G 0, 8, .inl (fun _ => 0)))]))
def fsX2 : List Value := [.null, .null, .int 0]
theorem fr_X2 : ∀ j, j < 3 → defaultValue (tyX2 j) = vp_V fsX2 j := fun j hj => by
  rcases (show j = 0 ∨ j = 1 ∨ j = 2 by omega) with rfl | rfl | rfl <;> rfl
def rm_X2_init : Room := { frames := 1, cells := 2, slots := 16, locals := 12 }
set_option maxRecDepth 100000 in
set_option maxHeartbeats 4000000 in
theorem c_X2_init (l : Launch) (D : va_G) (G : Nat → ClassId) (b sz : Nat) : Met l yX2_init (.code yX2_init cX2_init 1 none :: lw_g) rm_X2_init (kcPre D G b sz 2 fsX2) (kcQ D b sz 2 (wsX2 G b sz)) 2 16 (kF b sz) := by
  refine kc_ofW (by decide +kernel) (Nat.le_of_ble_eq_true rfl) ?_ rfl
  intro p e s m args below meth c X hP hD hS ls hl
  have hz := X.2.2.2.2.2.2.1
  have hP : va_P D vwCl ([(b, .inr (2, [.null, .null, .int 0]))] ++ []) s.heap := hP
  have hD : va_D (kF b sz) ([(b, .inr (2, [.null, .null, .int 0]))] ++ []) := hD
  refine lv_aload_n X.1 X.2.1 dX2_init_0 rfl (lv_at hl 0 rfl) ?_
  refine kc_obj X t_140 t_32 t_33 hl.1 ⟨by decide, by decide⟩ dX2_init_1 ?_
  refine lv_aload_n X.1 X.2.1 dX2_init_4 rfl (lv_at hl 0 rfl) ?_
  refine lv_bipush (v := 8) X.1 X.2.1 dX2_init_5 (by decide) ?_
  refine kd_arr (atype := .int) (h := sz) (t0 := 0) (N := 8) (a0 := (8, .inl (fun _ => 0))) (cells1 := 1) (slots1 := 8) X hP hD hS hz t_74 rfl (fun _ h => h) (fun _ => rfl) (by decide) (by decide) (by decide) rfl rfl ⟨by decide, by decide⟩ dX2_init_7 (fun H hz hP hD hS => ?_)
  have hz : H.size = sz + 1 := hz
  have hP : va_P D vwCl ([(b, .inr (2, [.null, .null, .int 0]))] ++ ([] ++ [(sz, .inl (G 0, 8, .inl (fun _ => 0)))])) H := hP
  have hD : va_D (kF b sz) ([(b, .inr (2, [.null, .null, .int 0]))] ++ ([] ++ [(sz, .inl (G 0, 8, .inl (fun _ => 0)))])) := hD
  refine kd_put (h := sz + 1) (tag := 2) (i := 0) (N := 3) (T := TX2) (ty0 := tyX2) (ty := .array .int) (fs := [.null, .null, .int 0]) (v := .ref sz) X hP hD hS hz rfl in_X2 tyX2_ok nmX2 rfl (by decide) t_141 rfl (by decide +kernel) rfl rfl (Nat.le_of_ble_eq_true rfl) dX2_init_9 (fun H locs hz hP hD hS => ?_)
  have hz : H.size = sz + 1 := hz
  have hP : va_P D vwCl ([(b, .inr (2, [.ref sz, .null, .int 0]))] ++ ([] ++ [(sz, .inl (G 0, 8, .inl (fun _ => 0)))])) H := hP
  have hD : va_D (kF b sz) ([(b, .inr (2, [.ref sz, .null, .int 0]))] ++ ([] ++ [(sz, .inl (G 0, 8, .inl (fun _ => 0)))])) := hD
  refine lv_aload_n X.1 X.2.1 dX2_init_12 rfl (lv_at hl 0 rfl) ?_
  refine lv_bipush (v := 8) X.1 X.2.1 dX2_init_13 (by decide) ?_
  refine kd_arr (atype := .int) (h := sz + 1) (t0 := 0) (N := 8) (a0 := (8, .inl (fun _ => 0))) (cells1 := 2) (slots1 := 16) X hP hD hS hz t_74 rfl (fun _ h => h) (fun _ => rfl) (by decide) (by decide) (by decide) rfl rfl ⟨by decide, by decide⟩ dX2_init_15 (fun H hz hP hD hS => ?_)
  have hz : H.size = sz + 2 := hz
  have hP : va_P D vwCl ([(b, .inr (2, [.ref sz, .null, .int 0]))] ++ (([] ++ [(sz, .inl (G 0, 8, .inl (fun _ => 0)))]) ++ [((sz + 1), .inl (G 0, 8, .inl (fun _ => 0)))])) H := hP
  have hD : va_D (kF b sz) ([(b, .inr (2, [.ref sz, .null, .int 0]))] ++ (([] ++ [(sz, .inl (G 0, 8, .inl (fun _ => 0)))]) ++ [((sz + 1), .inl (G 0, 8, .inl (fun _ => 0)))])) := hD
  refine kd_put (h := sz + 2) (tag := 2) (i := 1) (N := 3) (T := TX2) (ty0 := tyX2) (ty := .array .int) (fs := [.ref sz, .null, .int 0]) (v := .ref (sz + 1)) X hP hD hS hz rfl in_X2 tyX2_ok nmX2 rfl (by decide) t_142 rfl (by decide +kernel) rfl rfl (Nat.le_of_ble_eq_true rfl) dX2_init_17 (fun H locs hz hP hD hS => ?_)
  have hz : H.size = sz + 2 := hz
  have hP : va_P D vwCl ([(b, .inr (2, [.ref sz, .ref (sz + 1), .int 0]))] ++ (([] ++ [(sz, .inl (G 0, 8, .inl (fun _ => 0)))]) ++ [((sz + 1), .inl (G 0, 8, .inl (fun _ => 0)))])) H := hP
  have hD : va_D (kF b sz) ([(b, .inr (2, [.ref sz, .ref (sz + 1), .int 0]))] ++ (([] ++ [(sz, .inl (G 0, 8, .inl (fun _ => 0)))]) ++ [((sz + 1), .inl (G 0, 8, .inl (fun _ => 0)))])) := hD
  exact kc_vret (h := sz + 2) (n := 2) X hP hD hS hz rfl rfl ⟨rfl, rfl⟩ dX2_init_20
def wsX8 (G : Nat → ClassId) (b sz : Nat) : va_W := ([(b, .inr (8, [.ref sz, .ref (sz + 1), .ref (sz + 2), .int 0]))] ++ ((([] ++ [(sz, .inl (G 0, 8, .inl (fun _ => 0)))]) ++ [((sz + 1), .inl (G 0, 8, .inl (fun _ => 0)))]) ++ [((sz + 2), .inl (G 0, 8, .inl (fun _ => 0)))]))
def fsX8 : List Value := [.null, .null, .null, .int 0]
theorem fr_X8 : ∀ j, j < 4 → defaultValue (tyX8 j) = vp_V fsX8 j := fun j hj => by
  rcases (show j = 0 ∨ j = 1 ∨ j = 2 ∨ j = 3 by omega) with rfl | rfl | rfl | rfl <;> rfl
def rm_X8_init : Room := { frames := 1, cells := 3, slots := 24, locals := 12 }
set_option maxRecDepth 100000 in
set_option maxHeartbeats 4000000 in
theorem c_X8_init (l : Launch) (D : va_G) (G : Nat → ClassId) (b sz : Nat) : Met l yX8_init (.code yX8_init cX8_init 1 none :: lw_g) rm_X8_init (kcPre D G b sz 8 fsX8) (kcQ D b sz 3 (wsX8 G b sz)) 3 24 (kF b sz) := by
  refine kc_ofW (by decide +kernel) (Nat.le_of_ble_eq_true rfl) ?_ rfl
  intro p e s m args below meth c X hP hD hS ls hl
  have hz := X.2.2.2.2.2.2.1
  have hP : va_P D vwCl ([(b, .inr (8, [.null, .null, .null, .int 0]))] ++ []) s.heap := hP
  have hD : va_D (kF b sz) ([(b, .inr (8, [.null, .null, .null, .int 0]))] ++ []) := hD
  refine lv_aload_n X.1 X.2.1 dX8_init_0 rfl (lv_at hl 0 rfl) ?_
  refine kc_obj X t_159 t_32 t_33 hl.1 ⟨by decide, by decide⟩ dX8_init_1 ?_
  refine lv_aload_n X.1 X.2.1 dX8_init_4 rfl (lv_at hl 0 rfl) ?_
  refine lv_bipush (v := 8) X.1 X.2.1 dX8_init_5 (by decide) ?_
  refine kd_arr (atype := .int) (h := sz) (t0 := 0) (N := 8) (a0 := (8, .inl (fun _ => 0))) (cells1 := 1) (slots1 := 8) X hP hD hS hz t_74 rfl (fun _ h => h) (fun _ => rfl) (by decide) (by decide) (by decide) rfl rfl ⟨by decide, by decide⟩ dX8_init_7 (fun H hz hP hD hS => ?_)
  have hz : H.size = sz + 1 := hz
  have hP : va_P D vwCl ([(b, .inr (8, [.null, .null, .null, .int 0]))] ++ ([] ++ [(sz, .inl (G 0, 8, .inl (fun _ => 0)))])) H := hP
  have hD : va_D (kF b sz) ([(b, .inr (8, [.null, .null, .null, .int 0]))] ++ ([] ++ [(sz, .inl (G 0, 8, .inl (fun _ => 0)))])) := hD
  refine kd_put (h := sz + 1) (tag := 8) (i := 0) (N := 4) (T := TX8) (ty0 := tyX8) (ty := .array .int) (fs := [.null, .null, .null, .int 0]) (v := .ref sz) X hP hD hS hz rfl in_X8 tyX8_ok nmX8 rfl (by decide) t_160 rfl (by decide +kernel) rfl rfl (Nat.le_of_ble_eq_true rfl) dX8_init_9 (fun H locs hz hP hD hS => ?_)
  have hz : H.size = sz + 1 := hz
  have hP : va_P D vwCl ([(b, .inr (8, [.ref sz, .null, .null, .int 0]))] ++ ([] ++ [(sz, .inl (G 0, 8, .inl (fun _ => 0)))])) H := hP
  have hD : va_D (kF b sz) ([(b, .inr (8, [.ref sz, .null, .null, .int 0]))] ++ ([] ++ [(sz, .inl (G 0, 8, .inl (fun _ => 0)))])) := hD
  refine lv_aload_n X.1 X.2.1 dX8_init_12 rfl (lv_at hl 0 rfl) ?_
  refine lv_bipush (v := 8) X.1 X.2.1 dX8_init_13 (by decide) ?_
  refine kd_arr (atype := .int) (h := sz + 1) (t0 := 0) (N := 8) (a0 := (8, .inl (fun _ => 0))) (cells1 := 2) (slots1 := 16) X hP hD hS hz t_74 rfl (fun _ h => h) (fun _ => rfl) (by decide) (by decide) (by decide) rfl rfl ⟨by decide, by decide⟩ dX8_init_15 (fun H hz hP hD hS => ?_)
  have hz : H.size = sz + 2 := hz
  have hP : va_P D vwCl ([(b, .inr (8, [.ref sz, .null, .null, .int 0]))] ++ (([] ++ [(sz, .inl (G 0, 8, .inl (fun _ => 0)))]) ++ [((sz + 1), .inl (G 0, 8, .inl (fun _ => 0)))])) H := hP
  have hD : va_D (kF b sz) ([(b, .inr (8, [.ref sz, .null, .null, .int 0]))] ++ (([] ++ [(sz, .inl (G 0, 8, .inl (fun _ => 0)))]) ++ [((sz + 1), .inl (G 0, 8, .inl (fun _ => 0)))])) := hD
  refine kd_put (h := sz + 2) (tag := 8) (i := 1) (N := 4) (T := TX8) (ty0 := tyX8) (ty := .array .int) (fs := [.ref sz, .null, .null, .int 0]) (v := .ref (sz + 1)) X hP hD hS hz rfl in_X8 tyX8_ok nmX8 rfl (by decide) t_162 rfl (by decide +kernel) rfl rfl (Nat.le_of_ble_eq_true rfl) dX8_init_17 (fun H locs hz hP hD hS => ?_)
  have hz : H.size = sz + 2 := hz
  have hP : va_P D vwCl ([(b, .inr (8, [.ref sz, .ref (sz + 1), .null, .int 0]))] ++ (([] ++ [(sz, .inl (G 0, 8, .inl (fun _ => 0)))]) ++ [((sz + 1), .inl (G 0, 8, .inl (fun _ => 0)))])) H := hP
  have hD : va_D (kF b sz) ([(b, .inr (8, [.ref sz, .ref (sz + 1), .null, .int 0]))] ++ (([] ++ [(sz, .inl (G 0, 8, .inl (fun _ => 0)))]) ++ [((sz + 1), .inl (G 0, 8, .inl (fun _ => 0)))])) := hD
  refine lv_aload_n X.1 X.2.1 dX8_init_20 rfl (lv_at hl 0 rfl) ?_
  refine lv_bipush (v := 8) X.1 X.2.1 dX8_init_21 (by decide) ?_
  refine kd_arr (atype := .int) (h := sz + 2) (t0 := 0) (N := 8) (a0 := (8, .inl (fun _ => 0))) (cells1 := 3) (slots1 := 24) X hP hD hS hz t_74 rfl (fun _ h => h) (fun _ => rfl) (by decide) (by decide) (by decide) rfl rfl ⟨by decide, by decide⟩ dX8_init_23 (fun H hz hP hD hS => ?_)
  have hz : H.size = sz + 3 := hz
  have hP : va_P D vwCl ([(b, .inr (8, [.ref sz, .ref (sz + 1), .null, .int 0]))] ++ ((([] ++ [(sz, .inl (G 0, 8, .inl (fun _ => 0)))]) ++ [((sz + 1), .inl (G 0, 8, .inl (fun _ => 0)))]) ++ [((sz + 2), .inl (G 0, 8, .inl (fun _ => 0)))])) H := hP
  have hD : va_D (kF b sz) ([(b, .inr (8, [.ref sz, .ref (sz + 1), .null, .int 0]))] ++ ((([] ++ [(sz, .inl (G 0, 8, .inl (fun _ => 0)))]) ++ [((sz + 1), .inl (G 0, 8, .inl (fun _ => 0)))]) ++ [((sz + 2), .inl (G 0, 8, .inl (fun _ => 0)))])) := hD
  refine kd_put (h := sz + 3) (tag := 8) (i := 2) (N := 4) (T := TX8) (ty0 := tyX8) (ty := .array .int) (fs := [.ref sz, .ref (sz + 1), .null, .int 0]) (v := .ref (sz + 2)) X hP hD hS hz rfl in_X8 tyX8_ok nmX8 rfl (by decide) t_164 rfl (by decide +kernel) rfl rfl (Nat.le_of_ble_eq_true rfl) dX8_init_25 (fun H locs hz hP hD hS => ?_)
  have hz : H.size = sz + 3 := hz
  have hP : va_P D vwCl ([(b, .inr (8, [.ref sz, .ref (sz + 1), .ref (sz + 2), .int 0]))] ++ ((([] ++ [(sz, .inl (G 0, 8, .inl (fun _ => 0)))]) ++ [((sz + 1), .inl (G 0, 8, .inl (fun _ => 0)))]) ++ [((sz + 2), .inl (G 0, 8, .inl (fun _ => 0)))])) H := hP
  have hD : va_D (kF b sz) ([(b, .inr (8, [.ref sz, .ref (sz + 1), .ref (sz + 2), .int 0]))] ++ ((([] ++ [(sz, .inl (G 0, 8, .inl (fun _ => 0)))]) ++ [((sz + 1), .inl (G 0, 8, .inl (fun _ => 0)))]) ++ [((sz + 2), .inl (G 0, 8, .inl (fun _ => 0)))])) := hD
  exact kc_vret (h := sz + 3) (n := 3) X hP hD hS hz rfl rfl ⟨rfl, rfl⟩ dX8_init_28
def wsX1 (G : Nat → ClassId) (b sz : Nat) : va_W := ([(b, .inr (1, [.ref sz, .int 0, .int 0]))] ++ ([] ++ [(sz, .inl (G 0, 120, .inl (fun _ => 0)))]))
def fsX1 : List Value := [.null, .int 0, .int 0]
theorem fr_X1 : ∀ j, j < 3 → defaultValue (tyX1 j) = vp_V fsX1 j := fun j hj => by
  rcases (show j = 0 ∨ j = 1 ∨ j = 2 by omega) with rfl | rfl | rfl <;> rfl
def rm_X1_init : Room := { frames := 1, cells := 1, slots := 120, locals := 12 }
set_option maxRecDepth 100000 in
set_option maxHeartbeats 4000000 in
theorem c_X1_init (l : Launch) (D : va_G) (G : Nat → ClassId) (b sz : Nat) : Met l yX1_init (.code yX1_init cX1_init 1 none :: lw_g) rm_X1_init (kcPre D G b sz 1 fsX1) (kcQ D b sz 1 (wsX1 G b sz)) 1 120 (kF b sz) := by
  refine kc_ofW (by decide +kernel) (Nat.le_of_ble_eq_true rfl) ?_ rfl
  intro p e s m args below meth c X hP hD hS ls hl
  have hz := X.2.2.2.2.2.2.1
  have hP : va_P D vwCl ([(b, .inr (1, [.null, .int 0, .int 0]))] ++ []) s.heap := hP
  have hD : va_D (kF b sz) ([(b, .inr (1, [.null, .int 0, .int 0]))] ++ []) := hD
  refine lv_aload_n X.1 X.2.1 dX1_init_0 rfl (lv_at hl 0 rfl) ?_
  refine kc_obj X t_185 t_32 t_33 hl.1 ⟨by decide, by decide⟩ dX1_init_1 ?_
  refine lv_aload_n X.1 X.2.1 dX1_init_4 rfl (lv_at hl 0 rfl) ?_
  refine lv_bipush (v := 120) X.1 X.2.1 dX1_init_5 (by decide) ?_
  refine kd_arr (atype := .int) (h := sz) (t0 := 0) (N := 120) (a0 := (120, .inl (fun _ => 0))) (cells1 := 1) (slots1 := 120) X hP hD hS hz t_74 rfl (fun _ h => h) (fun _ => rfl) (by decide) (by decide) (by decide) rfl rfl ⟨by decide, by decide⟩ dX1_init_7 (fun H hz hP hD hS => ?_)
  have hz : H.size = sz + 1 := hz
  have hP : va_P D vwCl ([(b, .inr (1, [.null, .int 0, .int 0]))] ++ ([] ++ [(sz, .inl (G 0, 120, .inl (fun _ => 0)))])) H := hP
  have hD : va_D (kF b sz) ([(b, .inr (1, [.null, .int 0, .int 0]))] ++ ([] ++ [(sz, .inl (G 0, 120, .inl (fun _ => 0)))])) := hD
  refine kd_put (h := sz + 1) (tag := 1) (i := 0) (N := 3) (T := TX1) (ty0 := tyX1) (ty := .array .int) (fs := [.null, .int 0, .int 0]) (v := .ref sz) X hP hD hS hz rfl in_X1 tyX1_ok nmX1 rfl (by decide) t_186 rfl (by decide +kernel) rfl rfl (Nat.le_of_ble_eq_true rfl) dX1_init_9 (fun H locs hz hP hD hS => ?_)
  have hz : H.size = sz + 1 := hz
  have hP : va_P D vwCl ([(b, .inr (1, [.ref sz, .int 0, .int 0]))] ++ ([] ++ [(sz, .inl (G 0, 120, .inl (fun _ => 0)))])) H := hP
  have hD : va_D (kF b sz) ([(b, .inr (1, [.ref sz, .int 0, .int 0]))] ++ ([] ++ [(sz, .inl (G 0, 120, .inl (fun _ => 0)))])) := hD
  exact kc_vret (h := sz + 1) (n := 1) X hP hD hS hz rfl rfl ⟨rfl, rfl⟩ dX1_init_12
def wsX9 (G : Nat → ClassId) (b sz : Nat) : va_W := ([(b, .inr (9, [.int 0, .int 0, .int 0, .int 0, .int 0, .int 0, .int 0, .int 0, .int 0, .int 0, .int 0, .int 0, .ref sz, .ref (sz + 1), .ref (sz + 2), .ref (sz + 5), .ref (sz + 8), .ref (sz + 12)])), (sz, .inl (G 3, 8, .inr (.inr (.inr (.inr (va_up (va_up (va_up (va_up (va_up (va_up (va_up (va_up (fun _ => none) 0 (some (sz + 14))) 1 (some (sz + 15))) 2 (some (sz + 16))) 3 (some (sz + 17))) 4 (some (sz + 18))) 5 (some (sz + 19))) 6 (some (sz + 20))) 7 (some (sz + 21))))))))] ++ ((((((((((((([] ++ wsX0 G (sz + 1) (sz + 2)) ++ wsX2 G (sz + 2) (sz + 3)) ++ wsX2 G (sz + 5) (sz + 6)) ++ wsX8 G (sz + 8) (sz + 9)) ++ wsX1 G (sz + 12) (sz + 13)) ++ wsX0 G (sz + 14) (sz + 15)) ++ wsX0 G (sz + 15) (sz + 16)) ++ wsX0 G (sz + 16) (sz + 17)) ++ wsX0 G (sz + 17) (sz + 18)) ++ wsX0 G (sz + 18) (sz + 19)) ++ wsX0 G (sz + 19) (sz + 20)) ++ wsX0 G (sz + 20) (sz + 21)) ++ wsX0 G (sz + 21) (sz + 22)))
def fsX9 : List Value := [.int 0, .int 0, .int 0, .int 0, .int 0, .int 0, .int 0, .int 0, .int 0, .int 0, .int 0, .int 0, .null, .null, .null, .null, .null, .null]
theorem fr_X9 : ∀ j, j < 18 → defaultValue (tyX9 j) = vp_V fsX9 j := fun j hj => by
  rcases (show j = 0 ∨ j = 1 ∨ j = 2 ∨ j = 3 ∨ j = 4 ∨ j = 5 ∨ j = 6 ∨ j = 7 ∨ j = 8 ∨ j = 9 ∨ j = 10 ∨ j = 11 ∨ j = 12 ∨ j = 13 ∨ j = 14 ∨ j = 15 ∨ j = 16 ∨ j = 17 by omega) with rfl | rfl | rfl | rfl | rfl | rfl | rfl | rfl | rfl | rfl | rfl | rfl | rfl | rfl | rfl | rfl | rfl | rfl <;> rfl
def rm_X9_init : Room := { frames := 2, cells := 22, slots := 269, locals := 32 }
set_option maxRecDepth 100000 in
set_option maxHeartbeats 4000000 in
theorem c_X9_init (l : Launch) (D : va_G) (G : Nat → ClassId) (b sz : Nat) : Met l yX9_init (.code yX9_init cX9_init 2 none :: lw_g) rm_X9_init (kcPre D G b sz 9 fsX9) (kcQ D b sz 22 (wsX9 G b sz)) 22 269 (kF b sz) := by
  refine kc_ofW (by decide +kernel) (Nat.le_of_ble_eq_true rfl) ?_ rfl
  intro p e s m args below meth c X hP hD hS ls hl
  have hz := X.2.2.2.2.2.2.1
  have hP : va_P D vwCl ([(b, .inr (9, [.int 0, .int 0, .int 0, .int 0, .int 0, .int 0, .int 0, .int 0, .int 0, .int 0, .int 0, .int 0, .null, .null, .null, .null, .null, .null]))] ++ []) s.heap := hP
  have hD : va_D (kF b sz) ([(b, .inr (9, [.int 0, .int 0, .int 0, .int 0, .int 0, .int 0, .int 0, .int 0, .int 0, .int 0, .int 0, .int 0, .null, .null, .null, .null, .null, .null]))] ++ []) := hD
  refine lv_aload_n X.1 X.2.1 dX9_init_0 rfl (lv_at hl 0 rfl) ?_
  refine kc_obj X t_86 t_32 t_33 hl.1 ⟨by decide, by decide⟩ dX9_init_1 ?_
  refine lv_aload_n X.1 X.2.1 dX9_init_4 rfl (lv_at hl 0 rfl) ?_
  refine lv_bipush (v := 8) X.1 X.2.1 dX9_init_5 (by decide) ?_
  refine kd_arq (h := sz) (t0 := 3) (N := 8) (C := RX0) (cells1 := 1) (slots1 := 8) X hP hD hS hz t_87 X.2.2.2.2.2.2.2.2.1.2.1 rfl (by decide) (by decide) (by decide) rfl rfl ⟨by decide, by decide⟩ dX9_init_7 (fun H hz hP hD hS => ?_)
  have hz : H.size = sz + 1 := hz
  have hP : va_P D vwCl ([(b, .inr (9, [.int 0, .int 0, .int 0, .int 0, .int 0, .int 0, .int 0, .int 0, .int 0, .int 0, .int 0, .int 0, .null, .null, .null, .null, .null, .null])), (sz, .inl (G 3, 8, .inr (.inr (.inr (.inr (fun _ => none))))))] ++ []) H := hP
  have hD : va_D (kF b sz) ([(b, .inr (9, [.int 0, .int 0, .int 0, .int 0, .int 0, .int 0, .int 0, .int 0, .int 0, .int 0, .int 0, .int 0, .null, .null, .null, .null, .null, .null])), (sz, .inl (G 3, 8, .inr (.inr (.inr (.inr (fun _ => none))))))] ++ []) := hD
  refine kd_put (h := sz + 1) (tag := 9) (i := 12) (N := 18) (T := TX9) (ty0 := tyX9) (ty := .array (.object "LayeredChute$Chute")) (fs := [.int 0, .int 0, .int 0, .int 0, .int 0, .int 0, .int 0, .int 0, .int 0, .int 0, .int 0, .int 0, .null, .null, .null, .null, .null, .null]) (v := .ref sz) X hP hD hS hz rfl in_X9 tyX9_ok nmX9 rfl (by decide) t_224 rfl (by decide +kernel) rfl rfl (Nat.le_of_ble_eq_true rfl) dX9_init_10 (fun H locs hz hP hD hS => ?_)
  have hz : H.size = sz + 1 := hz
  have hP : va_P D vwCl ([(b, .inr (9, [.int 0, .int 0, .int 0, .int 0, .int 0, .int 0, .int 0, .int 0, .int 0, .int 0, .int 0, .int 0, .ref sz, .null, .null, .null, .null, .null])), (sz, .inl (G 3, 8, .inr (.inr (.inr (.inr (fun _ => none))))))] ++ []) H := hP
  have hD : va_D (kF b sz) ([(b, .inr (9, [.int 0, .int 0, .int 0, .int 0, .int 0, .int 0, .int 0, .int 0, .int 0, .int 0, .int 0, .int 0, .ref sz, .null, .null, .null, .null, .null])), (sz, .inl (G 3, 8, .inr (.inr (.inr (.inr (fun _ => none))))))] ++ []) := hD
  refine lv_aload_n X.1 X.2.1 dX9_init_13 rfl (lv_at hl 0 rfl) ?_
  refine kd_make (h := sz + 1) (h1 := sz + 2) (tag := 0) (n := 0) (cells1 := 2) (slots1 := 16) (fs := fsX0) X hP hD hS hz rfl rfl in_X0 tyX0_ok fr_X0 t_87 t_89 t_5 (c_X0_init l D G (sz + 1) (sz + 2)) rfl rfl ⟨by decide +kernel, by decide +kernel, by decide +kernel⟩ t_91 t_92 (Or.inr ⟨RX10, by decide +kernel⟩) ⟨rfl, rfl⟩ ⟨by decide, by decide⟩ hl.1 (Nat.le_of_ble_eq_true rfl) rfl rfl ⟨by decide, by decide⟩ dX9_init_14 dX9_init_17 dX9_init_18 (fun H locs hz hP hD hL hS => ?_)
  have hz : H.size = sz + 2 := hz
  have hP : va_P D vwCl ([(b, .inr (9, [.int 0, .int 0, .int 0, .int 0, .int 0, .int 0, .int 0, .int 0, .int 0, .int 0, .int 0, .int 0, .ref sz, .null, .null, .null, .null, .null])), (sz, .inl (G 3, 8, .inr (.inr (.inr (.inr (fun _ => none))))))] ++ ([] ++ wsX0 G (sz + 1) (sz + 2))) H := hP
  have hD : va_D (kF b sz) ([(b, .inr (9, [.int 0, .int 0, .int 0, .int 0, .int 0, .int 0, .int 0, .int 0, .int 0, .int 0, .int 0, .int 0, .ref sz, .null, .null, .null, .null, .null])), (sz, .inl (G 3, 8, .inr (.inr (.inr (.inr (fun _ => none))))))] ++ ([] ++ wsX0 G (sz + 1) (sz + 2))) := hD
  refine kd_put (h := sz + 2) (tag := 9) (i := 13) (N := 18) (T := TX9) (ty0 := tyX9) (ty := .object "LayeredChute$Chute") (fs := [.int 0, .int 0, .int 0, .int 0, .int 0, .int 0, .int 0, .int 0, .int 0, .int 0, .int 0, .int 0, .ref sz, .null, .null, .null, .null, .null]) (v := .ref (sz + 1)) X hP hD hS hz rfl in_X9 tyX9_ok nmX9 rfl (by decide) t_226 rfl (by decide +kernel) rfl rfl (Nat.le_of_ble_eq_true rfl) dX9_init_21 (fun H locs hz hP hD hS => ?_)
  have hz : H.size = sz + 2 := hz
  have hP : va_P D vwCl ([(b, .inr (9, [.int 0, .int 0, .int 0, .int 0, .int 0, .int 0, .int 0, .int 0, .int 0, .int 0, .int 0, .int 0, .ref sz, .ref (sz + 1), .null, .null, .null, .null])), (sz, .inl (G 3, 8, .inr (.inr (.inr (.inr (fun _ => none))))))] ++ ([] ++ wsX0 G (sz + 1) (sz + 2))) H := hP
  have hD : va_D (kF b sz) ([(b, .inr (9, [.int 0, .int 0, .int 0, .int 0, .int 0, .int 0, .int 0, .int 0, .int 0, .int 0, .int 0, .int 0, .ref sz, .ref (sz + 1), .null, .null, .null, .null])), (sz, .inl (G 3, 8, .inr (.inr (.inr (.inr (fun _ => none))))))] ++ ([] ++ wsX0 G (sz + 1) (sz + 2))) := hD
  refine lv_aload_n X.1 X.2.1 dX9_init_24 rfl (lv_at hl 0 rfl) ?_
  refine kd_make (h := sz + 2) (h1 := sz + 5) (tag := 2) (n := 2) (cells1 := 5) (slots1 := 35) (fs := fsX2) X hP hD hS hz rfl rfl in_X2 tyX2_ok fr_X2 t_135 t_136 t_6 (c_X2_init l D G (sz + 2) (sz + 3)) rfl rfl ⟨by decide +kernel, by decide +kernel, by decide +kernel⟩ t_138 t_139 (Or.inr ⟨RX10, by decide +kernel⟩) ⟨rfl, rfl⟩ ⟨by decide, by decide⟩ hl.1 (Nat.le_of_ble_eq_true rfl) rfl rfl ⟨by decide, by decide⟩ dX9_init_25 dX9_init_28 dX9_init_29 (fun H locs hz hP hD hL hS => ?_)
  have hz : H.size = sz + 5 := hz
  have hP : va_P D vwCl ([(b, .inr (9, [.int 0, .int 0, .int 0, .int 0, .int 0, .int 0, .int 0, .int 0, .int 0, .int 0, .int 0, .int 0, .ref sz, .ref (sz + 1), .null, .null, .null, .null])), (sz, .inl (G 3, 8, .inr (.inr (.inr (.inr (fun _ => none))))))] ++ (([] ++ wsX0 G (sz + 1) (sz + 2)) ++ wsX2 G (sz + 2) (sz + 3))) H := hP
  have hD : va_D (kF b sz) ([(b, .inr (9, [.int 0, .int 0, .int 0, .int 0, .int 0, .int 0, .int 0, .int 0, .int 0, .int 0, .int 0, .int 0, .ref sz, .ref (sz + 1), .null, .null, .null, .null])), (sz, .inl (G 3, 8, .inr (.inr (.inr (.inr (fun _ => none))))))] ++ (([] ++ wsX0 G (sz + 1) (sz + 2)) ++ wsX2 G (sz + 2) (sz + 3))) := hD
  refine kd_put (h := sz + 5) (tag := 9) (i := 14) (N := 18) (T := TX9) (ty0 := tyX9) (ty := .object "LayeredChute$HeightTable") (fs := [.int 0, .int 0, .int 0, .int 0, .int 0, .int 0, .int 0, .int 0, .int 0, .int 0, .int 0, .int 0, .ref sz, .ref (sz + 1), .null, .null, .null, .null]) (v := .ref (sz + 2)) X hP hD hS hz rfl in_X9 tyX9_ok nmX9 rfl (by decide) t_229 rfl (by decide +kernel) rfl rfl (Nat.le_of_ble_eq_true rfl) dX9_init_32 (fun H locs hz hP hD hS => ?_)
  have hz : H.size = sz + 5 := hz
  have hP : va_P D vwCl ([(b, .inr (9, [.int 0, .int 0, .int 0, .int 0, .int 0, .int 0, .int 0, .int 0, .int 0, .int 0, .int 0, .int 0, .ref sz, .ref (sz + 1), .ref (sz + 2), .null, .null, .null])), (sz, .inl (G 3, 8, .inr (.inr (.inr (.inr (fun _ => none))))))] ++ (([] ++ wsX0 G (sz + 1) (sz + 2)) ++ wsX2 G (sz + 2) (sz + 3))) H := hP
  have hD : va_D (kF b sz) ([(b, .inr (9, [.int 0, .int 0, .int 0, .int 0, .int 0, .int 0, .int 0, .int 0, .int 0, .int 0, .int 0, .int 0, .ref sz, .ref (sz + 1), .ref (sz + 2), .null, .null, .null])), (sz, .inl (G 3, 8, .inr (.inr (.inr (.inr (fun _ => none))))))] ++ (([] ++ wsX0 G (sz + 1) (sz + 2)) ++ wsX2 G (sz + 2) (sz + 3))) := hD
  refine lv_aload_n X.1 X.2.1 dX9_init_35 rfl (lv_at hl 0 rfl) ?_
  refine kd_make (h := sz + 5) (h1 := sz + 8) (tag := 2) (n := 2) (cells1 := 8) (slots1 := 54) (fs := fsX2) X hP hD hS hz rfl rfl in_X2 tyX2_ok fr_X2 t_135 t_136 t_6 (c_X2_init l D G (sz + 5) (sz + 6)) rfl rfl ⟨by decide +kernel, by decide +kernel, by decide +kernel⟩ t_138 t_139 (Or.inr ⟨RX10, by decide +kernel⟩) ⟨rfl, rfl⟩ ⟨by decide, by decide⟩ hl.1 (Nat.le_of_ble_eq_true rfl) rfl rfl ⟨by decide, by decide⟩ dX9_init_36 dX9_init_39 dX9_init_40 (fun H locs hz hP hD hL hS => ?_)
  have hz : H.size = sz + 8 := hz
  have hP : va_P D vwCl ([(b, .inr (9, [.int 0, .int 0, .int 0, .int 0, .int 0, .int 0, .int 0, .int 0, .int 0, .int 0, .int 0, .int 0, .ref sz, .ref (sz + 1), .ref (sz + 2), .null, .null, .null])), (sz, .inl (G 3, 8, .inr (.inr (.inr (.inr (fun _ => none))))))] ++ ((([] ++ wsX0 G (sz + 1) (sz + 2)) ++ wsX2 G (sz + 2) (sz + 3)) ++ wsX2 G (sz + 5) (sz + 6))) H := hP
  have hD : va_D (kF b sz) ([(b, .inr (9, [.int 0, .int 0, .int 0, .int 0, .int 0, .int 0, .int 0, .int 0, .int 0, .int 0, .int 0, .int 0, .ref sz, .ref (sz + 1), .ref (sz + 2), .null, .null, .null])), (sz, .inl (G 3, 8, .inr (.inr (.inr (.inr (fun _ => none))))))] ++ ((([] ++ wsX0 G (sz + 1) (sz + 2)) ++ wsX2 G (sz + 2) (sz + 3)) ++ wsX2 G (sz + 5) (sz + 6))) := hD
  refine kd_put (h := sz + 8) (tag := 9) (i := 15) (N := 18) (T := TX9) (ty0 := tyX9) (ty := .object "LayeredChute$HeightTable") (fs := [.int 0, .int 0, .int 0, .int 0, .int 0, .int 0, .int 0, .int 0, .int 0, .int 0, .int 0, .int 0, .ref sz, .ref (sz + 1), .ref (sz + 2), .null, .null, .null]) (v := .ref (sz + 5)) X hP hD hS hz rfl in_X9 tyX9_ok nmX9 rfl (by decide) t_232 rfl (by decide +kernel) rfl rfl (Nat.le_of_ble_eq_true rfl) dX9_init_43 (fun H locs hz hP hD hS => ?_)
  have hz : H.size = sz + 8 := hz
  have hP : va_P D vwCl ([(b, .inr (9, [.int 0, .int 0, .int 0, .int 0, .int 0, .int 0, .int 0, .int 0, .int 0, .int 0, .int 0, .int 0, .ref sz, .ref (sz + 1), .ref (sz + 2), .ref (sz + 5), .null, .null])), (sz, .inl (G 3, 8, .inr (.inr (.inr (.inr (fun _ => none))))))] ++ ((([] ++ wsX0 G (sz + 1) (sz + 2)) ++ wsX2 G (sz + 2) (sz + 3)) ++ wsX2 G (sz + 5) (sz + 6))) H := hP
  have hD : va_D (kF b sz) ([(b, .inr (9, [.int 0, .int 0, .int 0, .int 0, .int 0, .int 0, .int 0, .int 0, .int 0, .int 0, .int 0, .int 0, .ref sz, .ref (sz + 1), .ref (sz + 2), .ref (sz + 5), .null, .null])), (sz, .inl (G 3, 8, .inr (.inr (.inr (.inr (fun _ => none))))))] ++ ((([] ++ wsX0 G (sz + 1) (sz + 2)) ++ wsX2 G (sz + 2) (sz + 3)) ++ wsX2 G (sz + 5) (sz + 6))) := hD
  refine lv_aload_n X.1 X.2.1 dX9_init_46 rfl (lv_at hl 0 rfl) ?_
  refine kd_make (h := sz + 8) (h1 := sz + 12) (tag := 8) (n := 3) (cells1 := 12) (slots1 := 82) (fs := fsX8) X hP hD hS hz rfl rfl in_X8 tyX8_ok fr_X8 t_154 t_155 t_7 (c_X8_init l D G (sz + 8) (sz + 9)) rfl rfl ⟨by decide +kernel, by decide +kernel, by decide +kernel⟩ t_157 t_158 (Or.inr ⟨RX10, by decide +kernel⟩) ⟨rfl, rfl⟩ ⟨by decide, by decide⟩ hl.1 (Nat.le_of_ble_eq_true rfl) rfl rfl ⟨by decide, by decide⟩ dX9_init_47 dX9_init_50 dX9_init_51 (fun H locs hz hP hD hL hS => ?_)
  have hz : H.size = sz + 12 := hz
  have hP : va_P D vwCl ([(b, .inr (9, [.int 0, .int 0, .int 0, .int 0, .int 0, .int 0, .int 0, .int 0, .int 0, .int 0, .int 0, .int 0, .ref sz, .ref (sz + 1), .ref (sz + 2), .ref (sz + 5), .null, .null])), (sz, .inl (G 3, 8, .inr (.inr (.inr (.inr (fun _ => none))))))] ++ (((([] ++ wsX0 G (sz + 1) (sz + 2)) ++ wsX2 G (sz + 2) (sz + 3)) ++ wsX2 G (sz + 5) (sz + 6)) ++ wsX8 G (sz + 8) (sz + 9))) H := hP
  have hD : va_D (kF b sz) ([(b, .inr (9, [.int 0, .int 0, .int 0, .int 0, .int 0, .int 0, .int 0, .int 0, .int 0, .int 0, .int 0, .int 0, .ref sz, .ref (sz + 1), .ref (sz + 2), .ref (sz + 5), .null, .null])), (sz, .inl (G 3, 8, .inr (.inr (.inr (.inr (fun _ => none))))))] ++ (((([] ++ wsX0 G (sz + 1) (sz + 2)) ++ wsX2 G (sz + 2) (sz + 3)) ++ wsX2 G (sz + 5) (sz + 6)) ++ wsX8 G (sz + 8) (sz + 9))) := hD
  refine kd_put (h := sz + 12) (tag := 9) (i := 16) (N := 18) (T := TX9) (ty0 := tyX9) (ty := .object "LayeredChute$Spots") (fs := [.int 0, .int 0, .int 0, .int 0, .int 0, .int 0, .int 0, .int 0, .int 0, .int 0, .int 0, .int 0, .ref sz, .ref (sz + 1), .ref (sz + 2), .ref (sz + 5), .null, .null]) (v := .ref (sz + 8)) X hP hD hS hz rfl in_X9 tyX9_ok nmX9 rfl (by decide) t_235 rfl (by decide +kernel) rfl rfl (Nat.le_of_ble_eq_true rfl) dX9_init_54 (fun H locs hz hP hD hS => ?_)
  have hz : H.size = sz + 12 := hz
  have hP : va_P D vwCl ([(b, .inr (9, [.int 0, .int 0, .int 0, .int 0, .int 0, .int 0, .int 0, .int 0, .int 0, .int 0, .int 0, .int 0, .ref sz, .ref (sz + 1), .ref (sz + 2), .ref (sz + 5), .ref (sz + 8), .null])), (sz, .inl (G 3, 8, .inr (.inr (.inr (.inr (fun _ => none))))))] ++ (((([] ++ wsX0 G (sz + 1) (sz + 2)) ++ wsX2 G (sz + 2) (sz + 3)) ++ wsX2 G (sz + 5) (sz + 6)) ++ wsX8 G (sz + 8) (sz + 9))) H := hP
  have hD : va_D (kF b sz) ([(b, .inr (9, [.int 0, .int 0, .int 0, .int 0, .int 0, .int 0, .int 0, .int 0, .int 0, .int 0, .int 0, .int 0, .ref sz, .ref (sz + 1), .ref (sz + 2), .ref (sz + 5), .ref (sz + 8), .null])), (sz, .inl (G 3, 8, .inr (.inr (.inr (.inr (fun _ => none))))))] ++ (((([] ++ wsX0 G (sz + 1) (sz + 2)) ++ wsX2 G (sz + 2) (sz + 3)) ++ wsX2 G (sz + 5) (sz + 6)) ++ wsX8 G (sz + 8) (sz + 9))) := hD
  refine lv_aload_n X.1 X.2.1 dX9_init_57 rfl (lv_at hl 0 rfl) ?_
  refine kd_make (h := sz + 12) (h1 := sz + 14) (tag := 1) (n := 1) (cells1 := 14) (slots1 := 205) (fs := fsX1) X hP hD hS hz rfl rfl in_X1 tyX1_ok fr_X1 t_180 t_181 t_8 (c_X1_init l D G (sz + 12) (sz + 13)) rfl rfl ⟨by decide +kernel, by decide +kernel, by decide +kernel⟩ t_183 t_184 (Or.inr ⟨RX10, by decide +kernel⟩) ⟨rfl, rfl⟩ ⟨by decide, by decide⟩ hl.1 (Nat.le_of_ble_eq_true rfl) rfl rfl ⟨by decide, by decide⟩ dX9_init_58 dX9_init_61 dX9_init_62 (fun H locs hz hP hD hL hS => ?_)
  have hz : H.size = sz + 14 := hz
  have hP : va_P D vwCl ([(b, .inr (9, [.int 0, .int 0, .int 0, .int 0, .int 0, .int 0, .int 0, .int 0, .int 0, .int 0, .int 0, .int 0, .ref sz, .ref (sz + 1), .ref (sz + 2), .ref (sz + 5), .ref (sz + 8), .null])), (sz, .inl (G 3, 8, .inr (.inr (.inr (.inr (fun _ => none))))))] ++ ((((([] ++ wsX0 G (sz + 1) (sz + 2)) ++ wsX2 G (sz + 2) (sz + 3)) ++ wsX2 G (sz + 5) (sz + 6)) ++ wsX8 G (sz + 8) (sz + 9)) ++ wsX1 G (sz + 12) (sz + 13))) H := hP
  have hD : va_D (kF b sz) ([(b, .inr (9, [.int 0, .int 0, .int 0, .int 0, .int 0, .int 0, .int 0, .int 0, .int 0, .int 0, .int 0, .int 0, .ref sz, .ref (sz + 1), .ref (sz + 2), .ref (sz + 5), .ref (sz + 8), .null])), (sz, .inl (G 3, 8, .inr (.inr (.inr (.inr (fun _ => none))))))] ++ ((((([] ++ wsX0 G (sz + 1) (sz + 2)) ++ wsX2 G (sz + 2) (sz + 3)) ++ wsX2 G (sz + 5) (sz + 6)) ++ wsX8 G (sz + 8) (sz + 9)) ++ wsX1 G (sz + 12) (sz + 13))) := hD
  refine kd_put (h := sz + 14) (tag := 9) (i := 17) (N := 18) (T := TX9) (ty0 := tyX9) (ty := .object "LayeredChute$EventLog") (fs := [.int 0, .int 0, .int 0, .int 0, .int 0, .int 0, .int 0, .int 0, .int 0, .int 0, .int 0, .int 0, .ref sz, .ref (sz + 1), .ref (sz + 2), .ref (sz + 5), .ref (sz + 8), .null]) (v := .ref (sz + 12)) X hP hD hS hz rfl in_X9 tyX9_ok nmX9 rfl (by decide) t_238 rfl (by decide +kernel) rfl rfl (Nat.le_of_ble_eq_true rfl) dX9_init_65 (fun H locs hz hP hD hS => ?_)
  have hz : H.size = sz + 14 := hz
  have hP : va_P D vwCl ([(b, .inr (9, [.int 0, .int 0, .int 0, .int 0, .int 0, .int 0, .int 0, .int 0, .int 0, .int 0, .int 0, .int 0, .ref sz, .ref (sz + 1), .ref (sz + 2), .ref (sz + 5), .ref (sz + 8), .ref (sz + 12)])), (sz, .inl (G 3, 8, .inr (.inr (.inr (.inr (fun _ => none))))))] ++ ((((([] ++ wsX0 G (sz + 1) (sz + 2)) ++ wsX2 G (sz + 2) (sz + 3)) ++ wsX2 G (sz + 5) (sz + 6)) ++ wsX8 G (sz + 8) (sz + 9)) ++ wsX1 G (sz + 12) (sz + 13))) H := hP
  have hD : va_D (kF b sz) ([(b, .inr (9, [.int 0, .int 0, .int 0, .int 0, .int 0, .int 0, .int 0, .int 0, .int 0, .int 0, .int 0, .int 0, .ref sz, .ref (sz + 1), .ref (sz + 2), .ref (sz + 5), .ref (sz + 8), .ref (sz + 12)])), (sz, .inl (G 3, 8, .inr (.inr (.inr (.inr (fun _ => none))))))] ++ ((((([] ++ wsX0 G (sz + 1) (sz + 2)) ++ wsX2 G (sz + 2) (sz + 3)) ++ wsX2 G (sz + 5) (sz + 6)) ++ wsX8 G (sz + 8) (sz + 9)) ++ wsX1 G (sz + 12) (sz + 13))) := hD
  refine lv_iconst (v := 0) X.1 X.2.1 dX9_init_68 (by decide) ?_
  refine lv_istore_n (lv' := [(1, .int 0), (0, .ref b)]) X.1 X.2.1 dX9_init_69 rfl hl (by decide) rfl (fun ls hl => ?_)
  refine lv_iload_n X.1 X.2.1 dX9_init_70 rfl (lv_at hl 0 rfl) ?_
  refine lv_bipush (v := 8) X.1 X.2.1 dX9_init_71 (by decide) ?_
  refine lv_icmp_ge (tgt := 95) X.1 X.2.1 dX9_init_73 (by decide) (fun c9 => absurd c9 (by decide)) (fun _ => ?_)
  refine lv_aload_n X.1 X.2.1 dX9_init_76 rfl (lv_at hl 1 rfl) ?_
  refine kd_get (tag := 9) (i := 12) (N := 18) (T := TX9) (fs := [.int 0, .int 0, .int 0, .int 0, .int 0, .int 0, .int 0, .int 0, .int 0, .int 0, .int 0, .int 0, .ref sz, .ref (sz + 1), .ref (sz + 2), .ref (sz + 5), .ref (sz + 8), .ref (sz + 12)]) (v := .ref sz) X hP rfl in_X9 rfl (by decide) t_224 rfl dX9_init_77 ?_
  refine lv_iload_n X.1 X.2.1 dX9_init_80 rfl (lv_at hl 0 rfl) ?_
  refine kd_make (h := sz + 14) (h1 := sz + 15) (tag := 0) (n := 0) (cells1 := 15) (slots1 := 213) (fs := fsX0) X hP hD hS hz rfl rfl in_X0 tyX0_ok fr_X0 t_87 t_89 t_5 (c_X0_init l D G (sz + 14) (sz + 15)) rfl rfl ⟨by decide +kernel, by decide +kernel, by decide +kernel⟩ t_91 t_92 (Or.inr ⟨RX10, by decide +kernel⟩) ⟨rfl, rfl⟩ ⟨by decide, by decide⟩ hl.1 (Nat.le_of_ble_eq_true rfl) rfl rfl ⟨by decide, by decide⟩ dX9_init_81 dX9_init_84 dX9_init_85 (fun H locs hz hP hD hL hS => ?_)
  have hz : H.size = sz + 15 := hz
  have hP : va_P D vwCl ([(b, .inr (9, [.int 0, .int 0, .int 0, .int 0, .int 0, .int 0, .int 0, .int 0, .int 0, .int 0, .int 0, .int 0, .ref sz, .ref (sz + 1), .ref (sz + 2), .ref (sz + 5), .ref (sz + 8), .ref (sz + 12)])), (sz, .inl (G 3, 8, .inr (.inr (.inr (.inr (fun _ => none))))))] ++ (((((([] ++ wsX0 G (sz + 1) (sz + 2)) ++ wsX2 G (sz + 2) (sz + 3)) ++ wsX2 G (sz + 5) (sz + 6)) ++ wsX8 G (sz + 8) (sz + 9)) ++ wsX1 G (sz + 12) (sz + 13)) ++ wsX0 G (sz + 14) (sz + 15))) H := hP
  have hD : va_D (kF b sz) ([(b, .inr (9, [.int 0, .int 0, .int 0, .int 0, .int 0, .int 0, .int 0, .int 0, .int 0, .int 0, .int 0, .int 0, .ref sz, .ref (sz + 1), .ref (sz + 2), .ref (sz + 5), .ref (sz + 8), .ref (sz + 12)])), (sz, .inl (G 3, 8, .inr (.inr (.inr (.inr (fun _ => none))))))] ++ (((((([] ++ wsX0 G (sz + 1) (sz + 2)) ++ wsX2 G (sz + 2) (sz + 3)) ++ wsX2 G (sz + 5) (sz + 6)) ++ wsX8 G (sz + 8) (sz + 9)) ++ wsX1 G (sz + 12) (sz + 13)) ++ wsX0 G (sz + 14) (sz + 15))) := hD
  refine kd_ast (h := sz + 15) (t0 := 3) (q0 := 1) (ci := 0) (n := 8) (j := 0) (f := (fun _ => none)) (r := (RX0, TX0, 8)) X hP hD hL hS hz rfl rfl rfl rfl (k_vin (N := 8) ⟨by decide, by decide⟩ (by decide)) (by decide) dX9_init_88 (fun H locs hz hP hD hS => ?_)
  have hz : H.size = sz + 15 := hz
  have hP : va_P D vwCl ([(b, .inr (9, [.int 0, .int 0, .int 0, .int 0, .int 0, .int 0, .int 0, .int 0, .int 0, .int 0, .int 0, .int 0, .ref sz, .ref (sz + 1), .ref (sz + 2), .ref (sz + 5), .ref (sz + 8), .ref (sz + 12)])), (sz, .inl (G 3, 8, .inr (.inr (.inr (.inr (va_up (fun _ => none) 0 (some (sz + 14))))))))] ++ (((((([] ++ wsX0 G (sz + 1) (sz + 2)) ++ wsX2 G (sz + 2) (sz + 3)) ++ wsX2 G (sz + 5) (sz + 6)) ++ wsX8 G (sz + 8) (sz + 9)) ++ wsX1 G (sz + 12) (sz + 13)) ++ wsX0 G (sz + 14) (sz + 15))) H := hP
  have hD : va_D (kF b sz) ([(b, .inr (9, [.int 0, .int 0, .int 0, .int 0, .int 0, .int 0, .int 0, .int 0, .int 0, .int 0, .int 0, .int 0, .ref sz, .ref (sz + 1), .ref (sz + 2), .ref (sz + 5), .ref (sz + 8), .ref (sz + 12)])), (sz, .inl (G 3, 8, .inr (.inr (.inr (.inr (va_up (fun _ => none) 0 (some (sz + 14))))))))] ++ (((((([] ++ wsX0 G (sz + 1) (sz + 2)) ++ wsX2 G (sz + 2) (sz + 3)) ++ wsX2 G (sz + 5) (sz + 6)) ++ wsX8 G (sz + 8) (sz + 9)) ++ wsX1 G (sz + 12) (sz + 13)) ++ wsX0 G (sz + 14) (sz + 15))) := hD
  refine lv_iinc (v := 1) (lv' := [(1, .int 1), (0, .ref b)]) X.1 X.2.1 dX9_init_89 hl (k := 0) rfl (by decide) (by decide) rfl (fun ls hl => ?_)
  refine lv_goto (tgt := 70) X.1 X.2.1 dX9_init_92 (by decide) ?_
  refine lv_iload_n X.1 X.2.1 dX9_init_70 rfl (lv_at hl 0 rfl) ?_
  refine lv_bipush (v := 8) X.1 X.2.1 dX9_init_71 (by decide) ?_
  refine lv_icmp_ge (tgt := 95) X.1 X.2.1 dX9_init_73 (by decide) (fun c9 => absurd c9 (by decide)) (fun _ => ?_)
  refine lv_aload_n X.1 X.2.1 dX9_init_76 rfl (lv_at hl 1 rfl) ?_
  refine kd_get (tag := 9) (i := 12) (N := 18) (T := TX9) (fs := [.int 0, .int 0, .int 0, .int 0, .int 0, .int 0, .int 0, .int 0, .int 0, .int 0, .int 0, .int 0, .ref sz, .ref (sz + 1), .ref (sz + 2), .ref (sz + 5), .ref (sz + 8), .ref (sz + 12)]) (v := .ref sz) X hP rfl in_X9 rfl (by decide) t_224 rfl dX9_init_77 ?_
  refine lv_iload_n X.1 X.2.1 dX9_init_80 rfl (lv_at hl 0 rfl) ?_
  refine kd_make (h := sz + 15) (h1 := sz + 16) (tag := 0) (n := 0) (cells1 := 16) (slots1 := 221) (fs := fsX0) X hP hD hS hz rfl rfl in_X0 tyX0_ok fr_X0 t_87 t_89 t_5 (c_X0_init l D G (sz + 15) (sz + 16)) rfl rfl ⟨by decide +kernel, by decide +kernel, by decide +kernel⟩ t_91 t_92 (Or.inr ⟨RX10, by decide +kernel⟩) ⟨rfl, rfl⟩ ⟨by decide, by decide⟩ hl.1 (Nat.le_of_ble_eq_true rfl) rfl rfl ⟨by decide, by decide⟩ dX9_init_81 dX9_init_84 dX9_init_85 (fun H locs hz hP hD hL hS => ?_)
  have hz : H.size = sz + 16 := hz
  have hP : va_P D vwCl ([(b, .inr (9, [.int 0, .int 0, .int 0, .int 0, .int 0, .int 0, .int 0, .int 0, .int 0, .int 0, .int 0, .int 0, .ref sz, .ref (sz + 1), .ref (sz + 2), .ref (sz + 5), .ref (sz + 8), .ref (sz + 12)])), (sz, .inl (G 3, 8, .inr (.inr (.inr (.inr (va_up (fun _ => none) 0 (some (sz + 14))))))))] ++ ((((((([] ++ wsX0 G (sz + 1) (sz + 2)) ++ wsX2 G (sz + 2) (sz + 3)) ++ wsX2 G (sz + 5) (sz + 6)) ++ wsX8 G (sz + 8) (sz + 9)) ++ wsX1 G (sz + 12) (sz + 13)) ++ wsX0 G (sz + 14) (sz + 15)) ++ wsX0 G (sz + 15) (sz + 16))) H := hP
  have hD : va_D (kF b sz) ([(b, .inr (9, [.int 0, .int 0, .int 0, .int 0, .int 0, .int 0, .int 0, .int 0, .int 0, .int 0, .int 0, .int 0, .ref sz, .ref (sz + 1), .ref (sz + 2), .ref (sz + 5), .ref (sz + 8), .ref (sz + 12)])), (sz, .inl (G 3, 8, .inr (.inr (.inr (.inr (va_up (fun _ => none) 0 (some (sz + 14))))))))] ++ ((((((([] ++ wsX0 G (sz + 1) (sz + 2)) ++ wsX2 G (sz + 2) (sz + 3)) ++ wsX2 G (sz + 5) (sz + 6)) ++ wsX8 G (sz + 8) (sz + 9)) ++ wsX1 G (sz + 12) (sz + 13)) ++ wsX0 G (sz + 14) (sz + 15)) ++ wsX0 G (sz + 15) (sz + 16))) := hD
  refine kd_ast (h := sz + 16) (t0 := 3) (q0 := 1) (ci := 0) (n := 8) (j := 1) (f := (va_up (fun _ => none) 0 (some (sz + 14)))) (r := (RX0, TX0, 8)) X hP hD hL hS hz rfl rfl rfl rfl (k_vin (N := 8) ⟨by decide, by decide⟩ (by decide)) (by decide) dX9_init_88 (fun H locs hz hP hD hS => ?_)
  have hz : H.size = sz + 16 := hz
  have hP : va_P D vwCl ([(b, .inr (9, [.int 0, .int 0, .int 0, .int 0, .int 0, .int 0, .int 0, .int 0, .int 0, .int 0, .int 0, .int 0, .ref sz, .ref (sz + 1), .ref (sz + 2), .ref (sz + 5), .ref (sz + 8), .ref (sz + 12)])), (sz, .inl (G 3, 8, .inr (.inr (.inr (.inr (va_up (va_up (fun _ => none) 0 (some (sz + 14))) 1 (some (sz + 15))))))))] ++ ((((((([] ++ wsX0 G (sz + 1) (sz + 2)) ++ wsX2 G (sz + 2) (sz + 3)) ++ wsX2 G (sz + 5) (sz + 6)) ++ wsX8 G (sz + 8) (sz + 9)) ++ wsX1 G (sz + 12) (sz + 13)) ++ wsX0 G (sz + 14) (sz + 15)) ++ wsX0 G (sz + 15) (sz + 16))) H := hP
  have hD : va_D (kF b sz) ([(b, .inr (9, [.int 0, .int 0, .int 0, .int 0, .int 0, .int 0, .int 0, .int 0, .int 0, .int 0, .int 0, .int 0, .ref sz, .ref (sz + 1), .ref (sz + 2), .ref (sz + 5), .ref (sz + 8), .ref (sz + 12)])), (sz, .inl (G 3, 8, .inr (.inr (.inr (.inr (va_up (va_up (fun _ => none) 0 (some (sz + 14))) 1 (some (sz + 15))))))))] ++ ((((((([] ++ wsX0 G (sz + 1) (sz + 2)) ++ wsX2 G (sz + 2) (sz + 3)) ++ wsX2 G (sz + 5) (sz + 6)) ++ wsX8 G (sz + 8) (sz + 9)) ++ wsX1 G (sz + 12) (sz + 13)) ++ wsX0 G (sz + 14) (sz + 15)) ++ wsX0 G (sz + 15) (sz + 16))) := hD
  refine lv_iinc (v := 2) (lv' := [(1, .int 2), (0, .ref b)]) X.1 X.2.1 dX9_init_89 hl (k := 0) rfl (by decide) (by decide) rfl (fun ls hl => ?_)
  refine lv_goto (tgt := 70) X.1 X.2.1 dX9_init_92 (by decide) ?_
  refine lv_iload_n X.1 X.2.1 dX9_init_70 rfl (lv_at hl 0 rfl) ?_
  refine lv_bipush (v := 8) X.1 X.2.1 dX9_init_71 (by decide) ?_
  refine lv_icmp_ge (tgt := 95) X.1 X.2.1 dX9_init_73 (by decide) (fun c9 => absurd c9 (by decide)) (fun _ => ?_)
  refine lv_aload_n X.1 X.2.1 dX9_init_76 rfl (lv_at hl 1 rfl) ?_
  refine kd_get (tag := 9) (i := 12) (N := 18) (T := TX9) (fs := [.int 0, .int 0, .int 0, .int 0, .int 0, .int 0, .int 0, .int 0, .int 0, .int 0, .int 0, .int 0, .ref sz, .ref (sz + 1), .ref (sz + 2), .ref (sz + 5), .ref (sz + 8), .ref (sz + 12)]) (v := .ref sz) X hP rfl in_X9 rfl (by decide) t_224 rfl dX9_init_77 ?_
  refine lv_iload_n X.1 X.2.1 dX9_init_80 rfl (lv_at hl 0 rfl) ?_
  refine kd_make (h := sz + 16) (h1 := sz + 17) (tag := 0) (n := 0) (cells1 := 17) (slots1 := 229) (fs := fsX0) X hP hD hS hz rfl rfl in_X0 tyX0_ok fr_X0 t_87 t_89 t_5 (c_X0_init l D G (sz + 16) (sz + 17)) rfl rfl ⟨by decide +kernel, by decide +kernel, by decide +kernel⟩ t_91 t_92 (Or.inr ⟨RX10, by decide +kernel⟩) ⟨rfl, rfl⟩ ⟨by decide, by decide⟩ hl.1 (Nat.le_of_ble_eq_true rfl) rfl rfl ⟨by decide, by decide⟩ dX9_init_81 dX9_init_84 dX9_init_85 (fun H locs hz hP hD hL hS => ?_)
  have hz : H.size = sz + 17 := hz
  have hP : va_P D vwCl ([(b, .inr (9, [.int 0, .int 0, .int 0, .int 0, .int 0, .int 0, .int 0, .int 0, .int 0, .int 0, .int 0, .int 0, .ref sz, .ref (sz + 1), .ref (sz + 2), .ref (sz + 5), .ref (sz + 8), .ref (sz + 12)])), (sz, .inl (G 3, 8, .inr (.inr (.inr (.inr (va_up (va_up (fun _ => none) 0 (some (sz + 14))) 1 (some (sz + 15))))))))] ++ (((((((([] ++ wsX0 G (sz + 1) (sz + 2)) ++ wsX2 G (sz + 2) (sz + 3)) ++ wsX2 G (sz + 5) (sz + 6)) ++ wsX8 G (sz + 8) (sz + 9)) ++ wsX1 G (sz + 12) (sz + 13)) ++ wsX0 G (sz + 14) (sz + 15)) ++ wsX0 G (sz + 15) (sz + 16)) ++ wsX0 G (sz + 16) (sz + 17))) H := hP
  have hD : va_D (kF b sz) ([(b, .inr (9, [.int 0, .int 0, .int 0, .int 0, .int 0, .int 0, .int 0, .int 0, .int 0, .int 0, .int 0, .int 0, .ref sz, .ref (sz + 1), .ref (sz + 2), .ref (sz + 5), .ref (sz + 8), .ref (sz + 12)])), (sz, .inl (G 3, 8, .inr (.inr (.inr (.inr (va_up (va_up (fun _ => none) 0 (some (sz + 14))) 1 (some (sz + 15))))))))] ++ (((((((([] ++ wsX0 G (sz + 1) (sz + 2)) ++ wsX2 G (sz + 2) (sz + 3)) ++ wsX2 G (sz + 5) (sz + 6)) ++ wsX8 G (sz + 8) (sz + 9)) ++ wsX1 G (sz + 12) (sz + 13)) ++ wsX0 G (sz + 14) (sz + 15)) ++ wsX0 G (sz + 15) (sz + 16)) ++ wsX0 G (sz + 16) (sz + 17))) := hD
  refine kd_ast (h := sz + 17) (t0 := 3) (q0 := 1) (ci := 0) (n := 8) (j := 2) (f := (va_up (va_up (fun _ => none) 0 (some (sz + 14))) 1 (some (sz + 15)))) (r := (RX0, TX0, 8)) X hP hD hL hS hz rfl rfl rfl rfl (k_vin (N := 8) ⟨by decide, by decide⟩ (by decide)) (by decide) dX9_init_88 (fun H locs hz hP hD hS => ?_)
  have hz : H.size = sz + 17 := hz
  have hP : va_P D vwCl ([(b, .inr (9, [.int 0, .int 0, .int 0, .int 0, .int 0, .int 0, .int 0, .int 0, .int 0, .int 0, .int 0, .int 0, .ref sz, .ref (sz + 1), .ref (sz + 2), .ref (sz + 5), .ref (sz + 8), .ref (sz + 12)])), (sz, .inl (G 3, 8, .inr (.inr (.inr (.inr (va_up (va_up (va_up (fun _ => none) 0 (some (sz + 14))) 1 (some (sz + 15))) 2 (some (sz + 16))))))))] ++ (((((((([] ++ wsX0 G (sz + 1) (sz + 2)) ++ wsX2 G (sz + 2) (sz + 3)) ++ wsX2 G (sz + 5) (sz + 6)) ++ wsX8 G (sz + 8) (sz + 9)) ++ wsX1 G (sz + 12) (sz + 13)) ++ wsX0 G (sz + 14) (sz + 15)) ++ wsX0 G (sz + 15) (sz + 16)) ++ wsX0 G (sz + 16) (sz + 17))) H := hP
  have hD : va_D (kF b sz) ([(b, .inr (9, [.int 0, .int 0, .int 0, .int 0, .int 0, .int 0, .int 0, .int 0, .int 0, .int 0, .int 0, .int 0, .ref sz, .ref (sz + 1), .ref (sz + 2), .ref (sz + 5), .ref (sz + 8), .ref (sz + 12)])), (sz, .inl (G 3, 8, .inr (.inr (.inr (.inr (va_up (va_up (va_up (fun _ => none) 0 (some (sz + 14))) 1 (some (sz + 15))) 2 (some (sz + 16))))))))] ++ (((((((([] ++ wsX0 G (sz + 1) (sz + 2)) ++ wsX2 G (sz + 2) (sz + 3)) ++ wsX2 G (sz + 5) (sz + 6)) ++ wsX8 G (sz + 8) (sz + 9)) ++ wsX1 G (sz + 12) (sz + 13)) ++ wsX0 G (sz + 14) (sz + 15)) ++ wsX0 G (sz + 15) (sz + 16)) ++ wsX0 G (sz + 16) (sz + 17))) := hD
  refine lv_iinc (v := 3) (lv' := [(1, .int 3), (0, .ref b)]) X.1 X.2.1 dX9_init_89 hl (k := 0) rfl (by decide) (by decide) rfl (fun ls hl => ?_)
  refine lv_goto (tgt := 70) X.1 X.2.1 dX9_init_92 (by decide) ?_
  refine lv_iload_n X.1 X.2.1 dX9_init_70 rfl (lv_at hl 0 rfl) ?_
  refine lv_bipush (v := 8) X.1 X.2.1 dX9_init_71 (by decide) ?_
  refine lv_icmp_ge (tgt := 95) X.1 X.2.1 dX9_init_73 (by decide) (fun c9 => absurd c9 (by decide)) (fun _ => ?_)
  refine lv_aload_n X.1 X.2.1 dX9_init_76 rfl (lv_at hl 1 rfl) ?_
  refine kd_get (tag := 9) (i := 12) (N := 18) (T := TX9) (fs := [.int 0, .int 0, .int 0, .int 0, .int 0, .int 0, .int 0, .int 0, .int 0, .int 0, .int 0, .int 0, .ref sz, .ref (sz + 1), .ref (sz + 2), .ref (sz + 5), .ref (sz + 8), .ref (sz + 12)]) (v := .ref sz) X hP rfl in_X9 rfl (by decide) t_224 rfl dX9_init_77 ?_
  refine lv_iload_n X.1 X.2.1 dX9_init_80 rfl (lv_at hl 0 rfl) ?_
  refine kd_make (h := sz + 17) (h1 := sz + 18) (tag := 0) (n := 0) (cells1 := 18) (slots1 := 237) (fs := fsX0) X hP hD hS hz rfl rfl in_X0 tyX0_ok fr_X0 t_87 t_89 t_5 (c_X0_init l D G (sz + 17) (sz + 18)) rfl rfl ⟨by decide +kernel, by decide +kernel, by decide +kernel⟩ t_91 t_92 (Or.inr ⟨RX10, by decide +kernel⟩) ⟨rfl, rfl⟩ ⟨by decide, by decide⟩ hl.1 (Nat.le_of_ble_eq_true rfl) rfl rfl ⟨by decide, by decide⟩ dX9_init_81 dX9_init_84 dX9_init_85 (fun H locs hz hP hD hL hS => ?_)
  have hz : H.size = sz + 18 := hz
  have hP : va_P D vwCl ([(b, .inr (9, [.int 0, .int 0, .int 0, .int 0, .int 0, .int 0, .int 0, .int 0, .int 0, .int 0, .int 0, .int 0, .ref sz, .ref (sz + 1), .ref (sz + 2), .ref (sz + 5), .ref (sz + 8), .ref (sz + 12)])), (sz, .inl (G 3, 8, .inr (.inr (.inr (.inr (va_up (va_up (va_up (fun _ => none) 0 (some (sz + 14))) 1 (some (sz + 15))) 2 (some (sz + 16))))))))] ++ ((((((((([] ++ wsX0 G (sz + 1) (sz + 2)) ++ wsX2 G (sz + 2) (sz + 3)) ++ wsX2 G (sz + 5) (sz + 6)) ++ wsX8 G (sz + 8) (sz + 9)) ++ wsX1 G (sz + 12) (sz + 13)) ++ wsX0 G (sz + 14) (sz + 15)) ++ wsX0 G (sz + 15) (sz + 16)) ++ wsX0 G (sz + 16) (sz + 17)) ++ wsX0 G (sz + 17) (sz + 18))) H := hP
  have hD : va_D (kF b sz) ([(b, .inr (9, [.int 0, .int 0, .int 0, .int 0, .int 0, .int 0, .int 0, .int 0, .int 0, .int 0, .int 0, .int 0, .ref sz, .ref (sz + 1), .ref (sz + 2), .ref (sz + 5), .ref (sz + 8), .ref (sz + 12)])), (sz, .inl (G 3, 8, .inr (.inr (.inr (.inr (va_up (va_up (va_up (fun _ => none) 0 (some (sz + 14))) 1 (some (sz + 15))) 2 (some (sz + 16))))))))] ++ ((((((((([] ++ wsX0 G (sz + 1) (sz + 2)) ++ wsX2 G (sz + 2) (sz + 3)) ++ wsX2 G (sz + 5) (sz + 6)) ++ wsX8 G (sz + 8) (sz + 9)) ++ wsX1 G (sz + 12) (sz + 13)) ++ wsX0 G (sz + 14) (sz + 15)) ++ wsX0 G (sz + 15) (sz + 16)) ++ wsX0 G (sz + 16) (sz + 17)) ++ wsX0 G (sz + 17) (sz + 18))) := hD
  refine kd_ast (h := sz + 18) (t0 := 3) (q0 := 1) (ci := 0) (n := 8) (j := 3) (f := (va_up (va_up (va_up (fun _ => none) 0 (some (sz + 14))) 1 (some (sz + 15))) 2 (some (sz + 16)))) (r := (RX0, TX0, 8)) X hP hD hL hS hz rfl rfl rfl rfl (k_vin (N := 8) ⟨by decide, by decide⟩ (by decide)) (by decide) dX9_init_88 (fun H locs hz hP hD hS => ?_)
  have hz : H.size = sz + 18 := hz
  have hP : va_P D vwCl ([(b, .inr (9, [.int 0, .int 0, .int 0, .int 0, .int 0, .int 0, .int 0, .int 0, .int 0, .int 0, .int 0, .int 0, .ref sz, .ref (sz + 1), .ref (sz + 2), .ref (sz + 5), .ref (sz + 8), .ref (sz + 12)])), (sz, .inl (G 3, 8, .inr (.inr (.inr (.inr (va_up (va_up (va_up (va_up (fun _ => none) 0 (some (sz + 14))) 1 (some (sz + 15))) 2 (some (sz + 16))) 3 (some (sz + 17))))))))] ++ ((((((((([] ++ wsX0 G (sz + 1) (sz + 2)) ++ wsX2 G (sz + 2) (sz + 3)) ++ wsX2 G (sz + 5) (sz + 6)) ++ wsX8 G (sz + 8) (sz + 9)) ++ wsX1 G (sz + 12) (sz + 13)) ++ wsX0 G (sz + 14) (sz + 15)) ++ wsX0 G (sz + 15) (sz + 16)) ++ wsX0 G (sz + 16) (sz + 17)) ++ wsX0 G (sz + 17) (sz + 18))) H := hP
  have hD : va_D (kF b sz) ([(b, .inr (9, [.int 0, .int 0, .int 0, .int 0, .int 0, .int 0, .int 0, .int 0, .int 0, .int 0, .int 0, .int 0, .ref sz, .ref (sz + 1), .ref (sz + 2), .ref (sz + 5), .ref (sz + 8), .ref (sz + 12)])), (sz, .inl (G 3, 8, .inr (.inr (.inr (.inr (va_up (va_up (va_up (va_up (fun _ => none) 0 (some (sz + 14))) 1 (some (sz + 15))) 2 (some (sz + 16))) 3 (some (sz + 17))))))))] ++ ((((((((([] ++ wsX0 G (sz + 1) (sz + 2)) ++ wsX2 G (sz + 2) (sz + 3)) ++ wsX2 G (sz + 5) (sz + 6)) ++ wsX8 G (sz + 8) (sz + 9)) ++ wsX1 G (sz + 12) (sz + 13)) ++ wsX0 G (sz + 14) (sz + 15)) ++ wsX0 G (sz + 15) (sz + 16)) ++ wsX0 G (sz + 16) (sz + 17)) ++ wsX0 G (sz + 17) (sz + 18))) := hD
  refine lv_iinc (v := 4) (lv' := [(1, .int 4), (0, .ref b)]) X.1 X.2.1 dX9_init_89 hl (k := 0) rfl (by decide) (by decide) rfl (fun ls hl => ?_)
  refine lv_goto (tgt := 70) X.1 X.2.1 dX9_init_92 (by decide) ?_
  refine lv_iload_n X.1 X.2.1 dX9_init_70 rfl (lv_at hl 0 rfl) ?_
  refine lv_bipush (v := 8) X.1 X.2.1 dX9_init_71 (by decide) ?_
  refine lv_icmp_ge (tgt := 95) X.1 X.2.1 dX9_init_73 (by decide) (fun c9 => absurd c9 (by decide)) (fun _ => ?_)
  refine lv_aload_n X.1 X.2.1 dX9_init_76 rfl (lv_at hl 1 rfl) ?_
  refine kd_get (tag := 9) (i := 12) (N := 18) (T := TX9) (fs := [.int 0, .int 0, .int 0, .int 0, .int 0, .int 0, .int 0, .int 0, .int 0, .int 0, .int 0, .int 0, .ref sz, .ref (sz + 1), .ref (sz + 2), .ref (sz + 5), .ref (sz + 8), .ref (sz + 12)]) (v := .ref sz) X hP rfl in_X9 rfl (by decide) t_224 rfl dX9_init_77 ?_
  refine lv_iload_n X.1 X.2.1 dX9_init_80 rfl (lv_at hl 0 rfl) ?_
  refine kd_make (h := sz + 18) (h1 := sz + 19) (tag := 0) (n := 0) (cells1 := 19) (slots1 := 245) (fs := fsX0) X hP hD hS hz rfl rfl in_X0 tyX0_ok fr_X0 t_87 t_89 t_5 (c_X0_init l D G (sz + 18) (sz + 19)) rfl rfl ⟨by decide +kernel, by decide +kernel, by decide +kernel⟩ t_91 t_92 (Or.inr ⟨RX10, by decide +kernel⟩) ⟨rfl, rfl⟩ ⟨by decide, by decide⟩ hl.1 (Nat.le_of_ble_eq_true rfl) rfl rfl ⟨by decide, by decide⟩ dX9_init_81 dX9_init_84 dX9_init_85 (fun H locs hz hP hD hL hS => ?_)
  have hz : H.size = sz + 19 := hz
  have hP : va_P D vwCl ([(b, .inr (9, [.int 0, .int 0, .int 0, .int 0, .int 0, .int 0, .int 0, .int 0, .int 0, .int 0, .int 0, .int 0, .ref sz, .ref (sz + 1), .ref (sz + 2), .ref (sz + 5), .ref (sz + 8), .ref (sz + 12)])), (sz, .inl (G 3, 8, .inr (.inr (.inr (.inr (va_up (va_up (va_up (va_up (fun _ => none) 0 (some (sz + 14))) 1 (some (sz + 15))) 2 (some (sz + 16))) 3 (some (sz + 17))))))))] ++ (((((((((([] ++ wsX0 G (sz + 1) (sz + 2)) ++ wsX2 G (sz + 2) (sz + 3)) ++ wsX2 G (sz + 5) (sz + 6)) ++ wsX8 G (sz + 8) (sz + 9)) ++ wsX1 G (sz + 12) (sz + 13)) ++ wsX0 G (sz + 14) (sz + 15)) ++ wsX0 G (sz + 15) (sz + 16)) ++ wsX0 G (sz + 16) (sz + 17)) ++ wsX0 G (sz + 17) (sz + 18)) ++ wsX0 G (sz + 18) (sz + 19))) H := hP
  have hD : va_D (kF b sz) ([(b, .inr (9, [.int 0, .int 0, .int 0, .int 0, .int 0, .int 0, .int 0, .int 0, .int 0, .int 0, .int 0, .int 0, .ref sz, .ref (sz + 1), .ref (sz + 2), .ref (sz + 5), .ref (sz + 8), .ref (sz + 12)])), (sz, .inl (G 3, 8, .inr (.inr (.inr (.inr (va_up (va_up (va_up (va_up (fun _ => none) 0 (some (sz + 14))) 1 (some (sz + 15))) 2 (some (sz + 16))) 3 (some (sz + 17))))))))] ++ (((((((((([] ++ wsX0 G (sz + 1) (sz + 2)) ++ wsX2 G (sz + 2) (sz + 3)) ++ wsX2 G (sz + 5) (sz + 6)) ++ wsX8 G (sz + 8) (sz + 9)) ++ wsX1 G (sz + 12) (sz + 13)) ++ wsX0 G (sz + 14) (sz + 15)) ++ wsX0 G (sz + 15) (sz + 16)) ++ wsX0 G (sz + 16) (sz + 17)) ++ wsX0 G (sz + 17) (sz + 18)) ++ wsX0 G (sz + 18) (sz + 19))) := hD
  refine kd_ast (h := sz + 19) (t0 := 3) (q0 := 1) (ci := 0) (n := 8) (j := 4) (f := (va_up (va_up (va_up (va_up (fun _ => none) 0 (some (sz + 14))) 1 (some (sz + 15))) 2 (some (sz + 16))) 3 (some (sz + 17)))) (r := (RX0, TX0, 8)) X hP hD hL hS hz rfl rfl rfl rfl (k_vin (N := 8) ⟨by decide, by decide⟩ (by decide)) (by decide) dX9_init_88 (fun H locs hz hP hD hS => ?_)
  have hz : H.size = sz + 19 := hz
  have hP : va_P D vwCl ([(b, .inr (9, [.int 0, .int 0, .int 0, .int 0, .int 0, .int 0, .int 0, .int 0, .int 0, .int 0, .int 0, .int 0, .ref sz, .ref (sz + 1), .ref (sz + 2), .ref (sz + 5), .ref (sz + 8), .ref (sz + 12)])), (sz, .inl (G 3, 8, .inr (.inr (.inr (.inr (va_up (va_up (va_up (va_up (va_up (fun _ => none) 0 (some (sz + 14))) 1 (some (sz + 15))) 2 (some (sz + 16))) 3 (some (sz + 17))) 4 (some (sz + 18))))))))] ++ (((((((((([] ++ wsX0 G (sz + 1) (sz + 2)) ++ wsX2 G (sz + 2) (sz + 3)) ++ wsX2 G (sz + 5) (sz + 6)) ++ wsX8 G (sz + 8) (sz + 9)) ++ wsX1 G (sz + 12) (sz + 13)) ++ wsX0 G (sz + 14) (sz + 15)) ++ wsX0 G (sz + 15) (sz + 16)) ++ wsX0 G (sz + 16) (sz + 17)) ++ wsX0 G (sz + 17) (sz + 18)) ++ wsX0 G (sz + 18) (sz + 19))) H := hP
  have hD : va_D (kF b sz) ([(b, .inr (9, [.int 0, .int 0, .int 0, .int 0, .int 0, .int 0, .int 0, .int 0, .int 0, .int 0, .int 0, .int 0, .ref sz, .ref (sz + 1), .ref (sz + 2), .ref (sz + 5), .ref (sz + 8), .ref (sz + 12)])), (sz, .inl (G 3, 8, .inr (.inr (.inr (.inr (va_up (va_up (va_up (va_up (va_up (fun _ => none) 0 (some (sz + 14))) 1 (some (sz + 15))) 2 (some (sz + 16))) 3 (some (sz + 17))) 4 (some (sz + 18))))))))] ++ (((((((((([] ++ wsX0 G (sz + 1) (sz + 2)) ++ wsX2 G (sz + 2) (sz + 3)) ++ wsX2 G (sz + 5) (sz + 6)) ++ wsX8 G (sz + 8) (sz + 9)) ++ wsX1 G (sz + 12) (sz + 13)) ++ wsX0 G (sz + 14) (sz + 15)) ++ wsX0 G (sz + 15) (sz + 16)) ++ wsX0 G (sz + 16) (sz + 17)) ++ wsX0 G (sz + 17) (sz + 18)) ++ wsX0 G (sz + 18) (sz + 19))) := hD
  refine lv_iinc (v := 5) (lv' := [(1, .int 5), (0, .ref b)]) X.1 X.2.1 dX9_init_89 hl (k := 0) rfl (by decide) (by decide) rfl (fun ls hl => ?_)
  refine lv_goto (tgt := 70) X.1 X.2.1 dX9_init_92 (by decide) ?_
  refine lv_iload_n X.1 X.2.1 dX9_init_70 rfl (lv_at hl 0 rfl) ?_
  refine lv_bipush (v := 8) X.1 X.2.1 dX9_init_71 (by decide) ?_
  refine lv_icmp_ge (tgt := 95) X.1 X.2.1 dX9_init_73 (by decide) (fun c9 => absurd c9 (by decide)) (fun _ => ?_)
  refine lv_aload_n X.1 X.2.1 dX9_init_76 rfl (lv_at hl 1 rfl) ?_
  refine kd_get (tag := 9) (i := 12) (N := 18) (T := TX9) (fs := [.int 0, .int 0, .int 0, .int 0, .int 0, .int 0, .int 0, .int 0, .int 0, .int 0, .int 0, .int 0, .ref sz, .ref (sz + 1), .ref (sz + 2), .ref (sz + 5), .ref (sz + 8), .ref (sz + 12)]) (v := .ref sz) X hP rfl in_X9 rfl (by decide) t_224 rfl dX9_init_77 ?_
  refine lv_iload_n X.1 X.2.1 dX9_init_80 rfl (lv_at hl 0 rfl) ?_
  refine kd_make (h := sz + 19) (h1 := sz + 20) (tag := 0) (n := 0) (cells1 := 20) (slots1 := 253) (fs := fsX0) X hP hD hS hz rfl rfl in_X0 tyX0_ok fr_X0 t_87 t_89 t_5 (c_X0_init l D G (sz + 19) (sz + 20)) rfl rfl ⟨by decide +kernel, by decide +kernel, by decide +kernel⟩ t_91 t_92 (Or.inr ⟨RX10, by decide +kernel⟩) ⟨rfl, rfl⟩ ⟨by decide, by decide⟩ hl.1 (Nat.le_of_ble_eq_true rfl) rfl rfl ⟨by decide, by decide⟩ dX9_init_81 dX9_init_84 dX9_init_85 (fun H locs hz hP hD hL hS => ?_)
  have hz : H.size = sz + 20 := hz
  have hP : va_P D vwCl ([(b, .inr (9, [.int 0, .int 0, .int 0, .int 0, .int 0, .int 0, .int 0, .int 0, .int 0, .int 0, .int 0, .int 0, .ref sz, .ref (sz + 1), .ref (sz + 2), .ref (sz + 5), .ref (sz + 8), .ref (sz + 12)])), (sz, .inl (G 3, 8, .inr (.inr (.inr (.inr (va_up (va_up (va_up (va_up (va_up (fun _ => none) 0 (some (sz + 14))) 1 (some (sz + 15))) 2 (some (sz + 16))) 3 (some (sz + 17))) 4 (some (sz + 18))))))))] ++ ((((((((((([] ++ wsX0 G (sz + 1) (sz + 2)) ++ wsX2 G (sz + 2) (sz + 3)) ++ wsX2 G (sz + 5) (sz + 6)) ++ wsX8 G (sz + 8) (sz + 9)) ++ wsX1 G (sz + 12) (sz + 13)) ++ wsX0 G (sz + 14) (sz + 15)) ++ wsX0 G (sz + 15) (sz + 16)) ++ wsX0 G (sz + 16) (sz + 17)) ++ wsX0 G (sz + 17) (sz + 18)) ++ wsX0 G (sz + 18) (sz + 19)) ++ wsX0 G (sz + 19) (sz + 20))) H := hP
  have hD : va_D (kF b sz) ([(b, .inr (9, [.int 0, .int 0, .int 0, .int 0, .int 0, .int 0, .int 0, .int 0, .int 0, .int 0, .int 0, .int 0, .ref sz, .ref (sz + 1), .ref (sz + 2), .ref (sz + 5), .ref (sz + 8), .ref (sz + 12)])), (sz, .inl (G 3, 8, .inr (.inr (.inr (.inr (va_up (va_up (va_up (va_up (va_up (fun _ => none) 0 (some (sz + 14))) 1 (some (sz + 15))) 2 (some (sz + 16))) 3 (some (sz + 17))) 4 (some (sz + 18))))))))] ++ ((((((((((([] ++ wsX0 G (sz + 1) (sz + 2)) ++ wsX2 G (sz + 2) (sz + 3)) ++ wsX2 G (sz + 5) (sz + 6)) ++ wsX8 G (sz + 8) (sz + 9)) ++ wsX1 G (sz + 12) (sz + 13)) ++ wsX0 G (sz + 14) (sz + 15)) ++ wsX0 G (sz + 15) (sz + 16)) ++ wsX0 G (sz + 16) (sz + 17)) ++ wsX0 G (sz + 17) (sz + 18)) ++ wsX0 G (sz + 18) (sz + 19)) ++ wsX0 G (sz + 19) (sz + 20))) := hD
  refine kd_ast (h := sz + 20) (t0 := 3) (q0 := 1) (ci := 0) (n := 8) (j := 5) (f := (va_up (va_up (va_up (va_up (va_up (fun _ => none) 0 (some (sz + 14))) 1 (some (sz + 15))) 2 (some (sz + 16))) 3 (some (sz + 17))) 4 (some (sz + 18)))) (r := (RX0, TX0, 8)) X hP hD hL hS hz rfl rfl rfl rfl (k_vin (N := 8) ⟨by decide, by decide⟩ (by decide)) (by decide) dX9_init_88 (fun H locs hz hP hD hS => ?_)
  have hz : H.size = sz + 20 := hz
  have hP : va_P D vwCl ([(b, .inr (9, [.int 0, .int 0, .int 0, .int 0, .int 0, .int 0, .int 0, .int 0, .int 0, .int 0, .int 0, .int 0, .ref sz, .ref (sz + 1), .ref (sz + 2), .ref (sz + 5), .ref (sz + 8), .ref (sz + 12)])), (sz, .inl (G 3, 8, .inr (.inr (.inr (.inr (va_up (va_up (va_up (va_up (va_up (va_up (fun _ => none) 0 (some (sz + 14))) 1 (some (sz + 15))) 2 (some (sz + 16))) 3 (some (sz + 17))) 4 (some (sz + 18))) 5 (some (sz + 19))))))))] ++ ((((((((((([] ++ wsX0 G (sz + 1) (sz + 2)) ++ wsX2 G (sz + 2) (sz + 3)) ++ wsX2 G (sz + 5) (sz + 6)) ++ wsX8 G (sz + 8) (sz + 9)) ++ wsX1 G (sz + 12) (sz + 13)) ++ wsX0 G (sz + 14) (sz + 15)) ++ wsX0 G (sz + 15) (sz + 16)) ++ wsX0 G (sz + 16) (sz + 17)) ++ wsX0 G (sz + 17) (sz + 18)) ++ wsX0 G (sz + 18) (sz + 19)) ++ wsX0 G (sz + 19) (sz + 20))) H := hP
  have hD : va_D (kF b sz) ([(b, .inr (9, [.int 0, .int 0, .int 0, .int 0, .int 0, .int 0, .int 0, .int 0, .int 0, .int 0, .int 0, .int 0, .ref sz, .ref (sz + 1), .ref (sz + 2), .ref (sz + 5), .ref (sz + 8), .ref (sz + 12)])), (sz, .inl (G 3, 8, .inr (.inr (.inr (.inr (va_up (va_up (va_up (va_up (va_up (va_up (fun _ => none) 0 (some (sz + 14))) 1 (some (sz + 15))) 2 (some (sz + 16))) 3 (some (sz + 17))) 4 (some (sz + 18))) 5 (some (sz + 19))))))))] ++ ((((((((((([] ++ wsX0 G (sz + 1) (sz + 2)) ++ wsX2 G (sz + 2) (sz + 3)) ++ wsX2 G (sz + 5) (sz + 6)) ++ wsX8 G (sz + 8) (sz + 9)) ++ wsX1 G (sz + 12) (sz + 13)) ++ wsX0 G (sz + 14) (sz + 15)) ++ wsX0 G (sz + 15) (sz + 16)) ++ wsX0 G (sz + 16) (sz + 17)) ++ wsX0 G (sz + 17) (sz + 18)) ++ wsX0 G (sz + 18) (sz + 19)) ++ wsX0 G (sz + 19) (sz + 20))) := hD
  refine lv_iinc (v := 6) (lv' := [(1, .int 6), (0, .ref b)]) X.1 X.2.1 dX9_init_89 hl (k := 0) rfl (by decide) (by decide) rfl (fun ls hl => ?_)
  refine lv_goto (tgt := 70) X.1 X.2.1 dX9_init_92 (by decide) ?_
  refine lv_iload_n X.1 X.2.1 dX9_init_70 rfl (lv_at hl 0 rfl) ?_
  refine lv_bipush (v := 8) X.1 X.2.1 dX9_init_71 (by decide) ?_
  refine lv_icmp_ge (tgt := 95) X.1 X.2.1 dX9_init_73 (by decide) (fun c9 => absurd c9 (by decide)) (fun _ => ?_)
  refine lv_aload_n X.1 X.2.1 dX9_init_76 rfl (lv_at hl 1 rfl) ?_
  refine kd_get (tag := 9) (i := 12) (N := 18) (T := TX9) (fs := [.int 0, .int 0, .int 0, .int 0, .int 0, .int 0, .int 0, .int 0, .int 0, .int 0, .int 0, .int 0, .ref sz, .ref (sz + 1), .ref (sz + 2), .ref (sz + 5), .ref (sz + 8), .ref (sz + 12)]) (v := .ref sz) X hP rfl in_X9 rfl (by decide) t_224 rfl dX9_init_77 ?_
  refine lv_iload_n X.1 X.2.1 dX9_init_80 rfl (lv_at hl 0 rfl) ?_
  refine kd_make (h := sz + 20) (h1 := sz + 21) (tag := 0) (n := 0) (cells1 := 21) (slots1 := 261) (fs := fsX0) X hP hD hS hz rfl rfl in_X0 tyX0_ok fr_X0 t_87 t_89 t_5 (c_X0_init l D G (sz + 20) (sz + 21)) rfl rfl ⟨by decide +kernel, by decide +kernel, by decide +kernel⟩ t_91 t_92 (Or.inr ⟨RX10, by decide +kernel⟩) ⟨rfl, rfl⟩ ⟨by decide, by decide⟩ hl.1 (Nat.le_of_ble_eq_true rfl) rfl rfl ⟨by decide, by decide⟩ dX9_init_81 dX9_init_84 dX9_init_85 (fun H locs hz hP hD hL hS => ?_)
  have hz : H.size = sz + 21 := hz
  have hP : va_P D vwCl ([(b, .inr (9, [.int 0, .int 0, .int 0, .int 0, .int 0, .int 0, .int 0, .int 0, .int 0, .int 0, .int 0, .int 0, .ref sz, .ref (sz + 1), .ref (sz + 2), .ref (sz + 5), .ref (sz + 8), .ref (sz + 12)])), (sz, .inl (G 3, 8, .inr (.inr (.inr (.inr (va_up (va_up (va_up (va_up (va_up (va_up (fun _ => none) 0 (some (sz + 14))) 1 (some (sz + 15))) 2 (some (sz + 16))) 3 (some (sz + 17))) 4 (some (sz + 18))) 5 (some (sz + 19))))))))] ++ (((((((((((([] ++ wsX0 G (sz + 1) (sz + 2)) ++ wsX2 G (sz + 2) (sz + 3)) ++ wsX2 G (sz + 5) (sz + 6)) ++ wsX8 G (sz + 8) (sz + 9)) ++ wsX1 G (sz + 12) (sz + 13)) ++ wsX0 G (sz + 14) (sz + 15)) ++ wsX0 G (sz + 15) (sz + 16)) ++ wsX0 G (sz + 16) (sz + 17)) ++ wsX0 G (sz + 17) (sz + 18)) ++ wsX0 G (sz + 18) (sz + 19)) ++ wsX0 G (sz + 19) (sz + 20)) ++ wsX0 G (sz + 20) (sz + 21))) H := hP
  have hD : va_D (kF b sz) ([(b, .inr (9, [.int 0, .int 0, .int 0, .int 0, .int 0, .int 0, .int 0, .int 0, .int 0, .int 0, .int 0, .int 0, .ref sz, .ref (sz + 1), .ref (sz + 2), .ref (sz + 5), .ref (sz + 8), .ref (sz + 12)])), (sz, .inl (G 3, 8, .inr (.inr (.inr (.inr (va_up (va_up (va_up (va_up (va_up (va_up (fun _ => none) 0 (some (sz + 14))) 1 (some (sz + 15))) 2 (some (sz + 16))) 3 (some (sz + 17))) 4 (some (sz + 18))) 5 (some (sz + 19))))))))] ++ (((((((((((([] ++ wsX0 G (sz + 1) (sz + 2)) ++ wsX2 G (sz + 2) (sz + 3)) ++ wsX2 G (sz + 5) (sz + 6)) ++ wsX8 G (sz + 8) (sz + 9)) ++ wsX1 G (sz + 12) (sz + 13)) ++ wsX0 G (sz + 14) (sz + 15)) ++ wsX0 G (sz + 15) (sz + 16)) ++ wsX0 G (sz + 16) (sz + 17)) ++ wsX0 G (sz + 17) (sz + 18)) ++ wsX0 G (sz + 18) (sz + 19)) ++ wsX0 G (sz + 19) (sz + 20)) ++ wsX0 G (sz + 20) (sz + 21))) := hD
  refine kd_ast (h := sz + 21) (t0 := 3) (q0 := 1) (ci := 0) (n := 8) (j := 6) (f := (va_up (va_up (va_up (va_up (va_up (va_up (fun _ => none) 0 (some (sz + 14))) 1 (some (sz + 15))) 2 (some (sz + 16))) 3 (some (sz + 17))) 4 (some (sz + 18))) 5 (some (sz + 19)))) (r := (RX0, TX0, 8)) X hP hD hL hS hz rfl rfl rfl rfl (k_vin (N := 8) ⟨by decide, by decide⟩ (by decide)) (by decide) dX9_init_88 (fun H locs hz hP hD hS => ?_)
  have hz : H.size = sz + 21 := hz
  have hP : va_P D vwCl ([(b, .inr (9, [.int 0, .int 0, .int 0, .int 0, .int 0, .int 0, .int 0, .int 0, .int 0, .int 0, .int 0, .int 0, .ref sz, .ref (sz + 1), .ref (sz + 2), .ref (sz + 5), .ref (sz + 8), .ref (sz + 12)])), (sz, .inl (G 3, 8, .inr (.inr (.inr (.inr (va_up (va_up (va_up (va_up (va_up (va_up (va_up (fun _ => none) 0 (some (sz + 14))) 1 (some (sz + 15))) 2 (some (sz + 16))) 3 (some (sz + 17))) 4 (some (sz + 18))) 5 (some (sz + 19))) 6 (some (sz + 20))))))))] ++ (((((((((((([] ++ wsX0 G (sz + 1) (sz + 2)) ++ wsX2 G (sz + 2) (sz + 3)) ++ wsX2 G (sz + 5) (sz + 6)) ++ wsX8 G (sz + 8) (sz + 9)) ++ wsX1 G (sz + 12) (sz + 13)) ++ wsX0 G (sz + 14) (sz + 15)) ++ wsX0 G (sz + 15) (sz + 16)) ++ wsX0 G (sz + 16) (sz + 17)) ++ wsX0 G (sz + 17) (sz + 18)) ++ wsX0 G (sz + 18) (sz + 19)) ++ wsX0 G (sz + 19) (sz + 20)) ++ wsX0 G (sz + 20) (sz + 21))) H := hP
  have hD : va_D (kF b sz) ([(b, .inr (9, [.int 0, .int 0, .int 0, .int 0, .int 0, .int 0, .int 0, .int 0, .int 0, .int 0, .int 0, .int 0, .ref sz, .ref (sz + 1), .ref (sz + 2), .ref (sz + 5), .ref (sz + 8), .ref (sz + 12)])), (sz, .inl (G 3, 8, .inr (.inr (.inr (.inr (va_up (va_up (va_up (va_up (va_up (va_up (va_up (fun _ => none) 0 (some (sz + 14))) 1 (some (sz + 15))) 2 (some (sz + 16))) 3 (some (sz + 17))) 4 (some (sz + 18))) 5 (some (sz + 19))) 6 (some (sz + 20))))))))] ++ (((((((((((([] ++ wsX0 G (sz + 1) (sz + 2)) ++ wsX2 G (sz + 2) (sz + 3)) ++ wsX2 G (sz + 5) (sz + 6)) ++ wsX8 G (sz + 8) (sz + 9)) ++ wsX1 G (sz + 12) (sz + 13)) ++ wsX0 G (sz + 14) (sz + 15)) ++ wsX0 G (sz + 15) (sz + 16)) ++ wsX0 G (sz + 16) (sz + 17)) ++ wsX0 G (sz + 17) (sz + 18)) ++ wsX0 G (sz + 18) (sz + 19)) ++ wsX0 G (sz + 19) (sz + 20)) ++ wsX0 G (sz + 20) (sz + 21))) := hD
  refine lv_iinc (v := 7) (lv' := [(1, .int 7), (0, .ref b)]) X.1 X.2.1 dX9_init_89 hl (k := 0) rfl (by decide) (by decide) rfl (fun ls hl => ?_)
  refine lv_goto (tgt := 70) X.1 X.2.1 dX9_init_92 (by decide) ?_
  refine lv_iload_n X.1 X.2.1 dX9_init_70 rfl (lv_at hl 0 rfl) ?_
  refine lv_bipush (v := 8) X.1 X.2.1 dX9_init_71 (by decide) ?_
  refine lv_icmp_ge (tgt := 95) X.1 X.2.1 dX9_init_73 (by decide) (fun c9 => absurd c9 (by decide)) (fun _ => ?_)
  refine lv_aload_n X.1 X.2.1 dX9_init_76 rfl (lv_at hl 1 rfl) ?_
  refine kd_get (tag := 9) (i := 12) (N := 18) (T := TX9) (fs := [.int 0, .int 0, .int 0, .int 0, .int 0, .int 0, .int 0, .int 0, .int 0, .int 0, .int 0, .int 0, .ref sz, .ref (sz + 1), .ref (sz + 2), .ref (sz + 5), .ref (sz + 8), .ref (sz + 12)]) (v := .ref sz) X hP rfl in_X9 rfl (by decide) t_224 rfl dX9_init_77 ?_
  refine lv_iload_n X.1 X.2.1 dX9_init_80 rfl (lv_at hl 0 rfl) ?_
  refine kd_make (h := sz + 21) (h1 := sz + 22) (tag := 0) (n := 0) (cells1 := 22) (slots1 := 269) (fs := fsX0) X hP hD hS hz rfl rfl in_X0 tyX0_ok fr_X0 t_87 t_89 t_5 (c_X0_init l D G (sz + 21) (sz + 22)) rfl rfl ⟨by decide +kernel, by decide +kernel, by decide +kernel⟩ t_91 t_92 (Or.inr ⟨RX10, by decide +kernel⟩) ⟨rfl, rfl⟩ ⟨by decide, by decide⟩ hl.1 (Nat.le_of_ble_eq_true rfl) rfl rfl ⟨by decide, by decide⟩ dX9_init_81 dX9_init_84 dX9_init_85 (fun H locs hz hP hD hL hS => ?_)
  have hz : H.size = sz + 22 := hz
  have hP : va_P D vwCl ([(b, .inr (9, [.int 0, .int 0, .int 0, .int 0, .int 0, .int 0, .int 0, .int 0, .int 0, .int 0, .int 0, .int 0, .ref sz, .ref (sz + 1), .ref (sz + 2), .ref (sz + 5), .ref (sz + 8), .ref (sz + 12)])), (sz, .inl (G 3, 8, .inr (.inr (.inr (.inr (va_up (va_up (va_up (va_up (va_up (va_up (va_up (fun _ => none) 0 (some (sz + 14))) 1 (some (sz + 15))) 2 (some (sz + 16))) 3 (some (sz + 17))) 4 (some (sz + 18))) 5 (some (sz + 19))) 6 (some (sz + 20))))))))] ++ ((((((((((((([] ++ wsX0 G (sz + 1) (sz + 2)) ++ wsX2 G (sz + 2) (sz + 3)) ++ wsX2 G (sz + 5) (sz + 6)) ++ wsX8 G (sz + 8) (sz + 9)) ++ wsX1 G (sz + 12) (sz + 13)) ++ wsX0 G (sz + 14) (sz + 15)) ++ wsX0 G (sz + 15) (sz + 16)) ++ wsX0 G (sz + 16) (sz + 17)) ++ wsX0 G (sz + 17) (sz + 18)) ++ wsX0 G (sz + 18) (sz + 19)) ++ wsX0 G (sz + 19) (sz + 20)) ++ wsX0 G (sz + 20) (sz + 21)) ++ wsX0 G (sz + 21) (sz + 22))) H := hP
  have hD : va_D (kF b sz) ([(b, .inr (9, [.int 0, .int 0, .int 0, .int 0, .int 0, .int 0, .int 0, .int 0, .int 0, .int 0, .int 0, .int 0, .ref sz, .ref (sz + 1), .ref (sz + 2), .ref (sz + 5), .ref (sz + 8), .ref (sz + 12)])), (sz, .inl (G 3, 8, .inr (.inr (.inr (.inr (va_up (va_up (va_up (va_up (va_up (va_up (va_up (fun _ => none) 0 (some (sz + 14))) 1 (some (sz + 15))) 2 (some (sz + 16))) 3 (some (sz + 17))) 4 (some (sz + 18))) 5 (some (sz + 19))) 6 (some (sz + 20))))))))] ++ ((((((((((((([] ++ wsX0 G (sz + 1) (sz + 2)) ++ wsX2 G (sz + 2) (sz + 3)) ++ wsX2 G (sz + 5) (sz + 6)) ++ wsX8 G (sz + 8) (sz + 9)) ++ wsX1 G (sz + 12) (sz + 13)) ++ wsX0 G (sz + 14) (sz + 15)) ++ wsX0 G (sz + 15) (sz + 16)) ++ wsX0 G (sz + 16) (sz + 17)) ++ wsX0 G (sz + 17) (sz + 18)) ++ wsX0 G (sz + 18) (sz + 19)) ++ wsX0 G (sz + 19) (sz + 20)) ++ wsX0 G (sz + 20) (sz + 21)) ++ wsX0 G (sz + 21) (sz + 22))) := hD
  refine kd_ast (h := sz + 22) (t0 := 3) (q0 := 1) (ci := 0) (n := 8) (j := 7) (f := (va_up (va_up (va_up (va_up (va_up (va_up (va_up (fun _ => none) 0 (some (sz + 14))) 1 (some (sz + 15))) 2 (some (sz + 16))) 3 (some (sz + 17))) 4 (some (sz + 18))) 5 (some (sz + 19))) 6 (some (sz + 20)))) (r := (RX0, TX0, 8)) X hP hD hL hS hz rfl rfl rfl rfl (k_vin (N := 8) ⟨by decide, by decide⟩ (by decide)) (by decide) dX9_init_88 (fun H locs hz hP hD hS => ?_)
  have hz : H.size = sz + 22 := hz
  have hP : va_P D vwCl ([(b, .inr (9, [.int 0, .int 0, .int 0, .int 0, .int 0, .int 0, .int 0, .int 0, .int 0, .int 0, .int 0, .int 0, .ref sz, .ref (sz + 1), .ref (sz + 2), .ref (sz + 5), .ref (sz + 8), .ref (sz + 12)])), (sz, .inl (G 3, 8, .inr (.inr (.inr (.inr (va_up (va_up (va_up (va_up (va_up (va_up (va_up (va_up (fun _ => none) 0 (some (sz + 14))) 1 (some (sz + 15))) 2 (some (sz + 16))) 3 (some (sz + 17))) 4 (some (sz + 18))) 5 (some (sz + 19))) 6 (some (sz + 20))) 7 (some (sz + 21))))))))] ++ ((((((((((((([] ++ wsX0 G (sz + 1) (sz + 2)) ++ wsX2 G (sz + 2) (sz + 3)) ++ wsX2 G (sz + 5) (sz + 6)) ++ wsX8 G (sz + 8) (sz + 9)) ++ wsX1 G (sz + 12) (sz + 13)) ++ wsX0 G (sz + 14) (sz + 15)) ++ wsX0 G (sz + 15) (sz + 16)) ++ wsX0 G (sz + 16) (sz + 17)) ++ wsX0 G (sz + 17) (sz + 18)) ++ wsX0 G (sz + 18) (sz + 19)) ++ wsX0 G (sz + 19) (sz + 20)) ++ wsX0 G (sz + 20) (sz + 21)) ++ wsX0 G (sz + 21) (sz + 22))) H := hP
  have hD : va_D (kF b sz) ([(b, .inr (9, [.int 0, .int 0, .int 0, .int 0, .int 0, .int 0, .int 0, .int 0, .int 0, .int 0, .int 0, .int 0, .ref sz, .ref (sz + 1), .ref (sz + 2), .ref (sz + 5), .ref (sz + 8), .ref (sz + 12)])), (sz, .inl (G 3, 8, .inr (.inr (.inr (.inr (va_up (va_up (va_up (va_up (va_up (va_up (va_up (va_up (fun _ => none) 0 (some (sz + 14))) 1 (some (sz + 15))) 2 (some (sz + 16))) 3 (some (sz + 17))) 4 (some (sz + 18))) 5 (some (sz + 19))) 6 (some (sz + 20))) 7 (some (sz + 21))))))))] ++ ((((((((((((([] ++ wsX0 G (sz + 1) (sz + 2)) ++ wsX2 G (sz + 2) (sz + 3)) ++ wsX2 G (sz + 5) (sz + 6)) ++ wsX8 G (sz + 8) (sz + 9)) ++ wsX1 G (sz + 12) (sz + 13)) ++ wsX0 G (sz + 14) (sz + 15)) ++ wsX0 G (sz + 15) (sz + 16)) ++ wsX0 G (sz + 16) (sz + 17)) ++ wsX0 G (sz + 17) (sz + 18)) ++ wsX0 G (sz + 18) (sz + 19)) ++ wsX0 G (sz + 19) (sz + 20)) ++ wsX0 G (sz + 20) (sz + 21)) ++ wsX0 G (sz + 21) (sz + 22))) := hD
  refine lv_iinc (v := 8) (lv' := [(1, .int 8), (0, .ref b)]) X.1 X.2.1 dX9_init_89 hl (k := 0) rfl (by decide) (by decide) rfl (fun ls hl => ?_)
  refine lv_goto (tgt := 70) X.1 X.2.1 dX9_init_92 (by decide) ?_
  refine lv_iload_n X.1 X.2.1 dX9_init_70 rfl (lv_at hl 0 rfl) ?_
  refine lv_bipush (v := 8) X.1 X.2.1 dX9_init_71 (by decide) ?_
  refine lv_icmp_ge (tgt := 95) X.1 X.2.1 dX9_init_73 (by decide) (fun _ => ?_) (fun c9 => absurd (by decide) c9)
  exact kc_vret (h := sz + 22) (n := 22) X hP hD hS hz rfl rfl ⟨rfl, rfl⟩ dX9_init_95
def wsX4 (G : Nat → ClassId) (b sz : Nat) : va_W := ([(b, .inr (4, [.ref sz, .ref (sz + 1), .int 0, .int 0, .int (-1), .int 0, .int 0, .int 0, .int 0, .int 0]))] ++ (([] ++ [(sz, .inl (G 0, 600, .inl (fun _ => 0)))]) ++ [((sz + 1), .inl (G 0, 600, .inl (fun _ => 0)))]))
def fsX4 : List Value := [.null, .null, .int 0, .int 0, .int 0, .int 0, .int 0, .int 0, .int 0, .int 0]
theorem fr_X4 : ∀ j, j < 10 → defaultValue (tyX4 j) = vp_V fsX4 j := fun j hj => by
  rcases (show j = 0 ∨ j = 1 ∨ j = 2 ∨ j = 3 ∨ j = 4 ∨ j = 5 ∨ j = 6 ∨ j = 7 ∨ j = 8 ∨ j = 9 by omega) with rfl | rfl | rfl | rfl | rfl | rfl | rfl | rfl | rfl | rfl <;> rfl
def rm_X4_init : Room := { frames := 1, cells := 2, slots := 1200, locals := 12 }
set_option maxRecDepth 100000 in
set_option maxHeartbeats 4000000 in
theorem c_X4_init (l : Launch) (D : va_G) (G : Nat → ClassId) (b sz : Nat) : Met l yX4_init (.code yX4_init cX4_init 1 none :: lw_g) rm_X4_init (kcPre D G b sz 4 fsX4) (kcQ D b sz 2 (wsX4 G b sz)) 2 1200 (kF b sz) := by
  refine kc_ofW (by decide +kernel) (Nat.le_of_ble_eq_true rfl) ?_ rfl
  intro p e s m args below meth c X hP hD hS ls hl
  have hz := X.2.2.2.2.2.2.1
  have hP : va_P D vwCl ([(b, .inr (4, [.null, .null, .int 0, .int 0, .int 0, .int 0, .int 0, .int 0, .int 0, .int 0]))] ++ []) s.heap := hP
  have hD : va_D (kF b sz) ([(b, .inr (4, [.null, .null, .int 0, .int 0, .int 0, .int 0, .int 0, .int 0, .int 0, .int 0]))] ++ []) := hD
  refine lv_aload_n X.1 X.2.1 dX4_init_0 rfl (lv_at hl 0 rfl) ?_
  refine kc_obj X t_39 t_32 t_33 hl.1 ⟨by decide, by decide⟩ dX4_init_1 ?_
  refine lv_aload_n X.1 X.2.1 dX4_init_4 rfl (lv_at hl 0 rfl) ?_
  refine lv_sipush (v := 600) X.1 X.2.1 dX4_init_5 (by decide) ?_
  refine kd_arr (atype := .int) (h := sz) (t0 := 0) (N := 600) (a0 := (600, .inl (fun _ => 0))) (cells1 := 1) (slots1 := 600) X hP hD hS hz t_74 rfl (fun _ h => h) (fun _ => rfl) (by decide) (by decide) (by decide) rfl rfl ⟨by decide, by decide⟩ dX4_init_8 (fun H hz hP hD hS => ?_)
  have hz : H.size = sz + 1 := hz
  have hP : va_P D vwCl ([(b, .inr (4, [.null, .null, .int 0, .int 0, .int 0, .int 0, .int 0, .int 0, .int 0, .int 0]))] ++ ([] ++ [(sz, .inl (G 0, 600, .inl (fun _ => 0)))])) H := hP
  have hD : va_D (kF b sz) ([(b, .inr (4, [.null, .null, .int 0, .int 0, .int 0, .int 0, .int 0, .int 0, .int 0, .int 0]))] ++ ([] ++ [(sz, .inl (G 0, 600, .inl (fun _ => 0)))])) := hD
  refine kd_put (h := sz + 1) (tag := 4) (i := 0) (N := 10) (T := TX4) (ty0 := tyX4) (ty := .array .int) (fs := [.null, .null, .int 0, .int 0, .int 0, .int 0, .int 0, .int 0, .int 0, .int 0]) (v := .ref sz) X hP hD hS hz rfl in_X4 tyX4_ok nmX4 rfl (by decide) t_40 rfl (by decide +kernel) rfl rfl (Nat.le_of_ble_eq_true rfl) dX4_init_10 (fun H locs hz hP hD hS => ?_)
  have hz : H.size = sz + 1 := hz
  have hP : va_P D vwCl ([(b, .inr (4, [.ref sz, .null, .int 0, .int 0, .int 0, .int 0, .int 0, .int 0, .int 0, .int 0]))] ++ ([] ++ [(sz, .inl (G 0, 600, .inl (fun _ => 0)))])) H := hP
  have hD : va_D (kF b sz) ([(b, .inr (4, [.ref sz, .null, .int 0, .int 0, .int 0, .int 0, .int 0, .int 0, .int 0, .int 0]))] ++ ([] ++ [(sz, .inl (G 0, 600, .inl (fun _ => 0)))])) := hD
  refine lv_aload_n X.1 X.2.1 dX4_init_13 rfl (lv_at hl 0 rfl) ?_
  refine lv_sipush (v := 600) X.1 X.2.1 dX4_init_14 (by decide) ?_
  refine kd_arr (atype := .int) (h := sz + 1) (t0 := 0) (N := 600) (a0 := (600, .inl (fun _ => 0))) (cells1 := 2) (slots1 := 1200) X hP hD hS hz t_74 rfl (fun _ h => h) (fun _ => rfl) (by decide) (by decide) (by decide) rfl rfl ⟨by decide, by decide⟩ dX4_init_17 (fun H hz hP hD hS => ?_)
  have hz : H.size = sz + 2 := hz
  have hP : va_P D vwCl ([(b, .inr (4, [.ref sz, .null, .int 0, .int 0, .int 0, .int 0, .int 0, .int 0, .int 0, .int 0]))] ++ (([] ++ [(sz, .inl (G 0, 600, .inl (fun _ => 0)))]) ++ [((sz + 1), .inl (G 0, 600, .inl (fun _ => 0)))])) H := hP
  have hD : va_D (kF b sz) ([(b, .inr (4, [.ref sz, .null, .int 0, .int 0, .int 0, .int 0, .int 0, .int 0, .int 0, .int 0]))] ++ (([] ++ [(sz, .inl (G 0, 600, .inl (fun _ => 0)))]) ++ [((sz + 1), .inl (G 0, 600, .inl (fun _ => 0)))])) := hD
  refine kd_put (h := sz + 2) (tag := 4) (i := 1) (N := 10) (T := TX4) (ty0 := tyX4) (ty := .array .int) (fs := [.ref sz, .null, .int 0, .int 0, .int 0, .int 0, .int 0, .int 0, .int 0, .int 0]) (v := .ref (sz + 1)) X hP hD hS hz rfl in_X4 tyX4_ok nmX4 rfl (by decide) t_41 rfl (by decide +kernel) rfl rfl (Nat.le_of_ble_eq_true rfl) dX4_init_19 (fun H locs hz hP hD hS => ?_)
  have hz : H.size = sz + 2 := hz
  have hP : va_P D vwCl ([(b, .inr (4, [.ref sz, .ref (sz + 1), .int 0, .int 0, .int 0, .int 0, .int 0, .int 0, .int 0, .int 0]))] ++ (([] ++ [(sz, .inl (G 0, 600, .inl (fun _ => 0)))]) ++ [((sz + 1), .inl (G 0, 600, .inl (fun _ => 0)))])) H := hP
  have hD : va_D (kF b sz) ([(b, .inr (4, [.ref sz, .ref (sz + 1), .int 0, .int 0, .int 0, .int 0, .int 0, .int 0, .int 0, .int 0]))] ++ (([] ++ [(sz, .inl (G 0, 600, .inl (fun _ => 0)))]) ++ [((sz + 1), .inl (G 0, 600, .inl (fun _ => 0)))])) := hD
  refine lv_aload_n X.1 X.2.1 dX4_init_22 rfl (lv_at hl 0 rfl) ?_
  refine lv_iconst (v := (-1)) X.1 X.2.1 dX4_init_23 (by decide) ?_
  refine kd_put (h := sz + 2) (tag := 4) (i := 4) (N := 10) (T := TX4) (ty0 := tyX4) (ty := .int) (fs := [.ref sz, .ref (sz + 1), .int 0, .int 0, .int 0, .int 0, .int 0, .int 0, .int 0, .int 0]) (v := .int (-1)) X hP hD hS hz rfl in_X4 tyX4_ok nmX4 rfl (by decide) t_46 rfl (by decide +kernel) rfl rfl (Nat.le_of_ble_eq_true rfl) dX4_init_24 (fun H locs hz hP hD hS => ?_)
  have hz : H.size = sz + 2 := hz
  have hP : va_P D vwCl ([(b, .inr (4, [.ref sz, .ref (sz + 1), .int 0, .int 0, .int (-1), .int 0, .int 0, .int 0, .int 0, .int 0]))] ++ (([] ++ [(sz, .inl (G 0, 600, .inl (fun _ => 0)))]) ++ [((sz + 1), .inl (G 0, 600, .inl (fun _ => 0)))])) H := hP
  have hD : va_D (kF b sz) ([(b, .inr (4, [.ref sz, .ref (sz + 1), .int 0, .int 0, .int (-1), .int 0, .int 0, .int 0, .int 0, .int 0]))] ++ (([] ++ [(sz, .inl (G 0, 600, .inl (fun _ => 0)))]) ++ [((sz + 1), .inl (G 0, 600, .inl (fun _ => 0)))])) := hD
  exact kc_vret (h := sz + 2) (n := 2) X hP hD hS hz rfl rfl ⟨rfl, rfl⟩ dX4_init_27
def wsX5 (G : Nat → ClassId) (b sz : Nat) : va_W := ([(b, .inr (5, [.ref sz, .ref (sz + 1), .int 0]))] ++ (([] ++ [(sz, .inl (G 0, 40, .inl (fun _ => 0)))]) ++ [((sz + 1), .inl (G 0, 40, .inl (fun _ => 0)))]))
def fsX5 : List Value := [.null, .null, .int 0]
theorem fr_X5 : ∀ j, j < 3 → defaultValue (tyX5 j) = vp_V fsX5 j := fun j hj => by
  rcases (show j = 0 ∨ j = 1 ∨ j = 2 by omega) with rfl | rfl | rfl <;> rfl
def rm_X5_init : Room := { frames := 1, cells := 2, slots := 80, locals := 12 }
set_option maxRecDepth 100000 in
set_option maxHeartbeats 4000000 in
theorem c_X5_init (l : Launch) (D : va_G) (G : Nat → ClassId) (b sz : Nat) : Met l yX5_init (.code yX5_init cX5_init 1 none :: lw_g) rm_X5_init (kcPre D G b sz 5 fsX5) (kcQ D b sz 2 (wsX5 G b sz)) 2 80 (kF b sz) := by
  refine kc_ofW (by decide +kernel) (Nat.le_of_ble_eq_true rfl) ?_ rfl
  intro p e s m args below meth c X hP hD hS ls hl
  have hz := X.2.2.2.2.2.2.1
  have hP : va_P D vwCl ([(b, .inr (5, [.null, .null, .int 0]))] ++ []) s.heap := hP
  have hD : va_D (kF b sz) ([(b, .inr (5, [.null, .null, .int 0]))] ++ []) := hD
  refine lv_aload_n X.1 X.2.1 dX5_init_0 rfl (lv_at hl 0 rfl) ?_
  refine kc_obj X t_287 t_32 t_33 hl.1 ⟨by decide, by decide⟩ dX5_init_1 ?_
  refine lv_aload_n X.1 X.2.1 dX5_init_4 rfl (lv_at hl 0 rfl) ?_
  refine lv_bipush (v := 40) X.1 X.2.1 dX5_init_5 (by decide) ?_
  refine kd_arr (atype := .int) (h := sz) (t0 := 0) (N := 40) (a0 := (40, .inl (fun _ => 0))) (cells1 := 1) (slots1 := 40) X hP hD hS hz t_74 rfl (fun _ h => h) (fun _ => rfl) (by decide) (by decide) (by decide) rfl rfl ⟨by decide, by decide⟩ dX5_init_7 (fun H hz hP hD hS => ?_)
  have hz : H.size = sz + 1 := hz
  have hP : va_P D vwCl ([(b, .inr (5, [.null, .null, .int 0]))] ++ ([] ++ [(sz, .inl (G 0, 40, .inl (fun _ => 0)))])) H := hP
  have hD : va_D (kF b sz) ([(b, .inr (5, [.null, .null, .int 0]))] ++ ([] ++ [(sz, .inl (G 0, 40, .inl (fun _ => 0)))])) := hD
  refine kd_put (h := sz + 1) (tag := 5) (i := 0) (N := 3) (T := TX5) (ty0 := tyX5) (ty := .array .int) (fs := [.null, .null, .int 0]) (v := .ref sz) X hP hD hS hz rfl in_X5 tyX5_ok nmX5 rfl (by decide) t_288 rfl (by decide +kernel) rfl rfl (Nat.le_of_ble_eq_true rfl) dX5_init_9 (fun H locs hz hP hD hS => ?_)
  have hz : H.size = sz + 1 := hz
  have hP : va_P D vwCl ([(b, .inr (5, [.ref sz, .null, .int 0]))] ++ ([] ++ [(sz, .inl (G 0, 40, .inl (fun _ => 0)))])) H := hP
  have hD : va_D (kF b sz) ([(b, .inr (5, [.ref sz, .null, .int 0]))] ++ ([] ++ [(sz, .inl (G 0, 40, .inl (fun _ => 0)))])) := hD
  refine lv_aload_n X.1 X.2.1 dX5_init_12 rfl (lv_at hl 0 rfl) ?_
  refine lv_bipush (v := 40) X.1 X.2.1 dX5_init_13 (by decide) ?_
  refine kd_arr (atype := .int) (h := sz + 1) (t0 := 0) (N := 40) (a0 := (40, .inl (fun _ => 0))) (cells1 := 2) (slots1 := 80) X hP hD hS hz t_74 rfl (fun _ h => h) (fun _ => rfl) (by decide) (by decide) (by decide) rfl rfl ⟨by decide, by decide⟩ dX5_init_15 (fun H hz hP hD hS => ?_)
  have hz : H.size = sz + 2 := hz
  have hP : va_P D vwCl ([(b, .inr (5, [.ref sz, .null, .int 0]))] ++ (([] ++ [(sz, .inl (G 0, 40, .inl (fun _ => 0)))]) ++ [((sz + 1), .inl (G 0, 40, .inl (fun _ => 0)))])) H := hP
  have hD : va_D (kF b sz) ([(b, .inr (5, [.ref sz, .null, .int 0]))] ++ (([] ++ [(sz, .inl (G 0, 40, .inl (fun _ => 0)))]) ++ [((sz + 1), .inl (G 0, 40, .inl (fun _ => 0)))])) := hD
  refine kd_put (h := sz + 2) (tag := 5) (i := 1) (N := 3) (T := TX5) (ty0 := tyX5) (ty := .array .int) (fs := [.ref sz, .null, .int 0]) (v := .ref (sz + 1)) X hP hD hS hz rfl in_X5 tyX5_ok nmX5 rfl (by decide) t_290 rfl (by decide +kernel) rfl rfl (Nat.le_of_ble_eq_true rfl) dX5_init_17 (fun H locs hz hP hD hS => ?_)
  have hz : H.size = sz + 2 := hz
  have hP : va_P D vwCl ([(b, .inr (5, [.ref sz, .ref (sz + 1), .int 0]))] ++ (([] ++ [(sz, .inl (G 0, 40, .inl (fun _ => 0)))]) ++ [((sz + 1), .inl (G 0, 40, .inl (fun _ => 0)))])) H := hP
  have hD : va_D (kF b sz) ([(b, .inr (5, [.ref sz, .ref (sz + 1), .int 0]))] ++ (([] ++ [(sz, .inl (G 0, 40, .inl (fun _ => 0)))]) ++ [((sz + 1), .inl (G 0, 40, .inl (fun _ => 0)))])) := hD
  exact kc_vret (h := sz + 2) (n := 2) X hP hD hS hz rfl rfl ⟨rfl, rfl⟩ dX5_init_20
def wsX7 (G : Nat → ClassId) (b sz : Nat) : va_W := ([(b, .inr (7, [.ref sz, .int 0]))] ++ ([] ++ [(sz, .inl (G 0, 64, .inl (fun _ => 0)))]))
def fsX7 : List Value := [.null, .int 0]
theorem fr_X7 : ∀ j, j < 2 → defaultValue (tyX7 j) = vp_V fsX7 j := fun j hj => by
  rcases (show j = 0 ∨ j = 1 by omega) with rfl | rfl <;> rfl
def rm_X7_init : Room := { frames := 1, cells := 1, slots := 64, locals := 12 }
set_option maxRecDepth 100000 in
set_option maxHeartbeats 4000000 in
theorem c_X7_init (l : Launch) (D : va_G) (G : Nat → ClassId) (b sz : Nat) : Met l yX7_init (.code yX7_init cX7_init 1 none :: lw_g) rm_X7_init (kcPre D G b sz 7 fsX7) (kcQ D b sz 1 (wsX7 G b sz)) 1 64 (kF b sz) := by
  refine kc_ofW (by decide +kernel) (Nat.le_of_ble_eq_true rfl) ?_ rfl
  intro p e s m args below meth c X hP hD hS ls hl
  have hz := X.2.2.2.2.2.2.1
  have hP : va_P D vwCl ([(b, .inr (7, [.null, .int 0]))] ++ []) s.heap := hP
  have hD : va_D (kF b sz) ([(b, .inr (7, [.null, .int 0]))] ++ []) := hD
  refine lv_aload_n X.1 X.2.1 dX7_init_0 rfl (lv_at hl 0 rfl) ?_
  refine kc_obj X t_328 t_32 t_33 hl.1 ⟨by decide, by decide⟩ dX7_init_1 ?_
  refine lv_aload_n X.1 X.2.1 dX7_init_4 rfl (lv_at hl 0 rfl) ?_
  refine lv_bipush (v := 64) X.1 X.2.1 dX7_init_5 (by decide) ?_
  refine kd_arr (atype := .int) (h := sz) (t0 := 0) (N := 64) (a0 := (64, .inl (fun _ => 0))) (cells1 := 1) (slots1 := 64) X hP hD hS hz t_74 rfl (fun _ h => h) (fun _ => rfl) (by decide) (by decide) (by decide) rfl rfl ⟨by decide, by decide⟩ dX7_init_7 (fun H hz hP hD hS => ?_)
  have hz : H.size = sz + 1 := hz
  have hP : va_P D vwCl ([(b, .inr (7, [.null, .int 0]))] ++ ([] ++ [(sz, .inl (G 0, 64, .inl (fun _ => 0)))])) H := hP
  have hD : va_D (kF b sz) ([(b, .inr (7, [.null, .int 0]))] ++ ([] ++ [(sz, .inl (G 0, 64, .inl (fun _ => 0)))])) := hD
  refine kd_put (h := sz + 1) (tag := 7) (i := 0) (N := 2) (T := TX7) (ty0 := tyX7) (ty := .array .int) (fs := [.null, .int 0]) (v := .ref sz) X hP hD hS hz rfl in_X7 tyX7_ok nmX7 rfl (by decide) t_329 rfl (by decide +kernel) rfl rfl (Nat.le_of_ble_eq_true rfl) dX7_init_9 (fun H locs hz hP hD hS => ?_)
  have hz : H.size = sz + 1 := hz
  have hP : va_P D vwCl ([(b, .inr (7, [.ref sz, .int 0]))] ++ ([] ++ [(sz, .inl (G 0, 64, .inl (fun _ => 0)))])) H := hP
  have hD : va_D (kF b sz) ([(b, .inr (7, [.ref sz, .int 0]))] ++ ([] ++ [(sz, .inl (G 0, 64, .inl (fun _ => 0)))])) := hD
  exact kc_vret (h := sz + 1) (n := 1) X hP hD hS hz rfl rfl ⟨rfl, rfl⟩ dX7_init_12
def wsX6 (G : Nat → ClassId) (b sz : Nat) : va_W := ([(b, .inr (6, [.ref sz]))] ++ ([] ++ wsX9 G sz (sz + 1)))
def fsX6 : List Value := [.null]
theorem fr_X6 : ∀ j, j < 1 → defaultValue (tyX6 j) = vp_V fsX6 j := fun j hj => by
  rcases (show j = 0 by omega) with rfl <;> rfl
def rm_X6_init : Room := { frames := 3, cells := 23, slots := 287, locals := 53 }
set_option maxRecDepth 100000 in
set_option maxHeartbeats 4000000 in
theorem c_X6_init (l : Launch) (D : va_G) (G : Nat → ClassId) (b sz : Nat) : Met l yX6_init (.code yX6_init cX6_init 1 none :: lw_g) rm_X6_init (kcPre D G b sz 6 fsX6) (kcQ D b sz 23 (wsX6 G b sz)) 23 287 (kF b sz) := by
  refine kc_ofW (by decide +kernel) (Nat.le_of_ble_eq_true rfl) ?_ rfl
  intro p e s m args below meth c X hP hD hS ls hl
  have hz := X.2.2.2.2.2.2.1
  have hP : va_P D vwCl ([(b, .inr (6, [.null]))] ++ []) s.heap := hP
  have hD : va_D (kF b sz) ([(b, .inr (6, [.null]))] ++ []) := hD
  refine lv_aload_n X.1 X.2.1 dX6_init_0 rfl (lv_at hl 0 rfl) ?_
  refine kc_obj X t_80 t_32 t_33 hl.1 ⟨by decide, by decide⟩ dX6_init_1 ?_
  refine lv_aload_n X.1 X.2.1 dX6_init_4 rfl (lv_at hl 0 rfl) ?_
  refine kd_make (h := sz) (h1 := sz + 23) (tag := 9) (n := 22) (cells1 := 23) (slots1 := 287) (fs := fsX9) X hP hD hS hz rfl rfl in_X9 tyX9_ok fr_X9 t_81 t_82 t_4 (c_X9_init l D G sz (sz + 1)) rfl rfl ⟨by decide +kernel, by decide +kernel, by decide +kernel⟩ t_84 t_85 (Or.inl t_83) ⟨rfl, rfl⟩ ⟨by decide, by decide⟩ hl.1 (Nat.le_of_ble_eq_true rfl) rfl rfl ⟨by decide, by decide⟩ dX6_init_5 dX6_init_8 dX6_init_9 (fun H locs hz hP hD hL hS => ?_)
  have hz : H.size = sz + 23 := hz
  have hP : va_P D vwCl ([(b, .inr (6, [.null]))] ++ ([] ++ wsX9 G sz (sz + 1))) H := hP
  have hD : va_D (kF b sz) ([(b, .inr (6, [.null]))] ++ ([] ++ wsX9 G sz (sz + 1))) := hD
  refine kd_put (h := sz + 23) (tag := 6) (i := 0) (N := 1) (T := TX6) (ty0 := tyX6) (ty := .object "LayeredChute$World") (fs := [.null]) (v := .ref sz) X hP hD hS hz rfl in_X6 tyX6_ok nmX6 rfl (by decide) t_277 rfl (by decide +kernel) rfl rfl (Nat.le_of_ble_eq_true rfl) dX6_init_12 (fun H locs hz hP hD hS => ?_)
  have hz : H.size = sz + 23 := hz
  have hP : va_P D vwCl ([(b, .inr (6, [.ref sz]))] ++ ([] ++ wsX9 G sz (sz + 1))) H := hP
  have hD : va_D (kF b sz) ([(b, .inr (6, [.ref sz]))] ++ ([] ++ wsX9 G sz (sz + 1))) := hD
  exact kc_vret (h := sz + 23) (n := 23) X hP hD hS hz rfl rfl ⟨rfl, rfl⟩ dX6_init_15
def wsX3 (G : Nat → ClassId) (b sz : Nat) : va_W := ([(b, .inr (3, [.ref sz, .int 0, .int 0])), (sz, .inl (G 4, 8, .inr (.inr (.inr (.inr (va_up (va_up (va_up (va_up (va_up (va_up (va_up (va_up (fun _ => none) 0 (some (sz + 1))) 1 (some (sz + 24))) 2 (some (sz + 47))) 3 (some (sz + 70))) 4 (some (sz + 93))) 5 (some (sz + 116))) 6 (some (sz + 139))) 7 (some (sz + 162))))))))] ++ (((((((([] ++ wsX9 G (sz + 1) (sz + 2)) ++ wsX9 G (sz + 24) (sz + 25)) ++ wsX9 G (sz + 47) (sz + 48)) ++ wsX9 G (sz + 70) (sz + 71)) ++ wsX9 G (sz + 93) (sz + 94)) ++ wsX9 G (sz + 116) (sz + 117)) ++ wsX9 G (sz + 139) (sz + 140)) ++ wsX9 G (sz + 162) (sz + 163)))
def fsX3 : List Value := [.null, .int 0, .int 0]
theorem fr_X3 : ∀ j, j < 3 → defaultValue (tyX3 j) = vp_V fsX3 j := fun j hj => by
  rcases (show j = 0 ∨ j = 1 ∨ j = 2 by omega) with rfl | rfl | rfl <;> rfl
def rm_X3_init : Room := { frames := 3, cells := 185, slots := 2304, locals := 53 }
set_option maxRecDepth 100000 in
set_option maxHeartbeats 4000000 in
theorem c_X3_init (l : Launch) (D : va_G) (G : Nat → ClassId) (b sz : Nat) : Met l yX3_init (.code yX3_init cX3_init 2 none :: lw_g) rm_X3_init (kcPre D G b sz 3 fsX3) (kcQ D b sz 185 (wsX3 G b sz)) 185 2304 (kF b sz) := by
  refine kc_ofW (by decide +kernel) (Nat.le_of_ble_eq_true rfl) ?_ rfl
  intro p e s m args below meth c X hP hD hS ls hl
  have hz := X.2.2.2.2.2.2.1
  have hP : va_P D vwCl ([(b, .inr (3, [.null, .int 0, .int 0]))] ++ []) s.heap := hP
  have hD : va_D (kF b sz) ([(b, .inr (3, [.null, .int 0, .int 0]))] ++ []) := hD
  refine lv_aload_n X.1 X.2.1 dX3_init_0 rfl (lv_at hl 0 rfl) ?_
  refine kc_obj X t_308 t_32 t_33 hl.1 ⟨by decide, by decide⟩ dX3_init_1 ?_
  refine lv_aload_n X.1 X.2.1 dX3_init_4 rfl (lv_at hl 0 rfl) ?_
  refine lv_bipush (v := 8) X.1 X.2.1 dX3_init_5 (by decide) ?_
  refine kd_arq (h := sz) (t0 := 4) (N := 8) (C := RX9) (cells1 := 1) (slots1 := 8) X hP hD hS hz t_309 X.2.2.2.2.2.2.2.2.1.2.2 rfl (by decide) (by decide) (by decide) rfl rfl ⟨by decide, by decide⟩ dX3_init_7 (fun H hz hP hD hS => ?_)
  have hz : H.size = sz + 1 := hz
  have hP : va_P D vwCl ([(b, .inr (3, [.null, .int 0, .int 0])), (sz, .inl (G 4, 8, .inr (.inr (.inr (.inr (fun _ => none))))))] ++ []) H := hP
  have hD : va_D (kF b sz) ([(b, .inr (3, [.null, .int 0, .int 0])), (sz, .inl (G 4, 8, .inr (.inr (.inr (.inr (fun _ => none))))))] ++ []) := hD
  refine kd_put (h := sz + 1) (tag := 3) (i := 0) (N := 3) (T := TX3) (ty0 := tyX3) (ty := .array (.object "LayeredChute$World")) (fs := [.null, .int 0, .int 0]) (v := .ref sz) X hP hD hS hz rfl in_X3 tyX3_ok nmX3 rfl (by decide) t_312 rfl (by decide +kernel) rfl rfl (Nat.le_of_ble_eq_true rfl) dX3_init_10 (fun H locs hz hP hD hS => ?_)
  have hz : H.size = sz + 1 := hz
  have hP : va_P D vwCl ([(b, .inr (3, [.ref sz, .int 0, .int 0])), (sz, .inl (G 4, 8, .inr (.inr (.inr (.inr (fun _ => none))))))] ++ []) H := hP
  have hD : va_D (kF b sz) ([(b, .inr (3, [.ref sz, .int 0, .int 0])), (sz, .inl (G 4, 8, .inr (.inr (.inr (.inr (fun _ => none))))))] ++ []) := hD
  refine lv_iconst (v := 0) X.1 X.2.1 dX3_init_13 (by decide) ?_
  refine lv_istore_n (lv' := [(1, .int 0), (0, .ref b)]) X.1 X.2.1 dX3_init_14 rfl hl (by decide) rfl (fun ls hl => ?_)
  refine lv_iload_n X.1 X.2.1 dX3_init_15 rfl (lv_at hl 0 rfl) ?_
  refine lv_bipush (v := 8) X.1 X.2.1 dX3_init_16 (by decide) ?_
  refine lv_icmp_ge (tgt := 40) X.1 X.2.1 dX3_init_18 (by decide) (fun c9 => absurd c9 (by decide)) (fun _ => ?_)
  refine lv_aload_n X.1 X.2.1 dX3_init_21 rfl (lv_at hl 1 rfl) ?_
  refine kd_get (tag := 3) (i := 0) (N := 3) (T := TX3) (fs := [.ref sz, .int 0, .int 0]) (v := .ref sz) X hP rfl in_X3 rfl (by decide) t_312 rfl dX3_init_22 ?_
  refine lv_iload_n X.1 X.2.1 dX3_init_25 rfl (lv_at hl 0 rfl) ?_
  refine kd_make (h := sz + 1) (h1 := sz + 24) (tag := 9) (n := 22) (cells1 := 24) (slots1 := 295) (fs := fsX9) X hP hD hS hz rfl rfl in_X9 tyX9_ok fr_X9 t_309 t_82 t_4 (c_X9_init l D G (sz + 1) (sz + 2)) rfl rfl ⟨by decide +kernel, by decide +kernel, by decide +kernel⟩ t_84 t_85 (Or.inl t_311) ⟨rfl, rfl⟩ ⟨by decide, by decide⟩ hl.1 (Nat.le_of_ble_eq_true rfl) rfl rfl ⟨by decide, by decide⟩ dX3_init_26 dX3_init_29 dX3_init_30 (fun H locs hz hP hD hL hS => ?_)
  have hz : H.size = sz + 24 := hz
  have hP : va_P D vwCl ([(b, .inr (3, [.ref sz, .int 0, .int 0])), (sz, .inl (G 4, 8, .inr (.inr (.inr (.inr (fun _ => none))))))] ++ ([] ++ wsX9 G (sz + 1) (sz + 2))) H := hP
  have hD : va_D (kF b sz) ([(b, .inr (3, [.ref sz, .int 0, .int 0])), (sz, .inl (G 4, 8, .inr (.inr (.inr (.inr (fun _ => none))))))] ++ ([] ++ wsX9 G (sz + 1) (sz + 2))) := hD
  refine kd_ast (h := sz + 24) (t0 := 4) (q0 := 1) (ci := 9) (n := 8) (j := 0) (f := (fun _ => none)) (r := (RX9, TX9, 18)) X hP hD hL hS hz rfl rfl rfl rfl (k_vin (N := 8) ⟨by decide, by decide⟩ (by decide)) (by decide) dX3_init_33 (fun H locs hz hP hD hS => ?_)
  have hz : H.size = sz + 24 := hz
  have hP : va_P D vwCl ([(b, .inr (3, [.ref sz, .int 0, .int 0])), (sz, .inl (G 4, 8, .inr (.inr (.inr (.inr (va_up (fun _ => none) 0 (some (sz + 1))))))))] ++ ([] ++ wsX9 G (sz + 1) (sz + 2))) H := hP
  have hD : va_D (kF b sz) ([(b, .inr (3, [.ref sz, .int 0, .int 0])), (sz, .inl (G 4, 8, .inr (.inr (.inr (.inr (va_up (fun _ => none) 0 (some (sz + 1))))))))] ++ ([] ++ wsX9 G (sz + 1) (sz + 2))) := hD
  refine lv_iinc (v := 1) (lv' := [(1, .int 1), (0, .ref b)]) X.1 X.2.1 dX3_init_34 hl (k := 0) rfl (by decide) (by decide) rfl (fun ls hl => ?_)
  refine lv_goto (tgt := 15) X.1 X.2.1 dX3_init_37 (by decide) ?_
  refine lv_iload_n X.1 X.2.1 dX3_init_15 rfl (lv_at hl 0 rfl) ?_
  refine lv_bipush (v := 8) X.1 X.2.1 dX3_init_16 (by decide) ?_
  refine lv_icmp_ge (tgt := 40) X.1 X.2.1 dX3_init_18 (by decide) (fun c9 => absurd c9 (by decide)) (fun _ => ?_)
  refine lv_aload_n X.1 X.2.1 dX3_init_21 rfl (lv_at hl 1 rfl) ?_
  refine kd_get (tag := 3) (i := 0) (N := 3) (T := TX3) (fs := [.ref sz, .int 0, .int 0]) (v := .ref sz) X hP rfl in_X3 rfl (by decide) t_312 rfl dX3_init_22 ?_
  refine lv_iload_n X.1 X.2.1 dX3_init_25 rfl (lv_at hl 0 rfl) ?_
  refine kd_make (h := sz + 24) (h1 := sz + 47) (tag := 9) (n := 22) (cells1 := 47) (slots1 := 582) (fs := fsX9) X hP hD hS hz rfl rfl in_X9 tyX9_ok fr_X9 t_309 t_82 t_4 (c_X9_init l D G (sz + 24) (sz + 25)) rfl rfl ⟨by decide +kernel, by decide +kernel, by decide +kernel⟩ t_84 t_85 (Or.inl t_311) ⟨rfl, rfl⟩ ⟨by decide, by decide⟩ hl.1 (Nat.le_of_ble_eq_true rfl) rfl rfl ⟨by decide, by decide⟩ dX3_init_26 dX3_init_29 dX3_init_30 (fun H locs hz hP hD hL hS => ?_)
  have hz : H.size = sz + 47 := hz
  have hP : va_P D vwCl ([(b, .inr (3, [.ref sz, .int 0, .int 0])), (sz, .inl (G 4, 8, .inr (.inr (.inr (.inr (va_up (fun _ => none) 0 (some (sz + 1))))))))] ++ (([] ++ wsX9 G (sz + 1) (sz + 2)) ++ wsX9 G (sz + 24) (sz + 25))) H := hP
  have hD : va_D (kF b sz) ([(b, .inr (3, [.ref sz, .int 0, .int 0])), (sz, .inl (G 4, 8, .inr (.inr (.inr (.inr (va_up (fun _ => none) 0 (some (sz + 1))))))))] ++ (([] ++ wsX9 G (sz + 1) (sz + 2)) ++ wsX9 G (sz + 24) (sz + 25))) := hD
  refine kd_ast (h := sz + 47) (t0 := 4) (q0 := 1) (ci := 9) (n := 8) (j := 1) (f := (va_up (fun _ => none) 0 (some (sz + 1)))) (r := (RX9, TX9, 18)) X hP hD hL hS hz rfl rfl rfl rfl (k_vin (N := 8) ⟨by decide, by decide⟩ (by decide)) (by decide) dX3_init_33 (fun H locs hz hP hD hS => ?_)
  have hz : H.size = sz + 47 := hz
  have hP : va_P D vwCl ([(b, .inr (3, [.ref sz, .int 0, .int 0])), (sz, .inl (G 4, 8, .inr (.inr (.inr (.inr (va_up (va_up (fun _ => none) 0 (some (sz + 1))) 1 (some (sz + 24))))))))] ++ (([] ++ wsX9 G (sz + 1) (sz + 2)) ++ wsX9 G (sz + 24) (sz + 25))) H := hP
  have hD : va_D (kF b sz) ([(b, .inr (3, [.ref sz, .int 0, .int 0])), (sz, .inl (G 4, 8, .inr (.inr (.inr (.inr (va_up (va_up (fun _ => none) 0 (some (sz + 1))) 1 (some (sz + 24))))))))] ++ (([] ++ wsX9 G (sz + 1) (sz + 2)) ++ wsX9 G (sz + 24) (sz + 25))) := hD
  refine lv_iinc (v := 2) (lv' := [(1, .int 2), (0, .ref b)]) X.1 X.2.1 dX3_init_34 hl (k := 0) rfl (by decide) (by decide) rfl (fun ls hl => ?_)
  refine lv_goto (tgt := 15) X.1 X.2.1 dX3_init_37 (by decide) ?_
  refine lv_iload_n X.1 X.2.1 dX3_init_15 rfl (lv_at hl 0 rfl) ?_
  refine lv_bipush (v := 8) X.1 X.2.1 dX3_init_16 (by decide) ?_
  refine lv_icmp_ge (tgt := 40) X.1 X.2.1 dX3_init_18 (by decide) (fun c9 => absurd c9 (by decide)) (fun _ => ?_)
  refine lv_aload_n X.1 X.2.1 dX3_init_21 rfl (lv_at hl 1 rfl) ?_
  refine kd_get (tag := 3) (i := 0) (N := 3) (T := TX3) (fs := [.ref sz, .int 0, .int 0]) (v := .ref sz) X hP rfl in_X3 rfl (by decide) t_312 rfl dX3_init_22 ?_
  refine lv_iload_n X.1 X.2.1 dX3_init_25 rfl (lv_at hl 0 rfl) ?_
  refine kd_make (h := sz + 47) (h1 := sz + 70) (tag := 9) (n := 22) (cells1 := 70) (slots1 := 869) (fs := fsX9) X hP hD hS hz rfl rfl in_X9 tyX9_ok fr_X9 t_309 t_82 t_4 (c_X9_init l D G (sz + 47) (sz + 48)) rfl rfl ⟨by decide +kernel, by decide +kernel, by decide +kernel⟩ t_84 t_85 (Or.inl t_311) ⟨rfl, rfl⟩ ⟨by decide, by decide⟩ hl.1 (Nat.le_of_ble_eq_true rfl) rfl rfl ⟨by decide, by decide⟩ dX3_init_26 dX3_init_29 dX3_init_30 (fun H locs hz hP hD hL hS => ?_)
  have hz : H.size = sz + 70 := hz
  have hP : va_P D vwCl ([(b, .inr (3, [.ref sz, .int 0, .int 0])), (sz, .inl (G 4, 8, .inr (.inr (.inr (.inr (va_up (va_up (fun _ => none) 0 (some (sz + 1))) 1 (some (sz + 24))))))))] ++ ((([] ++ wsX9 G (sz + 1) (sz + 2)) ++ wsX9 G (sz + 24) (sz + 25)) ++ wsX9 G (sz + 47) (sz + 48))) H := hP
  have hD : va_D (kF b sz) ([(b, .inr (3, [.ref sz, .int 0, .int 0])), (sz, .inl (G 4, 8, .inr (.inr (.inr (.inr (va_up (va_up (fun _ => none) 0 (some (sz + 1))) 1 (some (sz + 24))))))))] ++ ((([] ++ wsX9 G (sz + 1) (sz + 2)) ++ wsX9 G (sz + 24) (sz + 25)) ++ wsX9 G (sz + 47) (sz + 48))) := hD
  refine kd_ast (h := sz + 70) (t0 := 4) (q0 := 1) (ci := 9) (n := 8) (j := 2) (f := (va_up (va_up (fun _ => none) 0 (some (sz + 1))) 1 (some (sz + 24)))) (r := (RX9, TX9, 18)) X hP hD hL hS hz rfl rfl rfl rfl (k_vin (N := 8) ⟨by decide, by decide⟩ (by decide)) (by decide) dX3_init_33 (fun H locs hz hP hD hS => ?_)
  have hz : H.size = sz + 70 := hz
  have hP : va_P D vwCl ([(b, .inr (3, [.ref sz, .int 0, .int 0])), (sz, .inl (G 4, 8, .inr (.inr (.inr (.inr (va_up (va_up (va_up (fun _ => none) 0 (some (sz + 1))) 1 (some (sz + 24))) 2 (some (sz + 47))))))))] ++ ((([] ++ wsX9 G (sz + 1) (sz + 2)) ++ wsX9 G (sz + 24) (sz + 25)) ++ wsX9 G (sz + 47) (sz + 48))) H := hP
  have hD : va_D (kF b sz) ([(b, .inr (3, [.ref sz, .int 0, .int 0])), (sz, .inl (G 4, 8, .inr (.inr (.inr (.inr (va_up (va_up (va_up (fun _ => none) 0 (some (sz + 1))) 1 (some (sz + 24))) 2 (some (sz + 47))))))))] ++ ((([] ++ wsX9 G (sz + 1) (sz + 2)) ++ wsX9 G (sz + 24) (sz + 25)) ++ wsX9 G (sz + 47) (sz + 48))) := hD
  refine lv_iinc (v := 3) (lv' := [(1, .int 3), (0, .ref b)]) X.1 X.2.1 dX3_init_34 hl (k := 0) rfl (by decide) (by decide) rfl (fun ls hl => ?_)
  refine lv_goto (tgt := 15) X.1 X.2.1 dX3_init_37 (by decide) ?_
  refine lv_iload_n X.1 X.2.1 dX3_init_15 rfl (lv_at hl 0 rfl) ?_
  refine lv_bipush (v := 8) X.1 X.2.1 dX3_init_16 (by decide) ?_
  refine lv_icmp_ge (tgt := 40) X.1 X.2.1 dX3_init_18 (by decide) (fun c9 => absurd c9 (by decide)) (fun _ => ?_)
  refine lv_aload_n X.1 X.2.1 dX3_init_21 rfl (lv_at hl 1 rfl) ?_
  refine kd_get (tag := 3) (i := 0) (N := 3) (T := TX3) (fs := [.ref sz, .int 0, .int 0]) (v := .ref sz) X hP rfl in_X3 rfl (by decide) t_312 rfl dX3_init_22 ?_
  refine lv_iload_n X.1 X.2.1 dX3_init_25 rfl (lv_at hl 0 rfl) ?_
  refine kd_make (h := sz + 70) (h1 := sz + 93) (tag := 9) (n := 22) (cells1 := 93) (slots1 := 1156) (fs := fsX9) X hP hD hS hz rfl rfl in_X9 tyX9_ok fr_X9 t_309 t_82 t_4 (c_X9_init l D G (sz + 70) (sz + 71)) rfl rfl ⟨by decide +kernel, by decide +kernel, by decide +kernel⟩ t_84 t_85 (Or.inl t_311) ⟨rfl, rfl⟩ ⟨by decide, by decide⟩ hl.1 (Nat.le_of_ble_eq_true rfl) rfl rfl ⟨by decide, by decide⟩ dX3_init_26 dX3_init_29 dX3_init_30 (fun H locs hz hP hD hL hS => ?_)
  have hz : H.size = sz + 93 := hz
  have hP : va_P D vwCl ([(b, .inr (3, [.ref sz, .int 0, .int 0])), (sz, .inl (G 4, 8, .inr (.inr (.inr (.inr (va_up (va_up (va_up (fun _ => none) 0 (some (sz + 1))) 1 (some (sz + 24))) 2 (some (sz + 47))))))))] ++ (((([] ++ wsX9 G (sz + 1) (sz + 2)) ++ wsX9 G (sz + 24) (sz + 25)) ++ wsX9 G (sz + 47) (sz + 48)) ++ wsX9 G (sz + 70) (sz + 71))) H := hP
  have hD : va_D (kF b sz) ([(b, .inr (3, [.ref sz, .int 0, .int 0])), (sz, .inl (G 4, 8, .inr (.inr (.inr (.inr (va_up (va_up (va_up (fun _ => none) 0 (some (sz + 1))) 1 (some (sz + 24))) 2 (some (sz + 47))))))))] ++ (((([] ++ wsX9 G (sz + 1) (sz + 2)) ++ wsX9 G (sz + 24) (sz + 25)) ++ wsX9 G (sz + 47) (sz + 48)) ++ wsX9 G (sz + 70) (sz + 71))) := hD
  refine kd_ast (h := sz + 93) (t0 := 4) (q0 := 1) (ci := 9) (n := 8) (j := 3) (f := (va_up (va_up (va_up (fun _ => none) 0 (some (sz + 1))) 1 (some (sz + 24))) 2 (some (sz + 47)))) (r := (RX9, TX9, 18)) X hP hD hL hS hz rfl rfl rfl rfl (k_vin (N := 8) ⟨by decide, by decide⟩ (by decide)) (by decide) dX3_init_33 (fun H locs hz hP hD hS => ?_)
  have hz : H.size = sz + 93 := hz
  have hP : va_P D vwCl ([(b, .inr (3, [.ref sz, .int 0, .int 0])), (sz, .inl (G 4, 8, .inr (.inr (.inr (.inr (va_up (va_up (va_up (va_up (fun _ => none) 0 (some (sz + 1))) 1 (some (sz + 24))) 2 (some (sz + 47))) 3 (some (sz + 70))))))))] ++ (((([] ++ wsX9 G (sz + 1) (sz + 2)) ++ wsX9 G (sz + 24) (sz + 25)) ++ wsX9 G (sz + 47) (sz + 48)) ++ wsX9 G (sz + 70) (sz + 71))) H := hP
  have hD : va_D (kF b sz) ([(b, .inr (3, [.ref sz, .int 0, .int 0])), (sz, .inl (G 4, 8, .inr (.inr (.inr (.inr (va_up (va_up (va_up (va_up (fun _ => none) 0 (some (sz + 1))) 1 (some (sz + 24))) 2 (some (sz + 47))) 3 (some (sz + 70))))))))] ++ (((([] ++ wsX9 G (sz + 1) (sz + 2)) ++ wsX9 G (sz + 24) (sz + 25)) ++ wsX9 G (sz + 47) (sz + 48)) ++ wsX9 G (sz + 70) (sz + 71))) := hD
  refine lv_iinc (v := 4) (lv' := [(1, .int 4), (0, .ref b)]) X.1 X.2.1 dX3_init_34 hl (k := 0) rfl (by decide) (by decide) rfl (fun ls hl => ?_)
  refine lv_goto (tgt := 15) X.1 X.2.1 dX3_init_37 (by decide) ?_
  refine lv_iload_n X.1 X.2.1 dX3_init_15 rfl (lv_at hl 0 rfl) ?_
  refine lv_bipush (v := 8) X.1 X.2.1 dX3_init_16 (by decide) ?_
  refine lv_icmp_ge (tgt := 40) X.1 X.2.1 dX3_init_18 (by decide) (fun c9 => absurd c9 (by decide)) (fun _ => ?_)
  refine lv_aload_n X.1 X.2.1 dX3_init_21 rfl (lv_at hl 1 rfl) ?_
  refine kd_get (tag := 3) (i := 0) (N := 3) (T := TX3) (fs := [.ref sz, .int 0, .int 0]) (v := .ref sz) X hP rfl in_X3 rfl (by decide) t_312 rfl dX3_init_22 ?_
  refine lv_iload_n X.1 X.2.1 dX3_init_25 rfl (lv_at hl 0 rfl) ?_
  refine kd_make (h := sz + 93) (h1 := sz + 116) (tag := 9) (n := 22) (cells1 := 116) (slots1 := 1443) (fs := fsX9) X hP hD hS hz rfl rfl in_X9 tyX9_ok fr_X9 t_309 t_82 t_4 (c_X9_init l D G (sz + 93) (sz + 94)) rfl rfl ⟨by decide +kernel, by decide +kernel, by decide +kernel⟩ t_84 t_85 (Or.inl t_311) ⟨rfl, rfl⟩ ⟨by decide, by decide⟩ hl.1 (Nat.le_of_ble_eq_true rfl) rfl rfl ⟨by decide, by decide⟩ dX3_init_26 dX3_init_29 dX3_init_30 (fun H locs hz hP hD hL hS => ?_)
  have hz : H.size = sz + 116 := hz
  have hP : va_P D vwCl ([(b, .inr (3, [.ref sz, .int 0, .int 0])), (sz, .inl (G 4, 8, .inr (.inr (.inr (.inr (va_up (va_up (va_up (va_up (fun _ => none) 0 (some (sz + 1))) 1 (some (sz + 24))) 2 (some (sz + 47))) 3 (some (sz + 70))))))))] ++ ((((([] ++ wsX9 G (sz + 1) (sz + 2)) ++ wsX9 G (sz + 24) (sz + 25)) ++ wsX9 G (sz + 47) (sz + 48)) ++ wsX9 G (sz + 70) (sz + 71)) ++ wsX9 G (sz + 93) (sz + 94))) H := hP
  have hD : va_D (kF b sz) ([(b, .inr (3, [.ref sz, .int 0, .int 0])), (sz, .inl (G 4, 8, .inr (.inr (.inr (.inr (va_up (va_up (va_up (va_up (fun _ => none) 0 (some (sz + 1))) 1 (some (sz + 24))) 2 (some (sz + 47))) 3 (some (sz + 70))))))))] ++ ((((([] ++ wsX9 G (sz + 1) (sz + 2)) ++ wsX9 G (sz + 24) (sz + 25)) ++ wsX9 G (sz + 47) (sz + 48)) ++ wsX9 G (sz + 70) (sz + 71)) ++ wsX9 G (sz + 93) (sz + 94))) := hD
  refine kd_ast (h := sz + 116) (t0 := 4) (q0 := 1) (ci := 9) (n := 8) (j := 4) (f := (va_up (va_up (va_up (va_up (fun _ => none) 0 (some (sz + 1))) 1 (some (sz + 24))) 2 (some (sz + 47))) 3 (some (sz + 70)))) (r := (RX9, TX9, 18)) X hP hD hL hS hz rfl rfl rfl rfl (k_vin (N := 8) ⟨by decide, by decide⟩ (by decide)) (by decide) dX3_init_33 (fun H locs hz hP hD hS => ?_)
  have hz : H.size = sz + 116 := hz
  have hP : va_P D vwCl ([(b, .inr (3, [.ref sz, .int 0, .int 0])), (sz, .inl (G 4, 8, .inr (.inr (.inr (.inr (va_up (va_up (va_up (va_up (va_up (fun _ => none) 0 (some (sz + 1))) 1 (some (sz + 24))) 2 (some (sz + 47))) 3 (some (sz + 70))) 4 (some (sz + 93))))))))] ++ ((((([] ++ wsX9 G (sz + 1) (sz + 2)) ++ wsX9 G (sz + 24) (sz + 25)) ++ wsX9 G (sz + 47) (sz + 48)) ++ wsX9 G (sz + 70) (sz + 71)) ++ wsX9 G (sz + 93) (sz + 94))) H := hP
  have hD : va_D (kF b sz) ([(b, .inr (3, [.ref sz, .int 0, .int 0])), (sz, .inl (G 4, 8, .inr (.inr (.inr (.inr (va_up (va_up (va_up (va_up (va_up (fun _ => none) 0 (some (sz + 1))) 1 (some (sz + 24))) 2 (some (sz + 47))) 3 (some (sz + 70))) 4 (some (sz + 93))))))))] ++ ((((([] ++ wsX9 G (sz + 1) (sz + 2)) ++ wsX9 G (sz + 24) (sz + 25)) ++ wsX9 G (sz + 47) (sz + 48)) ++ wsX9 G (sz + 70) (sz + 71)) ++ wsX9 G (sz + 93) (sz + 94))) := hD
  refine lv_iinc (v := 5) (lv' := [(1, .int 5), (0, .ref b)]) X.1 X.2.1 dX3_init_34 hl (k := 0) rfl (by decide) (by decide) rfl (fun ls hl => ?_)
  refine lv_goto (tgt := 15) X.1 X.2.1 dX3_init_37 (by decide) ?_
  refine lv_iload_n X.1 X.2.1 dX3_init_15 rfl (lv_at hl 0 rfl) ?_
  refine lv_bipush (v := 8) X.1 X.2.1 dX3_init_16 (by decide) ?_
  refine lv_icmp_ge (tgt := 40) X.1 X.2.1 dX3_init_18 (by decide) (fun c9 => absurd c9 (by decide)) (fun _ => ?_)
  refine lv_aload_n X.1 X.2.1 dX3_init_21 rfl (lv_at hl 1 rfl) ?_
  refine kd_get (tag := 3) (i := 0) (N := 3) (T := TX3) (fs := [.ref sz, .int 0, .int 0]) (v := .ref sz) X hP rfl in_X3 rfl (by decide) t_312 rfl dX3_init_22 ?_
  refine lv_iload_n X.1 X.2.1 dX3_init_25 rfl (lv_at hl 0 rfl) ?_
  refine kd_make (h := sz + 116) (h1 := sz + 139) (tag := 9) (n := 22) (cells1 := 139) (slots1 := 1730) (fs := fsX9) X hP hD hS hz rfl rfl in_X9 tyX9_ok fr_X9 t_309 t_82 t_4 (c_X9_init l D G (sz + 116) (sz + 117)) rfl rfl ⟨by decide +kernel, by decide +kernel, by decide +kernel⟩ t_84 t_85 (Or.inl t_311) ⟨rfl, rfl⟩ ⟨by decide, by decide⟩ hl.1 (Nat.le_of_ble_eq_true rfl) rfl rfl ⟨by decide, by decide⟩ dX3_init_26 dX3_init_29 dX3_init_30 (fun H locs hz hP hD hL hS => ?_)
  have hz : H.size = sz + 139 := hz
  have hP : va_P D vwCl ([(b, .inr (3, [.ref sz, .int 0, .int 0])), (sz, .inl (G 4, 8, .inr (.inr (.inr (.inr (va_up (va_up (va_up (va_up (va_up (fun _ => none) 0 (some (sz + 1))) 1 (some (sz + 24))) 2 (some (sz + 47))) 3 (some (sz + 70))) 4 (some (sz + 93))))))))] ++ (((((([] ++ wsX9 G (sz + 1) (sz + 2)) ++ wsX9 G (sz + 24) (sz + 25)) ++ wsX9 G (sz + 47) (sz + 48)) ++ wsX9 G (sz + 70) (sz + 71)) ++ wsX9 G (sz + 93) (sz + 94)) ++ wsX9 G (sz + 116) (sz + 117))) H := hP
  have hD : va_D (kF b sz) ([(b, .inr (3, [.ref sz, .int 0, .int 0])), (sz, .inl (G 4, 8, .inr (.inr (.inr (.inr (va_up (va_up (va_up (va_up (va_up (fun _ => none) 0 (some (sz + 1))) 1 (some (sz + 24))) 2 (some (sz + 47))) 3 (some (sz + 70))) 4 (some (sz + 93))))))))] ++ (((((([] ++ wsX9 G (sz + 1) (sz + 2)) ++ wsX9 G (sz + 24) (sz + 25)) ++ wsX9 G (sz + 47) (sz + 48)) ++ wsX9 G (sz + 70) (sz + 71)) ++ wsX9 G (sz + 93) (sz + 94)) ++ wsX9 G (sz + 116) (sz + 117))) := hD
  refine kd_ast (h := sz + 139) (t0 := 4) (q0 := 1) (ci := 9) (n := 8) (j := 5) (f := (va_up (va_up (va_up (va_up (va_up (fun _ => none) 0 (some (sz + 1))) 1 (some (sz + 24))) 2 (some (sz + 47))) 3 (some (sz + 70))) 4 (some (sz + 93)))) (r := (RX9, TX9, 18)) X hP hD hL hS hz rfl rfl rfl rfl (k_vin (N := 8) ⟨by decide, by decide⟩ (by decide)) (by decide) dX3_init_33 (fun H locs hz hP hD hS => ?_)
  have hz : H.size = sz + 139 := hz
  have hP : va_P D vwCl ([(b, .inr (3, [.ref sz, .int 0, .int 0])), (sz, .inl (G 4, 8, .inr (.inr (.inr (.inr (va_up (va_up (va_up (va_up (va_up (va_up (fun _ => none) 0 (some (sz + 1))) 1 (some (sz + 24))) 2 (some (sz + 47))) 3 (some (sz + 70))) 4 (some (sz + 93))) 5 (some (sz + 116))))))))] ++ (((((([] ++ wsX9 G (sz + 1) (sz + 2)) ++ wsX9 G (sz + 24) (sz + 25)) ++ wsX9 G (sz + 47) (sz + 48)) ++ wsX9 G (sz + 70) (sz + 71)) ++ wsX9 G (sz + 93) (sz + 94)) ++ wsX9 G (sz + 116) (sz + 117))) H := hP
  have hD : va_D (kF b sz) ([(b, .inr (3, [.ref sz, .int 0, .int 0])), (sz, .inl (G 4, 8, .inr (.inr (.inr (.inr (va_up (va_up (va_up (va_up (va_up (va_up (fun _ => none) 0 (some (sz + 1))) 1 (some (sz + 24))) 2 (some (sz + 47))) 3 (some (sz + 70))) 4 (some (sz + 93))) 5 (some (sz + 116))))))))] ++ (((((([] ++ wsX9 G (sz + 1) (sz + 2)) ++ wsX9 G (sz + 24) (sz + 25)) ++ wsX9 G (sz + 47) (sz + 48)) ++ wsX9 G (sz + 70) (sz + 71)) ++ wsX9 G (sz + 93) (sz + 94)) ++ wsX9 G (sz + 116) (sz + 117))) := hD
  refine lv_iinc (v := 6) (lv' := [(1, .int 6), (0, .ref b)]) X.1 X.2.1 dX3_init_34 hl (k := 0) rfl (by decide) (by decide) rfl (fun ls hl => ?_)
  refine lv_goto (tgt := 15) X.1 X.2.1 dX3_init_37 (by decide) ?_
  refine lv_iload_n X.1 X.2.1 dX3_init_15 rfl (lv_at hl 0 rfl) ?_
  refine lv_bipush (v := 8) X.1 X.2.1 dX3_init_16 (by decide) ?_
  refine lv_icmp_ge (tgt := 40) X.1 X.2.1 dX3_init_18 (by decide) (fun c9 => absurd c9 (by decide)) (fun _ => ?_)
  refine lv_aload_n X.1 X.2.1 dX3_init_21 rfl (lv_at hl 1 rfl) ?_
  refine kd_get (tag := 3) (i := 0) (N := 3) (T := TX3) (fs := [.ref sz, .int 0, .int 0]) (v := .ref sz) X hP rfl in_X3 rfl (by decide) t_312 rfl dX3_init_22 ?_
  refine lv_iload_n X.1 X.2.1 dX3_init_25 rfl (lv_at hl 0 rfl) ?_
  refine kd_make (h := sz + 139) (h1 := sz + 162) (tag := 9) (n := 22) (cells1 := 162) (slots1 := 2017) (fs := fsX9) X hP hD hS hz rfl rfl in_X9 tyX9_ok fr_X9 t_309 t_82 t_4 (c_X9_init l D G (sz + 139) (sz + 140)) rfl rfl ⟨by decide +kernel, by decide +kernel, by decide +kernel⟩ t_84 t_85 (Or.inl t_311) ⟨rfl, rfl⟩ ⟨by decide, by decide⟩ hl.1 (Nat.le_of_ble_eq_true rfl) rfl rfl ⟨by decide, by decide⟩ dX3_init_26 dX3_init_29 dX3_init_30 (fun H locs hz hP hD hL hS => ?_)
  have hz : H.size = sz + 162 := hz
  have hP : va_P D vwCl ([(b, .inr (3, [.ref sz, .int 0, .int 0])), (sz, .inl (G 4, 8, .inr (.inr (.inr (.inr (va_up (va_up (va_up (va_up (va_up (va_up (fun _ => none) 0 (some (sz + 1))) 1 (some (sz + 24))) 2 (some (sz + 47))) 3 (some (sz + 70))) 4 (some (sz + 93))) 5 (some (sz + 116))))))))] ++ ((((((([] ++ wsX9 G (sz + 1) (sz + 2)) ++ wsX9 G (sz + 24) (sz + 25)) ++ wsX9 G (sz + 47) (sz + 48)) ++ wsX9 G (sz + 70) (sz + 71)) ++ wsX9 G (sz + 93) (sz + 94)) ++ wsX9 G (sz + 116) (sz + 117)) ++ wsX9 G (sz + 139) (sz + 140))) H := hP
  have hD : va_D (kF b sz) ([(b, .inr (3, [.ref sz, .int 0, .int 0])), (sz, .inl (G 4, 8, .inr (.inr (.inr (.inr (va_up (va_up (va_up (va_up (va_up (va_up (fun _ => none) 0 (some (sz + 1))) 1 (some (sz + 24))) 2 (some (sz + 47))) 3 (some (sz + 70))) 4 (some (sz + 93))) 5 (some (sz + 116))))))))] ++ ((((((([] ++ wsX9 G (sz + 1) (sz + 2)) ++ wsX9 G (sz + 24) (sz + 25)) ++ wsX9 G (sz + 47) (sz + 48)) ++ wsX9 G (sz + 70) (sz + 71)) ++ wsX9 G (sz + 93) (sz + 94)) ++ wsX9 G (sz + 116) (sz + 117)) ++ wsX9 G (sz + 139) (sz + 140))) := hD
  refine kd_ast (h := sz + 162) (t0 := 4) (q0 := 1) (ci := 9) (n := 8) (j := 6) (f := (va_up (va_up (va_up (va_up (va_up (va_up (fun _ => none) 0 (some (sz + 1))) 1 (some (sz + 24))) 2 (some (sz + 47))) 3 (some (sz + 70))) 4 (some (sz + 93))) 5 (some (sz + 116)))) (r := (RX9, TX9, 18)) X hP hD hL hS hz rfl rfl rfl rfl (k_vin (N := 8) ⟨by decide, by decide⟩ (by decide)) (by decide) dX3_init_33 (fun H locs hz hP hD hS => ?_)
  have hz : H.size = sz + 162 := hz
  have hP : va_P D vwCl ([(b, .inr (3, [.ref sz, .int 0, .int 0])), (sz, .inl (G 4, 8, .inr (.inr (.inr (.inr (va_up (va_up (va_up (va_up (va_up (va_up (va_up (fun _ => none) 0 (some (sz + 1))) 1 (some (sz + 24))) 2 (some (sz + 47))) 3 (some (sz + 70))) 4 (some (sz + 93))) 5 (some (sz + 116))) 6 (some (sz + 139))))))))] ++ ((((((([] ++ wsX9 G (sz + 1) (sz + 2)) ++ wsX9 G (sz + 24) (sz + 25)) ++ wsX9 G (sz + 47) (sz + 48)) ++ wsX9 G (sz + 70) (sz + 71)) ++ wsX9 G (sz + 93) (sz + 94)) ++ wsX9 G (sz + 116) (sz + 117)) ++ wsX9 G (sz + 139) (sz + 140))) H := hP
  have hD : va_D (kF b sz) ([(b, .inr (3, [.ref sz, .int 0, .int 0])), (sz, .inl (G 4, 8, .inr (.inr (.inr (.inr (va_up (va_up (va_up (va_up (va_up (va_up (va_up (fun _ => none) 0 (some (sz + 1))) 1 (some (sz + 24))) 2 (some (sz + 47))) 3 (some (sz + 70))) 4 (some (sz + 93))) 5 (some (sz + 116))) 6 (some (sz + 139))))))))] ++ ((((((([] ++ wsX9 G (sz + 1) (sz + 2)) ++ wsX9 G (sz + 24) (sz + 25)) ++ wsX9 G (sz + 47) (sz + 48)) ++ wsX9 G (sz + 70) (sz + 71)) ++ wsX9 G (sz + 93) (sz + 94)) ++ wsX9 G (sz + 116) (sz + 117)) ++ wsX9 G (sz + 139) (sz + 140))) := hD
  refine lv_iinc (v := 7) (lv' := [(1, .int 7), (0, .ref b)]) X.1 X.2.1 dX3_init_34 hl (k := 0) rfl (by decide) (by decide) rfl (fun ls hl => ?_)
  refine lv_goto (tgt := 15) X.1 X.2.1 dX3_init_37 (by decide) ?_
  refine lv_iload_n X.1 X.2.1 dX3_init_15 rfl (lv_at hl 0 rfl) ?_
  refine lv_bipush (v := 8) X.1 X.2.1 dX3_init_16 (by decide) ?_
  refine lv_icmp_ge (tgt := 40) X.1 X.2.1 dX3_init_18 (by decide) (fun c9 => absurd c9 (by decide)) (fun _ => ?_)
  refine lv_aload_n X.1 X.2.1 dX3_init_21 rfl (lv_at hl 1 rfl) ?_
  refine kd_get (tag := 3) (i := 0) (N := 3) (T := TX3) (fs := [.ref sz, .int 0, .int 0]) (v := .ref sz) X hP rfl in_X3 rfl (by decide) t_312 rfl dX3_init_22 ?_
  refine lv_iload_n X.1 X.2.1 dX3_init_25 rfl (lv_at hl 0 rfl) ?_
  refine kd_make (h := sz + 162) (h1 := sz + 185) (tag := 9) (n := 22) (cells1 := 185) (slots1 := 2304) (fs := fsX9) X hP hD hS hz rfl rfl in_X9 tyX9_ok fr_X9 t_309 t_82 t_4 (c_X9_init l D G (sz + 162) (sz + 163)) rfl rfl ⟨by decide +kernel, by decide +kernel, by decide +kernel⟩ t_84 t_85 (Or.inl t_311) ⟨rfl, rfl⟩ ⟨by decide, by decide⟩ hl.1 (Nat.le_of_ble_eq_true rfl) rfl rfl ⟨by decide, by decide⟩ dX3_init_26 dX3_init_29 dX3_init_30 (fun H locs hz hP hD hL hS => ?_)
  have hz : H.size = sz + 185 := hz
  have hP : va_P D vwCl ([(b, .inr (3, [.ref sz, .int 0, .int 0])), (sz, .inl (G 4, 8, .inr (.inr (.inr (.inr (va_up (va_up (va_up (va_up (va_up (va_up (va_up (fun _ => none) 0 (some (sz + 1))) 1 (some (sz + 24))) 2 (some (sz + 47))) 3 (some (sz + 70))) 4 (some (sz + 93))) 5 (some (sz + 116))) 6 (some (sz + 139))))))))] ++ (((((((([] ++ wsX9 G (sz + 1) (sz + 2)) ++ wsX9 G (sz + 24) (sz + 25)) ++ wsX9 G (sz + 47) (sz + 48)) ++ wsX9 G (sz + 70) (sz + 71)) ++ wsX9 G (sz + 93) (sz + 94)) ++ wsX9 G (sz + 116) (sz + 117)) ++ wsX9 G (sz + 139) (sz + 140)) ++ wsX9 G (sz + 162) (sz + 163))) H := hP
  have hD : va_D (kF b sz) ([(b, .inr (3, [.ref sz, .int 0, .int 0])), (sz, .inl (G 4, 8, .inr (.inr (.inr (.inr (va_up (va_up (va_up (va_up (va_up (va_up (va_up (fun _ => none) 0 (some (sz + 1))) 1 (some (sz + 24))) 2 (some (sz + 47))) 3 (some (sz + 70))) 4 (some (sz + 93))) 5 (some (sz + 116))) 6 (some (sz + 139))))))))] ++ (((((((([] ++ wsX9 G (sz + 1) (sz + 2)) ++ wsX9 G (sz + 24) (sz + 25)) ++ wsX9 G (sz + 47) (sz + 48)) ++ wsX9 G (sz + 70) (sz + 71)) ++ wsX9 G (sz + 93) (sz + 94)) ++ wsX9 G (sz + 116) (sz + 117)) ++ wsX9 G (sz + 139) (sz + 140)) ++ wsX9 G (sz + 162) (sz + 163))) := hD
  refine kd_ast (h := sz + 185) (t0 := 4) (q0 := 1) (ci := 9) (n := 8) (j := 7) (f := (va_up (va_up (va_up (va_up (va_up (va_up (va_up (fun _ => none) 0 (some (sz + 1))) 1 (some (sz + 24))) 2 (some (sz + 47))) 3 (some (sz + 70))) 4 (some (sz + 93))) 5 (some (sz + 116))) 6 (some (sz + 139)))) (r := (RX9, TX9, 18)) X hP hD hL hS hz rfl rfl rfl rfl (k_vin (N := 8) ⟨by decide, by decide⟩ (by decide)) (by decide) dX3_init_33 (fun H locs hz hP hD hS => ?_)
  have hz : H.size = sz + 185 := hz
  have hP : va_P D vwCl ([(b, .inr (3, [.ref sz, .int 0, .int 0])), (sz, .inl (G 4, 8, .inr (.inr (.inr (.inr (va_up (va_up (va_up (va_up (va_up (va_up (va_up (va_up (fun _ => none) 0 (some (sz + 1))) 1 (some (sz + 24))) 2 (some (sz + 47))) 3 (some (sz + 70))) 4 (some (sz + 93))) 5 (some (sz + 116))) 6 (some (sz + 139))) 7 (some (sz + 162))))))))] ++ (((((((([] ++ wsX9 G (sz + 1) (sz + 2)) ++ wsX9 G (sz + 24) (sz + 25)) ++ wsX9 G (sz + 47) (sz + 48)) ++ wsX9 G (sz + 70) (sz + 71)) ++ wsX9 G (sz + 93) (sz + 94)) ++ wsX9 G (sz + 116) (sz + 117)) ++ wsX9 G (sz + 139) (sz + 140)) ++ wsX9 G (sz + 162) (sz + 163))) H := hP
  have hD : va_D (kF b sz) ([(b, .inr (3, [.ref sz, .int 0, .int 0])), (sz, .inl (G 4, 8, .inr (.inr (.inr (.inr (va_up (va_up (va_up (va_up (va_up (va_up (va_up (va_up (fun _ => none) 0 (some (sz + 1))) 1 (some (sz + 24))) 2 (some (sz + 47))) 3 (some (sz + 70))) 4 (some (sz + 93))) 5 (some (sz + 116))) 6 (some (sz + 139))) 7 (some (sz + 162))))))))] ++ (((((((([] ++ wsX9 G (sz + 1) (sz + 2)) ++ wsX9 G (sz + 24) (sz + 25)) ++ wsX9 G (sz + 47) (sz + 48)) ++ wsX9 G (sz + 70) (sz + 71)) ++ wsX9 G (sz + 93) (sz + 94)) ++ wsX9 G (sz + 116) (sz + 117)) ++ wsX9 G (sz + 139) (sz + 140)) ++ wsX9 G (sz + 162) (sz + 163))) := hD
  refine lv_iinc (v := 8) (lv' := [(1, .int 8), (0, .ref b)]) X.1 X.2.1 dX3_init_34 hl (k := 0) rfl (by decide) (by decide) rfl (fun ls hl => ?_)
  refine lv_goto (tgt := 15) X.1 X.2.1 dX3_init_37 (by decide) ?_
  refine lv_iload_n X.1 X.2.1 dX3_init_15 rfl (lv_at hl 0 rfl) ?_
  refine lv_bipush (v := 8) X.1 X.2.1 dX3_init_16 (by decide) ?_
  refine lv_icmp_ge (tgt := 40) X.1 X.2.1 dX3_init_18 (by decide) (fun _ => ?_) (fun c9 => absurd (by decide) c9)
  exact kc_vret (h := sz + 185) (n := 185) X hP hD hS hz rfl rfl ⟨rfl, rfl⟩ dX3_init_40

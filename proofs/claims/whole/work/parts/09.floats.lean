/-- a quotient of two ints as a float, as a double; 0 where the divisor is 0 -/
def k_fq (a b : Int32) (r : UInt32) : Prop := if b = 0 then r = FP.fconst0 else alike32 r (FP.fdiv (FP.i2f a) (FP.i2f b)) = true
def k_dq (a b : Int32) (r : UInt64) : Prop := if b = 0 then r = FP.dconst0 else alike64 r (FP.ddiv (FP.i2d a) (FP.i2d b)) = true
def k_Qf (D : va_G) (G : Nat → ClassId) (ad : Nat → Nat → Nat) (u : k_U) (q : Int32 × Int32) (sz : Nat) : Array Value → State → Outcome → State → Prop := va_Qf (fun (x : UInt32) (_ : Unit) => k_fq q.1 q.2 x) (fun _ t => k_Uv D G ad u t.heap) (k_A ad sz)
def k_Qd (D : va_G) (G : Nat → ClassId) (ad : Nat → Nat → Nat) (u : k_U) (q : Int32 × Int32) (sz : Nat) : Array Value → State → Outcome → State → Prop := va_Qd (fun (x : UInt64) (_ : Unit) => k_dq q.1 q.2 x) (fun _ t => k_Uv D G ad u t.heap) (k_A ad sz)
section KF
variable {p : Program} {l : Launch} {e : Env} {R : Room} {s : State} {m : MethodId} {args : Array Value} {below : List Frame} {meth : Method} {c : Code} {H : Heap} {locs : List Loc} {cells slots : Nat} {Q : State → Prop}
variable {cc : ByteArray} {own : String} {nL pc : Nat} {ls : Array Slot} {rest : List Value} {D : va_G} {G : Nat → ClassId} {ad : Nat → Nat → Nat} {sz : Nat} {u : k_U}
theorem k_Cxd (X : k_Cx p s m args c own cc nL D G ad sz) (d : Drawn) : k_Cx p (s.setDrawn d) m args c own cc nL D G ad sz := by
  obtain ⟨hx, hb, hml, hown, hts, hK, hI, hsz, hWd⟩ := X
  exact ⟨hx, hb, hml, hown, dr_words hts d, hK, hI, hsz, k_Wd.same (U := s) (U' := s.setDrawn d) hWd rfl⟩
theorem k_dofW {y : MethodName} {ret : Option FieldType} {rm : Room} {av : List Value} {Qc : Array Value → State → Outcome → State → Prop} (hy : plainName y.cls = true) (hI : k_ok ad) (hn : (lg_sl av).length ≤ nL)
    (body : ∀ (p : Program) (e : Env) (s : State) (m : MethodId) (args : Array Value) (below : List Frame) (meth : Method) (c : Code), k_Cx p s m args c y.cls cc nL D G ad sz → meth.sig.returnType = ret → meth.locks = false → k_Uv D G ad u s.heap → va_S (k_A ad sz) s.heap s.heap [] → ∀ ls : Array Slot, lv_has ls nL (lv_args 0 av) → s.drawn.sameBut s.drawn lw_cs →
      W p l e rm (s.setDrawn s.drawn) m args below meth c s.heap [] 0 0 (MQD lw_cs below Qc args s 0 0 (k_A ad sz)) (F0 m 0 ls [])) :
    MetD lw_cs l y (.code y cc nL ret :: lw_g) rm (k_Pre D G ad u sz av) Qc 0 0 (k_A ad sz) := by
  refine MetD.ofW (cc := cc) (maxL := nL) (ret := ret) hy rfl ?_
  intro p e s m args below meth c s₁ B hml hv hd0
  obtain ⟨rfl, hsz, hU, hK, hWd⟩ := hv
  have hts := atoms_spec (ws := .code y cc nL ret :: lw_g) B.pre
  have hl := lv_entry av (n := nL) hn
  rw [lg_entry_eq]
  exact body p e s m _ below meth c ⟨B.exec, B.bytes, hml, findClass_of_methodNamed B.named, fun w h => hts w (List.mem_cons_of_mem _ h), hK, hI, hsz, hWd⟩ B.returns B.notSynchronized hU va_S.rf _ hl hd0
theorem k_fret {d : Drawn} {q : Int32 × Int32} {v : UInt32} (hd : s.drawn.sameBut d lw_cs) (X : k_Cx p s m args c own cc nL D G ad sz) (hU : k_Uv D G ad u H) (hS : va_S (k_A ad sz) s.heap H locs) (hr : meth.sig.returnType = some .float) (hlk : meth.locks = false) (hv : k_fq q.1 q.2 v) (hdg : decode cc pc = .ok (.freturn, 1)) :
    W p l e R (s.setDrawn d) m args below meth c H locs cells slots (MQD lw_cs below (k_Qf D G ad u q sz) args s cells slots (k_A ad sz)) (F0 m pc ls [.float v]) := by
  refine W.endD hd ?_
  exact W.fret (v := v) X.1 X.2.1 hr (fun t ht hW => ⟨⟨v, (), rfl, hv, by dsimp only; rw [ht]; exact hU⟩, hS.F ht⟩) hS.2.2 hdg hlk
theorem k_dret {d : Drawn} {q : Int32 × Int32} {v : UInt64} (hd : s.drawn.sameBut d lw_cs) (X : k_Cx p s m args c own cc nL D G ad sz) (hU : k_Uv D G ad u H) (hS : va_S (k_A ad sz) s.heap H locs) (hr : meth.sig.returnType = some .double) (hlk : meth.locks = false) (hv : k_dq q.1 q.2 v) (hdg : decode cc pc = .ok (.dreturn, 1)) :
    W p l e R (s.setDrawn d) m args below meth c H locs cells slots (MQD lw_cs below (k_Qd D G ad u q sz) args s cells slots (k_A ad sz)) (F0 m pc ls [.double v]) := by
  refine W.endD hd ?_
  exact W.dret (v := v) X.1 X.2.1 hr (fun t ht hW => ⟨⟨v, (), rfl, hv, by dsimp only; rw [ht]; exact hU⟩, hS.F ht⟩) hS.2.2 hdg hlk
end KF
def f_X10_share (u : k_U) : Option (Int32 × Int32) := k_bd (f_X9_countLines (u 10) 10) fun r6 => (if r6 = 0 then some (0, 0) else k_bd (f_X9_countLines (u 10) 11) fun r22 => some (r22, r6))
def f_X10_meanSpeed (u : k_U) : Option (Int32 × Int32) := if u 10 0 6 = 0 then some (0, 0) else some (u 10 0 8, u 10 0 6)
def f_X11_share (w : k_M) : Option (k_M × (Int32 × Int32)) := k_lt (k_up w 0 0 0) fun w2 => k_bd (f_X11_chutes w2) fun r6 => (if r6 = 0 then some (w2, (0, 0)) else k_bd (f_X11_linesThere w2) fun r17 => k_bd (f_X11_allLines w2) fun r22 => k_ck (¬ r22 = 0) (some (w2, (r17, r22))))
def f_X11_meanSpeed (w : k_M) : Option (k_M × (Int32 × Int32)) := k_lt (k_up w 0 0 0) fun w2 => if w2 1 6 = 0 then some (w2, (0, 0)) else some (w2, (w2 1 13, w2 1 6))
def rm_X10_share : Room := { frames := 3, cells := 0, slots := 0, locals := 69 }
def rm_X11_share : Room := { frames := 2, cells := 0, slots := 0, locals := 44 }
def rm_X10_meanSpeed : Room := { frames := 0, cells := 0, slots := 0, locals := 0 }
set_option maxRecDepth 100000 in
set_option maxHeartbeats 4000000 in
theorem c_X10_share {l : Launch} {D : va_G} {G : Nat → ClassId} {ad : Nat → Nat → Nat} {u : k_U} (hI : k_ok ad) {sz : Nat} {r : Int32 × Int32} (hf : f_X10_share u = some r) : MetD lw_cs l yX10_share (.code yX10_share cX10_share 2 (some .float) :: lw_g) rm_X10_share (k_Pre D G ad u sz [.ref (ad 0 0)]) (k_Qf D G ad u r sz) 0 0 (k_A ad sz) := by
  refine k_dofW (by decide +kernel) hI (Nat.le_of_ble_eq_true rfl) ?_
  intro p e s m args below meth c X0 hr hlk hU hS ls hl hd0
  have X := k_Cxd X0 s.drawn
  have hl : lv_has ls 2 [(0, .ref (ad 0 0))] := hl
  unfold f_X10_share at hf
  refine lv_aload_n X.1 X.2.1 dX10_share_0 rfl (lv_at hl 0 rfl) ?_
  refine k_get (v := .ref (ad 10 0)) X hU sh_0_0 fl_X10_33 rfl dX10_share_1 ?_
  refine lv_bipush (v := 10) X.1 X.2.1 dX10_share_4 (by decide) ?_
  obtain ⟨r6, hr6, hf⟩ := k_bdE hf
  refine k_backi X hS (k_runV (As := [.int 10]) (rest := []) X hS hU (sW_0 k_isW_10) (by decide) rfl vl_X10_231 (c_X9_countLines X.2.2.2.2.2.2.1 k_isW_10 rfl hr6) rfl rfl rfl hl.1 ⟨Nat.le_of_ble_eq_true rfl, Nat.le_of_ble_eq_true rfl⟩ (Nat.le_of_ble_eq_true rfl) dX10_share_6 ⟨Nat.zero_le _, Nat.zero_le _⟩) (fun H locs hU hS => ?_)
  refine lv_istore_n (lv' := [(1, .int r6), (0, .ref (ad 0 0))]) X.1 X.2.1 dX10_share_9 rfl hl (by decide) rfl (fun ls hl => ?_)
  refine lv_iload_n X.1 X.2.1 dX10_share_10 rfl (lv_at hl 0 rfl) ?_
  refine lv_if_ne (tgt := 16) X.1 X.2.1 dX10_share_11 (by decide) (fun c11 => ?_) (fun c11 => ?_)
  · replace hf := k_ifN hf c11
    refine lv_aload_n X.1 X.2.1 dX10_share_16 rfl (lv_at hl 1 rfl) ?_
    refine k_get (v := .ref (ad 10 0)) X hU sh_0_0 fl_X10_33 rfl dX10_share_17 ?_
    refine lv_bipush (v := 11) X.1 X.2.1 dX10_share_20 (by decide) ?_
    obtain ⟨r22, hr22, hf⟩ := k_bdE hf
    refine k_backi X hS (k_runV (As := [.int 11]) (rest := []) X hS hU (sW_0 k_isW_10) (by decide) rfl vl_X10_231 (c_X9_countLines X.2.2.2.2.2.2.1 k_isW_10 rfl hr22) rfl rfl rfl hl.1 ⟨Nat.le_of_ble_eq_true rfl, Nat.le_of_ble_eq_true rfl⟩ (Nat.le_of_ble_eq_true rfl) dX10_share_22 ⟨Nat.zero_le _, Nat.zero_le _⟩) (fun H locs hU hS => ?_)
    refine lv_i2f X.1 X.2.1 dX10_share_25 ?_
    refine lv_iload_n X.1 X.2.1 dX10_share_26 rfl (lv_at hl 0 rfl) ?_
    refine lv_i2f X.1 X.2.1 dX10_share_27 ?_
    refine lv_fdiv_any hd0 lw_bits X.1 X.2.1 dX10_share_28 (fun v d1 hal hd1 => ?_)
    have hz := Option.some.inj hf
    subst hz
    exact k_fret hd1 X0 hU hS hr hlk (by unfold k_fq; rw [if_neg c11]; exact hal) dX10_share_29
  · replace hf := k_ifP hf c11
    refine lv_fconst0 X.1 X.2.1 dX10_share_14 ?_
    have hz := Option.some.inj hf
    subst hz
    exact k_fret hd0 X0 hU hS hr hlk (by unfold k_fq; rw [if_pos rfl]) dX10_share_15
set_option maxRecDepth 100000 in
set_option maxHeartbeats 4000000 in
theorem c_X10_meanSpeed {l : Launch} {D : va_G} {G : Nat → ClassId} {ad : Nat → Nat → Nat} {u : k_U} (hI : k_ok ad) {sz : Nat} {r : Int32 × Int32} (hf : f_X10_meanSpeed u = some r) : MetD lw_cs l yX10_meanSpeed (.code yX10_meanSpeed cX10_meanSpeed 1 (some .double) :: lw_g) rm_X10_meanSpeed (k_Pre D G ad u sz [.ref (ad 0 0)]) (k_Qd D G ad u r sz) 0 0 (k_A ad sz) := by
  refine k_dofW (by decide +kernel) hI (Nat.le_of_ble_eq_true rfl) ?_
  intro p e s m args below meth c X0 hr hlk hU hS ls hl hd0
  have X := k_Cxd X0 s.drawn
  have hl : lv_has ls 1 [(0, .ref (ad 0 0))] := hl
  unfold f_X10_meanSpeed at hf
  refine lv_aload_n X.1 X.2.1 dX10_meanSpeed_0 rfl (lv_at hl 0 rfl) ?_
  refine k_get (v := .ref (ad 10 0)) X hU sh_0_0 fl_X10_33 rfl dX10_meanSpeed_1 ?_
  refine k_get (v := .int (u 10 0 6)) X hU (sW_0 k_isW_10) fl_X10_171 rfl dX10_meanSpeed_4 ?_
  refine lv_if_ne (tgt := 12) X.1 X.2.1 dX10_meanSpeed_7 (by decide) (fun c11 => ?_) (fun c11 => ?_)
  · replace hf := k_ifN hf c11
    refine lv_aload_n X.1 X.2.1 dX10_meanSpeed_12 rfl (lv_at hl 0 rfl) ?_
    refine k_get (v := .ref (ad 10 0)) X hU sh_0_0 fl_X10_33 rfl dX10_meanSpeed_13 ?_
    refine k_get (v := .int (u 10 0 8)) X hU (sW_0 k_isW_10) fl_X10_225 rfl dX10_meanSpeed_16 ?_
    refine lv_i2d X.1 X.2.1 dX10_meanSpeed_19 ?_
    refine lv_aload_n X.1 X.2.1 dX10_meanSpeed_20 rfl (lv_at hl 0 rfl) ?_
    refine k_get (v := .ref (ad 10 0)) X hU sh_0_0 fl_X10_33 rfl dX10_meanSpeed_21 ?_
    refine k_get (v := .int (u 10 0 6)) X hU (sW_0 k_isW_10) fl_X10_171 rfl dX10_meanSpeed_24 ?_
    refine lv_i2d X.1 X.2.1 dX10_meanSpeed_27 ?_
    refine lv_ddiv_any hd0 lw_bits X.1 X.2.1 dX10_meanSpeed_28 (fun v d1 hal hd1 => ?_)
    have hz := Option.some.inj hf
    subst hz
    exact k_dret hd1 X0 hU hS hr hlk (by unfold k_dq; rw [if_neg c11]; exact hal) dX10_meanSpeed_29
  · replace hf := k_ifP hf c11
    refine lv_dconst0 X.1 X.2.1 dX10_meanSpeed_10 ?_
    have hz := Option.some.inj hf
    subst hz
    exact k_dret hd0 X0 hU hS hr hlk (by unfold k_dq; rw [if_pos rfl]) dX10_meanSpeed_11
set_option maxRecDepth 100000 in
set_option maxHeartbeats 4000000 in
theorem c_X11_share {l : Launch} {D : va_G} {G : Nat → ClassId} {ad : Nat → Nat → Nat} {u : k_U} (hI : k_ok ad) {w : k_M} (hw : u 5 = w) {sz : Nat} {r : k_M × (Int32 × Int32)} (hf : f_X11_share w = some r) : MetD lw_cs l yX11_share (.code yX11_share cX11_share 1 (some .float) :: lw_g) rm_X11_share (k_Pre D G ad u sz [.ref (ad 5 0)]) (k_Qf D G ad (k_uc u 5 r.1) r.2 sz) 0 0 (k_A ad sz) := by
  refine k_dofW (by decide +kernel) hI (Nat.le_of_ble_eq_true rfl) ?_
  intro p e s m args below meth c X0 hr hlk hU hS ls hl hd0
  have X := k_Cxd X0 s.drawn
  have hl : lv_has ls 1 [(0, .ref (ad 5 0))] := hl
  have hU : k_Uv D G ad (k_uc u 5 w) s.heap := by rw [← hw, k_uc_id]; exact hU
  unfold f_X11_share at hf
  refine lv_aload_n X.1 X.2.1 dX11_share_0 rfl (lv_at hl 0 rfl) ?_
  refine lv_iconst (v := 0) X.1 X.2.1 dX11_share_1 (by decide) ?_
  obtain ⟨w2, e2, hf⟩ := k_ltE hf
  refine k_putw X hU hS sh_5_0 fp_X11_50 rfl e2 rfl rfl dX11_share_2 (fun H locs hU hS => ?_)
  refine lv_aload_n X.1 X.2.1 dX11_share_5 rfl (lv_at hl 0 rfl) ?_
  obtain ⟨r6, hr6, hf⟩ := k_bdE hf
  refine k_backi X hS (k_runV (As := []) (rest := []) X hS hU sh_5_0 (by decide) rfl vl_X11_53 (c_X11_chutes X.2.2.2.2.2.2.1 (k_uc_s _ _ _) hr6) rfl rfl rfl hl.1 ⟨Nat.le_of_ble_eq_true rfl, Nat.le_of_ble_eq_true rfl⟩ (Nat.le_of_ble_eq_true rfl) dX11_share_6 ⟨Nat.zero_le _, Nat.zero_le _⟩) (fun H locs hU hS => ?_)
  refine lv_if_ne (tgt := 16) X.1 X.2.1 dX11_share_9 (by decide) (fun c11 => ?_) (fun c11 => ?_)
  · replace hf := k_ifN hf c11
    refine lv_aload_n X.1 X.2.1 dX11_share_16 rfl (lv_at hl 0 rfl) ?_
    obtain ⟨r17, hr17, hf⟩ := k_bdE hf
    refine k_backi X hS (k_runV (As := []) (rest := []) X hS hU sh_5_0 (by decide) rfl vl_X11_182 (c_X11_linesThere X.2.2.2.2.2.2.1 (k_uc_s _ _ _) hr17) rfl rfl rfl hl.1 ⟨Nat.le_of_ble_eq_true rfl, Nat.le_of_ble_eq_true rfl⟩ (Nat.le_of_ble_eq_true rfl) dX11_share_17 ⟨Nat.zero_le _, Nat.zero_le _⟩) (fun H locs hU hS => ?_)
    refine lv_i2f X.1 X.2.1 dX11_share_20 ?_
    refine lv_aload_n X.1 X.2.1 dX11_share_21 rfl (lv_at hl 0 rfl) ?_
    obtain ⟨r22, hr22, hf⟩ := k_bdE hf
    refine k_backi X hS (k_runV (As := []) (rest := [.float (FP.i2f r17)]) X hS hU sh_5_0 (by decide) rfl vl_X11_179 (c_X11_allLines X.2.2.2.2.2.2.1 (k_uc_s _ _ _) hr22) rfl rfl rfl hl.1 ⟨Nat.le_of_ble_eq_true rfl, Nat.le_of_ble_eq_true rfl⟩ (Nat.le_of_ble_eq_true rfl) dX11_share_22 ⟨Nat.zero_le _, Nat.zero_le _⟩) (fun H locs hU hS => ?_)
    refine lv_i2f X.1 X.2.1 dX11_share_25 ?_
    obtain ⟨hn, hf⟩ := k_ckE hf
    refine lv_fdiv_any hd0 lw_bits X.1 X.2.1 dX11_share_26 (fun v d1 hal hd1 => ?_)
    have hz := Option.some.inj hf
    subst hz
    exact k_fret (q := (r17, r22)) hd1 X0 hU hS hr hlk (by unfold k_fq; rw [if_neg hn]; exact hal) dX11_share_27
  · replace hf := k_ifP hf c11
    refine lv_fconst0 X.1 X.2.1 dX11_share_12 ?_
    refine lv_goto (tgt := 27) X.1 X.2.1 dX11_share_13 (by decide) ?_
    have hz := Option.some.inj hf
    subst hz
    exact k_fret (q := (0, 0)) hd0 X0 hU hS hr hlk (by unfold k_fq; rw [if_pos rfl]) dX11_share_27
set_option maxRecDepth 100000 in
set_option maxHeartbeats 4000000 in
theorem c_X11_meanSpeed {l : Launch} {D : va_G} {G : Nat → ClassId} {ad : Nat → Nat → Nat} {u : k_U} (hI : k_ok ad) {w : k_M} (hw : u 5 = w) {sz : Nat} {r : k_M × (Int32 × Int32)} (hf : f_X11_meanSpeed w = some r) : MetD lw_cs l yX11_meanSpeed (.code yX11_meanSpeed cX11_meanSpeed 1 (some .double) :: lw_g) rm_X10_meanSpeed (k_Pre D G ad u sz [.ref (ad 5 0)]) (k_Qd D G ad (k_uc u 5 r.1) r.2 sz) 0 0 (k_A ad sz) := by
  refine k_dofW (by decide +kernel) hI (Nat.le_of_ble_eq_true rfl) ?_
  intro p e s m args below meth c X0 hr hlk hU hS ls hl hd0
  have X := k_Cxd X0 s.drawn
  have hl : lv_has ls 1 [(0, .ref (ad 5 0))] := hl
  have hU : k_Uv D G ad (k_uc u 5 w) s.heap := by rw [← hw, k_uc_id]; exact hU
  unfold f_X11_meanSpeed at hf
  refine lv_aload_n X.1 X.2.1 dX11_meanSpeed_0 rfl (lv_at hl 0 rfl) ?_
  refine lv_iconst (v := 0) X.1 X.2.1 dX11_meanSpeed_1 (by decide) ?_
  obtain ⟨w2, e2, hf⟩ := k_ltE hf
  refine k_putw X hU hS sh_5_0 fp_X11_50 rfl e2 rfl rfl dX11_meanSpeed_2 (fun H locs hU hS => ?_)
  refine lv_aload_n X.1 X.2.1 dX11_meanSpeed_5 rfl (lv_at hl 0 rfl) ?_
  refine k_getw (v := .ref (ad 5 1)) X hU sh_5_0 fl_X11_7 rfl dX11_meanSpeed_6 ?_
  refine lv_bipush (v := 6) X.1 X.2.1 dX11_meanSpeed_9 (by decide) ?_
  refine k_ildw (j0 := 6) X hU sh_5_1 (k_vin (N := 268) (by decide) (by decide)) (by decide) dX11_meanSpeed_11 ?_
  refine lv_if_ne (tgt := 19) X.1 X.2.1 dX11_meanSpeed_12 (by decide) (fun c11 => ?_) (fun c11 => ?_)
  · replace hf := k_ifN hf c11
    refine lv_aload_n X.1 X.2.1 dX11_meanSpeed_19 rfl (lv_at hl 0 rfl) ?_
    refine k_getw (v := .ref (ad 5 1)) X hU sh_5_0 fl_X11_7 rfl dX11_meanSpeed_20 ?_
    refine lv_bipush (v := 13) X.1 X.2.1 dX11_meanSpeed_23 (by decide) ?_
    refine k_ildw (j0 := 13) X hU sh_5_1 (k_vin (N := 268) (by decide) (by decide)) (by decide) dX11_meanSpeed_25 ?_
    refine lv_i2d X.1 X.2.1 dX11_meanSpeed_26 ?_
    refine lv_aload_n X.1 X.2.1 dX11_meanSpeed_27 rfl (lv_at hl 0 rfl) ?_
    refine k_getw (v := .ref (ad 5 1)) X hU sh_5_0 fl_X11_7 rfl dX11_meanSpeed_28 ?_
    refine lv_bipush (v := 6) X.1 X.2.1 dX11_meanSpeed_31 (by decide) ?_
    refine k_ildw (j0 := 6) X hU sh_5_1 (k_vin (N := 268) (by decide) (by decide)) (by decide) dX11_meanSpeed_33 ?_
    refine lv_i2d X.1 X.2.1 dX11_meanSpeed_34 ?_
    refine lv_ddiv_any hd0 lw_bits X.1 X.2.1 dX11_meanSpeed_35 (fun v d1 hal hd1 => ?_)
    have hz := Option.some.inj hf
    subst hz
    exact k_dret (q := (w2 1 13, w2 1 6)) hd1 X0 hU hS hr hlk (by unfold k_dq; rw [if_neg c11]; exact hal) dX11_meanSpeed_36
  · replace hf := k_ifP hf c11
    refine lv_dconst0 X.1 X.2.1 dX11_meanSpeed_15 ?_
    refine lv_goto (tgt := 36) X.1 X.2.1 dX11_meanSpeed_16 (by decide) ?_
    have hz := Option.some.inj hf
    subst hz
    exact k_dret (q := (0, 0)) hd0 X0 hU hS hr hlk (by unfold k_dq; rw [if_pos rfl]) dX11_meanSpeed_36

def k_exc (j : Nat) : String := match j with
  | 0 => "java/lang/IllegalStateException"
  | 1 => "java/lang/IllegalArgumentException"
  | 2 => "java/lang/IndexOutOfBoundsException"
  | _ => "java/util/NoSuchElementException"
def k_exn : List String := ["java/lang/RuntimeException", "java/lang/Exception"]
def k_XC (D : va_G) (G : Nat → ClassId) (ad : Nat → Nat → Nat) (u : k_U) (j sz : Nat) : String → State → State → Prop := vx_X (fun _ : Unit => True) (fun E _ t => E = k_exc j ∧ k_Uv D G ad u t.heap) (k_A ad sz)
def k_Qn (ad : Nat → Nat → Nat) (sz : Nat) : Array Value → State → Outcome → State → Prop := va_Qi (fun (_ : Int32) (_ : Unit) => False) (fun _ _ => True) (k_A ad sz)
theorem k_injl {α : Type} {a c : α} {b d : Int32} (h : some (a, (Sum.inl b : Int32 ⊕ Nat)) = some (c, Sum.inl d)) : a = c ∧ b = d := by
  have h1 := Option.some.inj h
  exact ⟨congrArg Prod.fst h1, Sum.inl.inj (congrArg Prod.snd h1)⟩
theorem k_injr {α : Type} {a c : α} {b d : Nat} (h : some (a, (Sum.inr b : Int32 ⊕ Nat)) = some (c, Sum.inr d)) : a = c ∧ b = d := by
  have h1 := Option.some.inj h
  exact ⟨congrArg Prod.fst h1, Sum.inr.inj (congrArg Prod.snd h1)⟩
theorem k_ninl {α : Type} {a c : α} {b : Nat} {d : Int32} : ¬ some (a, (Sum.inr b : Int32 ⊕ Nat)) = some (c, Sum.inl d) := fun h => by cases h
theorem k_ninr {α : Type} {a c : α} {b : Int32} {d : Nat} : ¬ some (a, (Sum.inl b : Int32 ⊕ Nat)) = some (c, Sum.inr d) := fun h => by cases h
theorem k_injl0 {b d : Int32} (h : some (Sum.inl b : Int32 ⊕ Nat) = some (Sum.inl d)) : b = d := Sum.inl.inj (Option.some.inj h)
theorem k_injr0 {b d : Nat} (h : some (Sum.inr b : Int32 ⊕ Nat) = some (Sum.inr d)) : b = d := Sum.inr.inj (Option.some.inj h)
theorem k_ninl0 {b : Nat} {d : Int32} : ¬ some (Sum.inr b : Int32 ⊕ Nat) = some (Sum.inl d) := fun h => by cases h
theorem k_ninr0 {b : Int32} {d : Nat} : ¬ some (Sum.inl b : Int32 ⊕ Nat) = some (Sum.inr d) := fun h => by cases h
/-- a call that is known to throw nothing -/
def k_no {α : Type} (x : Option (α × (Int32 ⊕ Nat))) : Option (α × Int32) := match x with
  | some (a, .inl v) => some (a, v)
  | _ => none
theorem k_noE {α : Type} {x : Option (α × (Int32 ⊕ Nat))} {r : α × Int32} (h : k_no x = some r) : x = some (r.1, Sum.inl r.2) := by
  unfold k_no at h
  split at h
  · cases h; rfl
  · cases h
theorem k_metx {l : Launch} {y : MethodName} {ws : List Cond} {rm : Room} {Pc : Array Value → State → Prop} {Qc : Array Value → State → Outcome → State → Prop} {mc ms : Nat} {free : Addr → Prop} (h : vx_Met l y ws rm Pc Qc (fun _ _ _ => False) mc ms free) : Met l y ws rm Pc Qc mc ms free := by
  intro p e ha hc hk s m args below hf happ hP hK
  obtain ⟨n, o, h1, h2, h3, h4⟩ := h p e ha hc hk s m args below hf happ hP hK
  rcases h4 with h4 | ⟨q, -, E, ce, L, hx, -⟩
  · exact ⟨n, o, h1, h2, h3, h4⟩
  · exact hx.elim
section KX
variable {p : Program} {l : Launch} {e : Env} {R : Room} {s : State} {m : MethodId} {args : Array Value} {below : List Frame} {meth : Method} {c : Code} {H : Heap} {locs : List Loc} {cells slots : Nat} {Q : State → Prop}
variable {cc : ByteArray} {own : String} {nL pc : Nat} {ls : Array Slot} {rest : List Value} {D : va_G} {G : Nat → ClassId} {ad : Nat → Nat → Nat} {sz : Nat} {u : k_U}
theorem k_xofW {y : MethodName} {ret : Option FieldType} {rm : Room} {av : List Value} {Qc : Array Value → State → Outcome → State → Prop} {XC : String → State → State → Prop} {mc ms : Nat} (hy : plainName y.cls = true) (hI : k_ok ad) (hn : (lg_sl av).length ≤ nL)
    (body : ∀ (p : Program) (e : Env) (s : State) (m : MethodId) (args : Array Value) (below : List Frame) (meth : Method) (c : Code), k_Cx p s m args c y.cls cc nL D G ad sz → meth.sig.returnType = ret → meth.locks = false → (∀ x ∈ c.exceptionTable.toList, False) → k_Uv D G ad u s.heap → va_S (k_A ad sz) s.heap s.heap [] → ∀ ls : Array Slot, lv_has ls nL (lv_args 0 av) →
      W p l e rm s m args below meth c s.heap [] 0 0 (vx_MQ below Qc XC args s mc ms (k_A ad sz)) (F0 m 0 ls [])) :
    vx_Met l y (.code y cc nL ret :: lw_g) rm (k_Pre D G ad u sz av) Qc XC mc ms (k_A ad sz) := by
  refine vx_ofW (cc := cc) (maxL := nL) (ret := ret) hy rfl ?_
  intro p e s m args below meth c s₁ B hml hex hv
  obtain ⟨rfl, hsz, hU, hK, hWd⟩ := hv
  have hts := atoms_spec (ws := .code y cc nL ret :: lw_g) B.pre
  have hl := lv_entry av (n := nL) hn
  rw [lg_entry_eq]
  exact body p e s m _ below meth c ⟨B.exec, B.bytes, hml, findClass_of_methodNamed B.named, fun w h => hts w (List.mem_cons_of_mem _ h), hK, hI, hsz, hWd⟩ B.returns B.notSynchronized hex hU va_S.rf _ hl
theorem k_wofW {y : MethodName} {ret : Option FieldType} {rm : Room} {av : List Value} {hh : List (Nat × Nat × Nat × Nat)} {Qc : Array Value → State → Outcome → State → Prop} (hy : plainName y.cls = true) (hI : k_ok ad) (hn : (lg_sl av).length ≤ nL)
    (body : ∀ (p : Program) (e : Env) (s : State) (m : MethodId) (args : Array Value) (below : List Frame) (meth : Method) (c : Code), k_Cx p s m args c y.cls cc nL D G ad sz → meth.sig.returnType = ret → meth.locks = false → c.exceptionTable.toList = tableOf hh → k_Uv D G ad u s.heap → va_S (k_A ad sz) s.heap s.heap [] → ∀ ls : Array Slot, lv_has ls nL (lv_args 0 av) →
      W p l e rm s m args below meth c s.heap [] 0 0 (vx_MQ below Qc (fun _ _ _ => False) args s 1 6 (k_A ad sz)) (F0 m 0 ls [])) :
    Met l y (.codeWith y cc nL ret hh :: lw_g) rm (k_Pre D G ad u sz av) Qc 1 6 (k_A ad sz) := by
  refine k_metx (vx_ofWH (cc := cc) (maxL := nL) (ret := ret) (hh := hh) hy rfl ?_)
  intro p e s m args below meth c s₁ B hml hv
  obtain ⟨rfl, hsz, hU, hK, hWd⟩ := hv
  have hts := atoms_spec (ws := .codeWith y cc nL ret hh :: lw_g) B.pre
  have hl := lv_entry av (n := nL) hn
  rw [lg_entry_eq]
  exact body p e s m _ below meth c ⟨B.exec, B.bytes, hml, findClass_of_methodNamed B.named, fun w h => hts w (List.mem_cons_of_mem _ h), hK, hI, hsz, hWd⟩ B.returns B.notSynchronized (vx_table (x := y) B (hts _ List.mem_cons_self)) hU va_S.rf _ hl
/-- calling a method that throws -/
theorem k_xrunV (X : k_Cx p s m args c own cc nL D G ad sz) (hS : va_S (k_A ad sz) s.heap H locs) (hU : k_Uv D G ad u H) {k q tag N index nb n : Nat} {rf : k_R} {C : String} {T : u_T} (hs : k_sh k q = some (tag, N, rf)) (ht : tag < 20) (hc : vwCl[tag]? = some (C, T, N))
    {y : MethodName} {cb : ByteArray} {ret : Option FieldType} {rm : Room} {Qc : Array Value → State → Outcome → State → Prop} {XC : String → State → State → Prop} {As : List Value} (cl : k_VL own index C y cb nb ret n) (hM : vx_Met l y (.code y cb nb ret :: lw_g) rm (k_Pre D G ad u H.size (.ref (ad k q) :: As)) Qc XC 1 6 (k_A ad H.size))
    (hrc : rm.cells = 1) (hrs : rm.slots = 6) (hn : As.length = n) (hsize : ls.size = nL) (hR : rm.frames + 1 ≤ R.frames ∧ 8 + (nb + 11) + rm.locals ≤ R.locals) (hW : (rest.map fun v => v.category).sum ≤ 8) (hdg : decode cc pc = .ok (.invokevirtual index, 3)) (hf : cells + 1 ≤ R.cells ∧ slots + 6 ≤ R.slots) :
    vx_Run p l e R s m args below meth c H locs cells slots 1 6 (F0 m pc ls (As.reverse ++ .ref (ad k q) :: rest)) rest (Qc (Value.ref (ad k q) :: As).toArray) XC (k_A ad H.size) := by
  have hWp := k_pass X hS
  obtain ⟨hx, hb, hml, hown, hts, hK, hI, -⟩ := X
  obtain ⟨j, -, hj⟩ := k_at (G := G) (ad := ad) (u := u) hI hs
  have hj' : (kws k_sh G ad u)[j]? = some (ad k q, .inr (tag, (List.range N).map (k_fv ad (u k q) rf))) := hj.trans (by unfold k_mk; rw [if_pos ht])
  exact vx_runV (C := C) (n := n) ⟨hx, hb, hml, hown, hts⟩ hM (cwV n hts (k_VLg cl) rfl hrc hrs cl.2 hR) ⟨k_blind, va_recv hK hU hc hj', fun U hUh hWm => ⟨rfl, by rw [hUh], by rw [hUh]; exact hU, va_K.moved hWm.alike hK, by rw [hUh]; exact hWp.warm hWm⟩⟩ rfl hn hsize rfl (by show 2 * 0 + _ ≤ 8; omega) hdg hf
theorem k_xback (X : k_Cx p s m args c own cc nL D G ad sz) (hS : va_S (k_A ad sz) s.heap H locs) {st0 : List Value} {u2 : k_U} {j : Nat} {a : Array Value} (hr : vx_Run p l e R s m args below meth c H locs cells slots 1 6 (F0 m pc ls st0) rest (k_Qn ad H.size a) (k_XC D G ad u2 j H.size) (k_A ad H.size))
    (kx : ∀ (ce : Cell) (q9 : Addr) (H1 : Heap) (locs1 : List Loc), k_Uv D G ad u2 H1 → va_S (k_A ad sz) s.heap H1 locs1 → H1[q9]? = some ce → ce.vm = .none → s.vm.findClass (k_exc j) = some ce.cls → vx_W p l e R s m args below meth c H1 locs1 (cells + 1) (slots + 6) Q (F0 m pc ls rest) q9) : W p l e R s m args below meth c H locs cells slots Q (F0 m pc ls st0) := by
  refine vx_calli hr hS (fun q _ h => k_Amono hS X.2.2.2.2.2.2.2.1 q h) (k_Amono hS X.2.2.2.2.2.2.2.1) (fun q _ h => k_Amono hS X.2.2.2.2.2.2.2.1 q h) (fun E ce q9 u t H1 locs1 ht hvm _ hB hz hk hS1 hce hcv hcl => ?_) (fun r u t H1 locs1 ht hvm hw hB hz hk hS1 => hw.elim)
  obtain ⟨rfl, hB⟩ := hB
  rw [ht] at hB
  exact kx ce q9 H1 locs1 hB hS1 hce hcv hcl
def k_xB (cls : String) : List Cond := [.declares ⟨"java/lang/RuntimeException", "<init>", "(Ljava/lang/String;)V"⟩, .declares ⟨"java/lang/Exception", "<init>", "(Ljava/lang/String;)V"⟩, .declares ⟨"java/lang/Throwable", "<init>", "(Ljava/lang/String;)V"⟩, .castable cls cls]
/-- the words of a throw: the good ones in the tables, four others beside -/
def k_XW (own : String) (ik ic : Nat) (cls : String) : Prop := Cond.classLink own ik cls ∈ lw_g ∧ Cond.initialized cls ∈ lw_g ∧ (∀ w ∈ (vx_atS own ic cls k_exn).filter goodWord, w ∈ lw_g) ∧ (∀ w ∈ (vx_atS own ic cls k_exn).filter (fun w => !goodWord w), w ∈ k_xB cls) ∧ (∀ w ∈ Cond.classLink own ik cls :: Cond.initialized cls :: vx_atS own ic cls k_exn, vx_ot w = true) ∧ cls ∈ k_exs
theorem k_xBt {ad : Nat → Nat → Nat} {A : Nat → Prop} {s : State} {H : Heap} {cls : String} (hWd : k_Wd ad A s H) (hc : cls ∈ k_exs) : ∀ w ∈ k_xB cls, w.before args s = true :=
  vx_c (va_Nw.use rfl (hWd.2.2.2.2.2.2.1 _ (by simp [k_dcl]))) (vx_c (va_Nw.use rfl (hWd.2.2.2.2.2.2.1 _ (by simp [k_dcl]))) (vx_c (va_Nw.use rfl (hWd.2.2.2.2.2.2.1 _ (by simp [k_dcl]))) (vx_c (va_Nw.use rfl (hWd.2.2.2.2.2.2.2.1 _ hc)) vx_n)))
theorem k_xkeep (X : k_Cx p s m args c own cc nL D G ad sz) (hU : k_Uv D G ad u H) (hS : va_S (k_A ad sz) s.heap H locs) {j : Nat} {cls : String} (hj : cls = k_exc j) : ∀ t : State, s.vm.Alike t.vm → H.size ≤ t.heap.size → (∀ q : Nat, q < H.size → t.heap[q]? = H[q]?) → k_XC D G ad u j sz cls s t := by
  intro t _ hz hq
  refine ⟨(), trivial, ⟨hj, ?_⟩, Nat.le_trans hS.1 hz, fun q h1 h2 => ?_⟩
  · exact va_P.kept hU (fun k q hk => hq _ (hU k q hk).lt)
  · rw [hq q (Nat.lt_of_lt_of_le h1 hS.1)]
    exact hS.2.1 q h1 h2
theorem k_thrS {Qc : Array Value → State → Outcome → State → Prop} (X : k_Cx p s m args c own cc nL D G ad sz) (hlT : l.stackTraces = false) (hU : k_Uv D G ad u H) (hS : va_S (k_A ad sz) s.heap H locs) {i is ik ic j : Nat} {text cls : String} (hi : k_str[i]? = some (own, is, text)) (hw : k_XW own ik ic cls) (hfit : Bundle.fit cls = true) (hj : cls = k_exc j) (hsize : ls.size = nL)
    (d0 : decode cc pc = .ok (.new ik, 3)) (d3 : decode cc (pc + 3) = .ok (.dup, 1)) (d4 : decode cc (pc + 4) = .ok (.ldc is, 2)) (d6 : decode cc (pc + 6) = .ok (.invokespecial ic, 3)) (d9 : decode cc (pc + 9) = .ok (.athrow, 1))
    (hex : ∀ x ∈ c.exceptionTable.toList, False) (hf : 5 < R.frames) (hl : (rest.map fun v => v.category).sum + 82 ≤ R.locals) (hc : cells + 1 ≤ R.cells ∧ slots + 6 ≤ R.slots) (hlk : meth.locks = false) (hm : cells + 1 ≤ 1 ∧ slots + 6 ≤ 6) :
    W p l e R s m args below meth c H locs cells slots (vx_MQ below Qc (k_XC D G ad u j sz) args s 1 6 (k_A ad sz)) (F0 m pc ls rest) := by
  have hk := k_xkeep X hU hS hj
  obtain ⟨hx, hb, hml, hown, hts, hK, hI, hsz, hWd⟩ := X
  exact vx_throwS (names := k_exn) hx hb hlT hown hfit (by decide +kernel) (hts _ hw.1) (hts _ hw.2.1) (hWd.2.2.2.2.2.1 i _ hi) (vx_hat (fun w h => hts w (hw.2.2.1 w h)) hw.2.2.2.1 (k_xBt hWd hw.2.2.2.2.2)) hw.2.2.2.2.1 hWd.2.2.2.1 hWd.2.2.2.2.1 hS (hsize.trans hml.symm) d0 d3 d4 d6 d9 (fun x h => (hex x h).elim) hf hl hc.1 hc.2 hlk hk hS.2.2 hm.1 hm.2
theorem k_thrSW {Qc : Array Value → State → Outcome → State → Prop} (X : k_Cx p s m args c own cc nL D G ad sz) (hlT : l.stackTraces = false) (hU : k_Uv D G ad u H) (hS : va_S (k_A ad sz) s.heap H locs) {i is ik ic j : Nat} {text cls : String} (hi : k_str[i]? = some (own, is, text)) (hw : k_XW own ik ic cls) (hfit : Bundle.fit cls = true) (hj : cls = k_exc j) (hsize : ls.size = nL)
    (d0 : decode cc pc = .ok (.new ik, 3)) (d3 : decode cc (pc + 3) = .ok (.dup, 1)) (d4 : decode cc (pc + 4) = .ok (.ldc_w is, 3)) (d6 : decode cc (pc + 7) = .ok (.invokespecial ic, 3)) (d9 : decode cc (pc + 10) = .ok (.athrow, 1))
    (hex : ∀ x ∈ c.exceptionTable.toList, False) (hf : 5 < R.frames) (hl : (rest.map fun v => v.category).sum + 82 ≤ R.locals) (hc : cells + 1 ≤ R.cells ∧ slots + 6 ≤ R.slots) (hlk : meth.locks = false) (hm : cells + 1 ≤ 1 ∧ slots + 6 ≤ 6) :
    W p l e R s m args below meth c H locs cells slots (vx_MQ below Qc (k_XC D G ad u j sz) args s 1 6 (k_A ad sz)) (F0 m pc ls rest) := by
  have hk := k_xkeep X hU hS hj
  obtain ⟨hx, hb, hml, hown, hts, hK, hI, hsz, hWd⟩ := X
  exact vx_throwSW (names := k_exn) hx hb hlT hown hfit (by decide +kernel) (hts _ hw.1) (hts _ hw.2.1) (hWd.2.2.2.2.2.1 i _ hi) (vx_hat (fun w h => hts w (hw.2.2.1 w h)) hw.2.2.2.1 (k_xBt hWd hw.2.2.2.2.2)) hw.2.2.2.2.1 hWd.2.2.2.1 hWd.2.2.2.2.1 hS (hsize.trans hml.symm) d0 d3 d4 d6 d9 (fun x h => (hex x h).elim) hf hl hc.1 hc.2 hlk hk hS.2.2 hm.1 hm.2
set_option maxRecDepth 100000 in
theorem kN_xw : Cond.classLink RX10 308 kN_c ∈ lw_g ∧ Cond.initialized kN_c ∈ lw_g ∧ (∀ w ∈ (kN_ats.filter vx_no).filter goodWord, w ∈ lw_g) ∧ (∀ w ∈ (kN_ats.filter vx_no).filter (fun w => !goodWord w), w ∈ k_xB kN_c) ∧ (∀ w ∈ Cond.classLink RX10 308 kN_c :: Cond.initialized kN_c :: kN_ats.filter vx_no, vx_ot w = true) ∧ kN_c ∈ k_exs := by
  refine ⟨by decide +kernel, by decide +kernel, by decide +kernel, by decide +kernel, by decide +kernel, by decide +kernel⟩
theorem k_thrNW {Qc : Array Value → State → Outcome → State → Prop} (X : k_Cx p s m args c own cc nL D G ad sz) (hlT : l.stackTraces = false) (hU : k_Uv D G ad u H) (hS : va_S (k_A ad sz) s.heap H locs) {i is ik ic : Nat} {text : String} (hi : k_str[i]? = some (own, is, text)) (hw : own = RX10 ∧ ik = 308 ∧ ic = 312) (hsize : ls.size = nL)
    (d0 : decode cc pc = .ok (.new ik, 3)) (d3 : decode cc (pc + 3) = .ok (.dup, 1)) (d4 : decode cc (pc + 4) = .ok (.ldc_w is, 3)) (d6 : decode cc (pc + 7) = .ok (.invokespecial ic, 3)) (d9 : decode cc (pc + 10) = .ok (.athrow, 1))
    (hex : ∀ x ∈ c.exceptionTable.toList, False) (hf : 5 < R.frames) (hl : (rest.map fun v => v.category).sum + 82 ≤ R.locals) (hc : cells + 1 ≤ R.cells ∧ slots + 6 ≤ R.slots) (hlk : meth.locks = false) (hm : cells + 1 ≤ 1 ∧ slots + 6 ≤ 6) :
    W p l e R s m args below meth c H locs cells slots (vx_MQ below Qc (k_XC D G ad u 3 sz) args s 1 6 (k_A ad sz)) (F0 m pc ls rest) := by
  obtain ⟨rfl, rfl, rfl⟩ := hw
  have hk := k_xkeep X hU hS (j := 3) (cls := kN_c) rfl
  obtain ⟨hx, hb, hml, hown, hts, hK, hI, hsz, hWd⟩ := X
  exact kN_throwSW hx hb hlT hown (hts _ kN_xw.1) (hts _ kN_xw.2.1) (hWd.2.2.2.2.2.1 i _ hi) (vx_hat (fun w h => hts w (kN_xw.2.2.1 w h)) kN_xw.2.2.2.1 (k_xBt hWd kN_xw.2.2.2.2.2)) kN_xw.2.2.2.2.1 hWd.2.2.2.1 hWd.2.2.2.2.1 hS (hsize.trans hml.symm) d0 d3 d4 d6 d9 (fun x h => (hex x h).elim) hf hl hc.1 hc.2 hlk hk hS.2.2 hm.1 hm.2
end KX
set_option maxRecDepth 100000 in
theorem xw_78 : k_XW RX10 78 82 "java/lang/IllegalStateException" := by
  refine ⟨by decide +kernel, by decide +kernel, by decide +kernel, by decide +kernel, by decide +kernel, by decide +kernel⟩
set_option maxRecDepth 100000 in
theorem xw_180 : k_XW RX10 180 184 "java/lang/IllegalArgumentException" := by
  refine ⟨by decide +kernel, by decide +kernel, by decide +kernel, by decide +kernel, by decide +kernel, by decide +kernel⟩
set_option maxRecDepth 100000 in
theorem xw_238 : k_XW RX10 238 242 "java/lang/IndexOutOfBoundsException" := by
  refine ⟨by decide +kernel, by decide +kernel, by decide +kernel, by decide +kernel, by decide +kernel, by decide +kernel⟩
/-! what a caller that catches makes of it -/
def k_wrap (js : List Nat) (x : Option (k_U × (Int32 ⊕ Nat))) : Option (k_U × Int32) := match x with
  | some (u, .inl v) => some (k_uc u 6 (k_up (u 6) 0 0 v), 0)
  | some (u, .inr j) => if j ∈ js then some (u, Int32.ofNat (js.idxOf j + 1)) else none
  | none => none
def k_wrap0 (js : List Nat) (u : k_U) (x : Option (Int32 ⊕ Nat)) : Option (k_U × Int32) := match x with
  | some (.inl v) => some (k_uc u 6 (k_up (u 6) 0 0 v), 0)
  | some (.inr j) => if j ∈ js then some (u, Int32.ofNat (js.idxOf j + 1)) else none
  | none => none

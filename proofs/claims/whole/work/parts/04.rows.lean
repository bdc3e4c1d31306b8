/-! a contract's start and its ends -/
def kPre (sh : k_Sh) (D : va_G) (G : Nat → ClassId) (ad : Nat → Nat → Nat) (u : k_U) (sz : Nat) (av : List Value) : Array Value → State → Prop := va_Pc av (fun U => U.heap.size = sz ∧ kUv sh D G ad u U.heap ∧ va_K D vwCl (k_tys G) U ∧ k_Wd ad (kA sh ad sz) U U.heap)
def kQi (sh : k_Sh) (D : va_G) (G : Nat → ClassId) (ad : Nat → Nat → Nat) (u : k_U) (r : Int32) (sz : Nat) : Array Value → State → Outcome → State → Prop := va_Qi (fun (x : Int32) (_ : Unit) => x = r) (fun _ t => kUv sh D G ad u t.heap) (kA sh ad sz)
def kQl (sh : k_Sh) (D : va_G) (G : Nat → ClassId) (ad : Nat → Nat → Nat) (u : k_U) (r : Int64) (sz : Nat) : Array Value → State → Outcome → State → Prop := va_Ql (fun (x : Int64) (_ : Unit) => x = r) (fun _ t => kUv sh D G ad u t.heap) (kA sh ad sz)
def kQv (sh : k_Sh) (D : va_G) (G : Nat → ClassId) (ad : Nat → Nat → Nat) (u : k_U) (sz : Nat) : Array Value → State → Outcome → State → Prop := va_Qv (fun (_ : Unit) => True) (fun _ t => kUv sh D G ad u t.heap) (kA sh ad sz)
def kQr (sh : k_Sh) (D : va_G) (G : Nat → ClassId) (ad : Nat → Nat → Nat) (u : k_U) (a : Nat) (sz : Nat) : Array Value → State → Outcome → State → Prop := va_Qr (fun (_ : Unit) => True) (fun _ b t => b = a ∧ kUv sh D G ad u t.heap) (kA sh ad sz)
abbrev k_Pre := kPre k_sh
abbrev k_Qi := kQi k_sh
abbrev k_Ql := kQl k_sh
abbrev k_Qv := kQv k_sh
abbrev k_Qr := kQr k_sh
theorem k_blind {sh : k_Sh} {D : va_G} {G : Nat → ClassId} {ad : Nat → Nat → Nat} {u : k_U} {sz : Nat} {av : List Value} : FrameBlind (kPre sh D G ad u sz av) := by
  intro a U g mk h
  obtain ⟨h0, h1, h2, h3, h4⟩ := h
  exact ⟨h0, h1, h2, va_K.moved (u := U) (U := U.calling g mk a) (Vm.Alike.refl U.vm) h3, k_Wd.same (U := U) (U' := U.calling g mk a) h4 rfl⟩
section KR
variable {p : Program} {l : Launch} {e : Env} {R : Room} {s : State} {m : MethodId} {args : Array Value} {below : List Frame} {meth : Method} {c : Code} {H : Heap} {locs : List Loc} {cells slots : Nat} {Q : State → Prop}
variable {cc : ByteArray} {own : String} {nL pc : Nat} {ls : Array Slot} {rest : List Value} {D : va_G} {G : Nat → ClassId} {ad : Nat → Nat → Nat} {sz : Nat} {u : k_U} {sh : k_Sh}
theorem k_ofW {y : MethodName} {ret : Option FieldType} {rm : Room} {av : List Value} {Qc : Array Value → State → Outcome → State → Prop} (hy : plainName y.cls = true) (hI : kok sh ad) (hn : (lg_sl av).length ≤ nL)
    (body : ∀ (p : Program) (e : Env) (s : State) (m : MethodId) (args : Array Value) (below : List Frame) (meth : Method) (c : Code), kCx sh p s m args c y.cls cc nL D G ad sz → meth.sig.returnType = ret → meth.locks = false → kUv sh D G ad u s.heap → va_S (kA sh ad sz) s.heap s.heap [] → ∀ ls : Array Slot, lv_has ls nL (lv_args 0 av) →
      W p l e rm s m args below meth c s.heap [] 0 0 (MQ below Qc args s 0 0 (kA sh ad sz)) (F0 m 0 ls [])) :
    Met l y (.code y cc nL ret :: lw_g) rm (kPre sh D G ad u sz av) Qc 0 0 (kA sh ad sz) := by
  refine Met.ofW (cc := cc) (maxL := nL) (ret := ret) hy rfl ?_
  intro p e s m args below meth c s₁ B hml hv
  obtain ⟨rfl, hsz, hU, hK, hWd⟩ := hv
  have hts := atoms_spec (ws := .code y cc nL ret :: lw_g) B.pre
  have hl := lv_entry av (n := nL) hn
  rw [lg_entry_eq]
  exact body p e s m _ below meth c ⟨B.exec, B.bytes, hml, findClass_of_methodNamed B.named, fun w h => hts w (List.mem_cons_of_mem _ h), hK, hI, hsz, hWd⟩ B.returns B.notSynchronized hU va_S.rf _ hl
theorem k_get (X : kCx sh p s m args c own cc nL D G ad sz) (hU : kUv sh D G ad u H) {k q tag i N index : Nat} {rf : k_R} (hs : sh k q = some (tag, N, rf)) (fl : k_FL own index tag i N) {v : Value} (hv : k_fv ad (u k q) rf i = v) (hdg : decode cc pc = .ok (.getfield index, 3))
    (kk : W p l e R s m args below meth c H locs cells slots Q (F0 m (pc + 3) ls (v :: rest))) : W p l e R s m args below meth c H locs cells slots Q (F0 m pc ls (.ref (ad k q) :: rest)) := by
  obtain ⟨hx, hb, -, hown, hts, hK, hI, -⟩ := X
  obtain ⟨C, T, h1, h2, h3, h4, h5⟩ := fl
  obtain ⟨j, -, hj⟩ := k_at (G := G) (ad := ad) (u := u) hI hs
  refine va_get (fs := (List.range N).map (k_fv ad (u k q) rf)) hx hb hts h2 hown hK hU j (hj.trans ?_) h1 i h3 (hts _ h5) (fun _ h => h) (v := v) ?_ hdg kk
  · unfold k_mk
    rw [if_pos h4]
  · rw [List.getElem?_map, List.getElem?_range h3, ← hv]
    rfl
theorem k_getw {w : k_M} {k : Nat} (X : kCx sh p s m args c own cc nL D G ad sz) (hU : kUv sh D G ad (k_uc u k w) H) {q tag i N index : Nat} {rf : k_R} (hs : sh k q = some (tag, N, rf)) (fl : k_FL own index tag i N) {v : Value} (hv : k_fv ad (w q) rf i = v) (hdg : decode cc pc = .ok (.getfield index, 3))
    (kk : W p l e R s m args below meth c H locs cells slots Q (F0 m (pc + 3) ls (v :: rest))) : W p l e R s m args below meth c H locs cells slots Q (F0 m pc ls (.ref (ad k q) :: rest)) :=
  k_get X hU hs fl (by rw [k_uc_s]; exact hv) hdg kk
theorem k_geto {w : k_M} {k k2 : Nat} (hne : k2 ≠ k) (X : kCx sh p s m args c own cc nL D G ad sz) (hU : kUv sh D G ad (k_uc u k w) H) {q tag i N index : Nat} {rf : k_R} (hs : sh k2 q = some (tag, N, rf)) (fl : k_FL own index tag i N) {v : Value} (hv : k_fv ad (u k2 q) rf i = v) (hdg : decode cc pc = .ok (.getfield index, 3))
    (kk : W p l e R s m args below meth c H locs cells slots Q (F0 m (pc + 3) ls (v :: rest))) : W p l e R s m args below meth c H locs cells slots Q (F0 m pc ls (.ref (ad k2 q) :: rest)) :=
  k_get X hU hs fl (by rw [k_uc_n _ _ hne]; exact hv) hdg kk
theorem k_mkset {w : k_M} {q i N tag : Nat} {rf : k_R} {x : Int32} (h4 : tag < 20) (hr : rf i = none) : k_mk G ad (k_up w q i x q) (tag, N, rf) = .inr (tag, ((List.range N).map (k_fv ad (w q) rf)).set i (.int x)) := by
  unfold k_mk
  rw [if_pos h4]
  congr 2
  refine List.ext_getElem? fun j => ?_
  by_cases hj : i = j
  · subst hj
    by_cases hl : i < N
    · rw [List.getElem?_set_self (by simpa using hl), List.getElem?_map, List.getElem?_range hl]
      show some (k_fv ad (k_up w q i x q) rf i) = _
      unfold k_fv
      rw [hr]
      simp [k_up]
    · rw [List.getElem?_eq_none (by simpa using hl), List.getElem?_eq_none (by simpa using hl)]
  · rw [List.getElem?_set_ne hj, List.getElem?_map, List.getElem?_map]
    by_cases hl : j < N
    · rw [List.getElem?_range hl]
      show some (k_fv ad (k_up w q i x q) rf j) = some (k_fv ad (w q) rf j)
      unfold k_fv
      rw [show k_up w q i x q j = w q j by simp [k_up, Ne.symm hj]]
    · rw [List.getElem?_eq_none (by simpa using hl)]
      rfl
theorem k_uoth {w : k_M} {k q i : Nat} {x : Int32} (hw : w = k_up (u k) q i x) : ∀ k' c' : Nat, (k' ≠ k ∨ c' ≠ q) → k_uc u k w k' c' = u k' c' := by
  intro k' c' h
  by_cases hk : k' = k
  · subst hk
    rw [k_uc_s, hw]
    funext z
    have hc : c' ≠ q := h.resolve_left (fun z => z rfl)
    simp [k_up, hc]
  · rw [k_uc_n _ _ hk]
theorem k_uothc {w : k_M} {k q : Nat} {f : Nat → Int32} (hw : w = k_cp (u k) q f) : ∀ k' c' : Nat, (k' ≠ k ∨ c' ≠ q) → k_uc u k w k' c' = u k' c' := by
  intro k' c' h
  by_cases hk : k' = k
  · subst hk
    rw [k_uc_s, hw]
    have hc : c' ≠ q := h.resolve_left (fun z => z rfl)
    simp [k_cp, hc]
  · rw [k_uc_n _ _ hk]
theorem k_put {k : Nat} (X : kCx sh p s m args c own cc nL D G ad sz) (hU : kUv sh D G ad u H) (hS : va_S (kA sh ad sz) s.heap H locs) {q tag i N index : Nat} {rf : k_R} {ty : FieldType} (hs : sh k q = some (tag, N, rf)) (fl : k_FP own index tag i N ty) (hr : rf i = none) {x : Int32} {w : k_M} (hw : w = k_up (u k) q i x) (hn : narrow ty (.int x) = .int x) (hf : fits ty (.int x) = true) (hdg : decode cc pc = .ok (.putfield index, 3))
    (kk : ∀ (H1 : Heap) (locs1 : List Loc), kUv sh D G ad (k_uc u k w) H1 → va_S (kA sh ad sz) s.heap H1 locs1 → W p l e R s m args below meth c H1 locs1 cells slots Q (F0 m (pc + 3) ls rest)) : W p l e R s m args below meth c H locs cells slots Q (F0 m pc ls (.int x :: .ref (ad k q) :: rest)) := by
  obtain ⟨hx, hb, -, hown, hts, hK, hI, -⟩ := X
  obtain ⟨C, T, ty0, h1, h2, h3, h4, h5, h6, h7, h8, h9⟩ := fl
  obtain ⟨j, hi, hj⟩ := k_at (G := G) (ad := ad) (u := u) hI hs
  refine va_put (fs := (List.range N).map (k_fv ad (u k q) rf)) (v := .int x) hx hb hts h2 ty0 h6 h7 hown hK hU (k_D hI) hS j (hj.trans ?_) h1 i h3 (hts _ h5) (fun _ h => h) h8 h9 hn hf (by simpa using h3) hdg (fun H1 locs1 hP _ hS1 => kk H1 locs1 ?_ hS1)
  · unfold k_mk
    rw [if_pos h4]
  · rw [k_set (u' := k_uc u k w) hs hi (by rw [k_uc_s, hw]; exact k_mkset h4 hr) (k_uoth hw)] at hP
    exact hP
theorem k_putw {k : Nat} {w0 : k_M} (X : kCx sh p s m args c own cc nL D G ad sz) (hU : kUv sh D G ad (k_uc u k w0) H) (hS : va_S (kA sh ad sz) s.heap H locs) {q tag i N index : Nat} {rf : k_R} {ty : FieldType} (hs : sh k q = some (tag, N, rf)) (fl : k_FP own index tag i N ty) (hr : rf i = none) {x : Int32} {w : k_M} (hw : w = k_up w0 q i x) (hn : narrow ty (.int x) = .int x) (hf : fits ty (.int x) = true) (hdg : decode cc pc = .ok (.putfield index, 3))
    (kk : ∀ (H1 : Heap) (locs1 : List Loc), kUv sh D G ad (k_uc u k w) H1 → va_S (kA sh ad sz) s.heap H1 locs1 → W p l e R s m args below meth c H1 locs1 cells slots Q (F0 m (pc + 3) ls rest)) : W p l e R s m args below meth c H locs cells slots Q (F0 m pc ls (.int x :: .ref (ad k q) :: rest)) :=
  k_put X hU hS hs fl hr (w := w) (by rw [k_uc_s]; exact hw) hn hf hdg (fun H1 locs1 h1 h2 => kk H1 locs1 (by rw [k_uc_uc] at h1; exact h1) h2)
theorem k_mkarr {w : Nat → Int32} {tag N : Nat} {rf : k_R} (h1 : ¬ tag < 20) (h2 : tag < 23) : k_mk G ad w (tag, N, rf) = .inl (G (tag - 20), N, .inl w) := by
  unfold k_mk
  rw [if_neg h1, if_pos h2]
theorem k_ild (X : kCx sh p s m args c own cc nL D G ad sz) (hU : kUv sh D G ad u H) {k q N : Nat} {rf : k_R} (hs : sh k q = some (20, N, rf)) {i : Int32} {j0 : Nat} (hin : vp_in i N) (hj0 : i.toNatClampNeg = j0) (hdg : decode cc pc = .ok (.iaload, 1))
    (kk : W p l e R s m args below meth c H locs cells slots Q (F0 m (pc + 1) ls (.int (u k q j0) :: rest))) : W p l e R s m args below meth c H locs cells slots Q (F0 m pc ls (.int i :: .ref (ad k q) :: rest)) := by
  obtain ⟨hx, hb, -, hown, hts, hK, hI, -⟩ := X
  subst hj0
  obtain ⟨j, -, hj⟩ := k_at (G := G) (ad := ad) (u := u) hI hs
  exact va_iald (f := u k q) hx hb hK hU j 0 (hj.trans (by rw [k_mkarr (by decide) (by decide)])) rfl hin hdg kk
theorem k_ildw {k : Nat} {w : k_M} (X : kCx sh p s m args c own cc nL D G ad sz) (hU : kUv sh D G ad (k_uc u k w) H) {q N : Nat} {rf : k_R} (hs : sh k q = some (20, N, rf)) {i : Int32} {j0 : Nat} (hin : vp_in i N) (hj0 : i.toNatClampNeg = j0) (hdg : decode cc pc = .ok (.iaload, 1))
    (kk : W p l e R s m args below meth c H locs cells slots Q (F0 m (pc + 1) ls (.int (w q j0) :: rest))) : W p l e R s m args below meth c H locs cells slots Q (F0 m pc ls (.int i :: .ref (ad k q) :: rest)) :=
  k_ild X hU hs hin hj0 hdg (by rw [k_uc_s]; exact kk)
theorem k_zldw {k : Nat} {w : k_M} (X : kCx sh p s m args c own cc nL D G ad sz) (hU : kUv sh D G ad (k_uc u k w) H) {q N : Nat} {rf : k_R} (hs : sh k q = some (21, N, rf)) {i : Int32} {j0 : Nat} (hin : vp_in i N) (hj0 : i.toNatClampNeg = j0) (hdg : decode cc pc = .ok (.baload, 1))
    (kk : W p l e R s m args below meth c H locs cells slots Q (F0 m (pc + 1) ls (.int (w q j0) :: rest))) : W p l e R s m args below meth c H locs cells slots Q (F0 m pc ls (.int i :: .ref (ad k q) :: rest)) := by
  obtain ⟨hx, hb, -, hown, hts, hK, hI, -⟩ := X
  obtain ⟨j, -, hj⟩ := k_at (G := G) (ad := ad) (u := k_uc u k w) hI hs
  rw [k_uc_s] at hj
  subst hj0
  exact va_zald (f := w q) hx hb hK hU j 1 (hj.trans (by rw [k_mkarr (by decide) (by decide)])) rfl hin hdg kk
theorem k_bldw {k : Nat} {w : k_M} (X : kCx sh p s m args c own cc nL D G ad sz) (hU : kUv sh D G ad (k_uc u k w) H) {q N : Nat} {rf : k_R} (hs : sh k q = some (22, N, rf)) {i : Int32} {j0 : Nat} (hin : vp_in i N) (hj0 : i.toNatClampNeg = j0) (hdg : decode cc pc = .ok (.baload, 1))
    (kk : W p l e R s m args below meth c H locs cells slots Q (F0 m (pc + 1) ls (.int (w q j0) :: rest))) : W p l e R s m args below meth c H locs cells slots Q (F0 m pc ls (.int i :: .ref (ad k q) :: rest)) := by
  obtain ⟨hx, hb, -, hown, hts, hK, hI, -⟩ := X
  obtain ⟨j, -, hj⟩ := k_at (G := G) (ad := ad) (u := k_uc u k w) hI hs
  rw [k_uc_s] at hj
  subst hj0
  exact va_bald (f := w q) hx hb hK hU j 2 (hj.trans (by rw [k_mkarr (by decide) (by decide)])) rfl hin hdg kk
theorem k_ald {tag t0 : Nat} {C : String} (X : kCx sh p s m args c own cc nL D G ad sz) (hU : kUv sh D G ad u H) (ht : ¬ tag < 23 ∧ tag ≠ 25) (htt : (k_tys G)[t0]? = some (G (tag - 20), .object C)) {k q N : Nat} {rf : k_R} (hs : sh k q = some (tag, N, rf)) {i : Int32} {z : Nat × Nat} (hin : vp_in i N) (hv : rf i.toNatClampNeg = some (some z)) (hdg : decode cc pc = .ok (.aaload, 1))
    (kk : W p l e R s m args below meth c H locs cells slots Q (F0 m (pc + 1) ls (.ref (ad z.1 z.2) :: rest))) : W p l e R s m args below meth c H locs cells slots Q (F0 m pc ls (.int i :: .ref (ad k q) :: rest)) := by
  obtain ⟨hx, hb, -, hown, hts, hK, hI, -⟩ := X
  obtain ⟨j, -, hj⟩ := k_at (G := G) (ad := ad) (u := u) hI hs
  refine va_aldq (C := C) (f := k_av ad rf) hx hb hK hU j t0 (hj.trans ?_) htt hin hdg ?_
  · unfold k_mk
    rw [if_neg (by show ¬ tag < 20; omega), if_neg (by show ¬ tag < 23; omega), if_neg (by show ¬ tag = 25; omega)]
  · show W p l e R s m args below meth c H locs cells slots Q (F0 m (pc + 1) ls (va_rf (k_av ad rf i.toNatClampNeg) :: rest))
    unfold k_av
    rw [hv]
    exact kk
theorem k_upds {w : k_M} {q i : Nat} {x : Int32} : upd (w q) i x = k_up w q i x q := by
  funext j
  simp [upd, k_up]
theorem k_istw {k : Nat} {w0 : k_M} (X : kCx sh p s m args c own cc nL D G ad sz) (hU : kUv sh D G ad (k_uc u k w0) H) (hS : va_S (kA sh ad sz) s.heap H locs) {q N : Nat} {rf : k_R} (hs : sh k q = some (20, N, rf)) {i x : Int32} {j0 : Nat} {w : k_M} (hw : w = k_up w0 q j0 x) (hin : vp_in i N) (hj0 : i.toNatClampNeg = j0) (hdg : decode cc pc = .ok (.iastore, 1))
    (kk : ∀ (H1 : Heap) (locs1 : List Loc), kUv sh D G ad (k_uc u k w) H1 → va_S (kA sh ad sz) s.heap H1 locs1 → W p l e R s m args below meth c H1 locs1 cells slots Q (F0 m (pc + 1) ls rest)) : W p l e R s m args below meth c H locs cells slots Q (F0 m pc ls (.int x :: .int i :: .ref (ad k q) :: rest)) := by
  obtain ⟨hx, hb, -, hown, hts, hK, hI, -⟩ := X
  obtain ⟨j, hi, hj⟩ := k_at (G := G) (ad := ad) (u := k_uc u k w0) hI hs
  rw [k_uc_s] at hj
  subst hj0
  refine va_iast (f := w0 q) hx hb hK hU (k_D hI) hS j 0 (hj.trans (by rw [k_mkarr (by decide) (by decide)])) rfl hin hdg (fun H1 locs1 hP _ hS1 => kk H1 locs1 ?_ hS1)
  have hw' : w = k_up (k_uc u k w0 k) q i.toNatClampNeg x := by rw [k_uc_s]; exact hw
  rw [k_set (u' := k_uc (k_uc u k w0) k w) hs hi (by rw [k_uc_s, hw, k_mkarr (by decide) (by decide), k_upds]) (k_uoth hw'), k_uc_uc] at hP
  exact hP
theorem k_zstw {k : Nat} {w0 : k_M} (X : kCx sh p s m args c own cc nL D G ad sz) (hU : kUv sh D G ad (k_uc u k w0) H) (hS : va_S (kA sh ad sz) s.heap H locs) {q N : Nat} {rf : k_R} (hs : sh k q = some (21, N, rf)) {i x : Int32} {j0 : Nat} {w : k_M} (hw : w = k_up w0 q j0 (x &&& 1)) (hin : vp_in i N) (hj0 : i.toNatClampNeg = j0) (hdg : decode cc pc = .ok (.bastore, 1))
    (kk : ∀ (H1 : Heap) (locs1 : List Loc), kUv sh D G ad (k_uc u k w) H1 → va_S (kA sh ad sz) s.heap H1 locs1 → W p l e R s m args below meth c H1 locs1 cells slots Q (F0 m (pc + 1) ls rest)) : W p l e R s m args below meth c H locs cells slots Q (F0 m pc ls (.int x :: .int i :: .ref (ad k q) :: rest)) := by
  obtain ⟨hx, hb, -, hown, hts, hK, hI, -⟩ := X
  obtain ⟨j, hi, hj⟩ := k_at (G := G) (ad := ad) (u := k_uc u k w0) hI hs
  rw [k_uc_s] at hj
  subst hj0
  refine va_zast (f := w0 q) hx hb hK hU (k_D hI) hS j 1 (hj.trans (by rw [k_mkarr (by decide) (by decide)])) rfl hin hdg (fun H1 locs1 hP _ hS1 => kk H1 locs1 ?_ hS1)
  have hw' : w = k_up (k_uc u k w0 k) q i.toNatClampNeg (x &&& 1) := by rw [k_uc_s]; exact hw
  rw [k_set (u' := k_uc (k_uc u k w0) k w) hs hi (by rw [k_uc_s, hw, k_mkarr (by decide) (by decide), ← k_upds]; rfl) (k_uoth hw'), k_uc_uc] at hP
  exact hP
theorem k_bstw {k : Nat} {w0 : k_M} (X : kCx sh p s m args c own cc nL D G ad sz) (hU : kUv sh D G ad (k_uc u k w0) H) (hS : va_S (kA sh ad sz) s.heap H locs) {q N : Nat} {rf : k_R} (hs : sh k q = some (22, N, rf)) {i x : Int32} {j0 : Nat} {w : k_M} (hw : w = k_up w0 q j0 x.toInt8.toInt32) (hin : vp_in i N) (hj0 : i.toNatClampNeg = j0) (hdg : decode cc pc = .ok (.bastore, 1))
    (kk : ∀ (H1 : Heap) (locs1 : List Loc), kUv sh D G ad (k_uc u k w) H1 → va_S (kA sh ad sz) s.heap H1 locs1 → W p l e R s m args below meth c H1 locs1 cells slots Q (F0 m (pc + 1) ls rest)) : W p l e R s m args below meth c H locs cells slots Q (F0 m pc ls (.int x :: .int i :: .ref (ad k q) :: rest)) := by
  obtain ⟨hx, hb, -, hown, hts, hK, hI, -⟩ := X
  obtain ⟨j, hi, hj⟩ := k_at (G := G) (ad := ad) (u := k_uc u k w0) hI hs
  rw [k_uc_s] at hj
  subst hj0
  refine va_bast (f := w0 q) hx hb hK hU (k_D hI) hS j 2 (hj.trans (by rw [k_mkarr (by decide) (by decide)])) rfl hin hdg (fun H1 locs1 hP _ hS1 => kk H1 locs1 ?_ hS1)
  have hw' : w = k_up (k_uc u k w0 k) q i.toNatClampNeg x.toInt8.toInt32 := by rw [k_uc_s]; exact hw
  rw [k_set (u' := k_uc (k_uc u k w0) k w) hs hi (by rw [k_uc_s, hw, k_mkarr (by decide) (by decide), ← k_upds]; rfl) (k_uoth hw'), k_uc_uc] at hP
  exact hP
theorem k_ist {k : Nat} (X : kCx sh p s m args c own cc nL D G ad sz) (hU : kUv sh D G ad u H) (hS : va_S (kA sh ad sz) s.heap H locs) {q N : Nat} {rf : k_R} (hs : sh k q = some (20, N, rf)) {i x : Int32} {j0 : Nat} {w : k_M} (hw : w = k_up (u k) q j0 x) (hin : vp_in i N) (hj0 : i.toNatClampNeg = j0) (hdg : decode cc pc = .ok (.iastore, 1))
    (kk : ∀ (H1 : Heap) (locs1 : List Loc), kUv sh D G ad (k_uc u k w) H1 → va_S (kA sh ad sz) s.heap H1 locs1 → W p l e R s m args below meth c H1 locs1 cells slots Q (F0 m (pc + 1) ls rest)) : W p l e R s m args below meth c H locs cells slots Q (F0 m pc ls (.int x :: .int i :: .ref (ad k q) :: rest)) :=
  k_istw (w0 := u k) X (by rw [k_uc_id]; exact hU) hS hs hw hin hj0 hdg kk
theorem k_zst {k : Nat} (X : kCx sh p s m args c own cc nL D G ad sz) (hU : kUv sh D G ad u H) (hS : va_S (kA sh ad sz) s.heap H locs) {q N : Nat} {rf : k_R} (hs : sh k q = some (21, N, rf)) {i x : Int32} {j0 : Nat} {w : k_M} (hw : w = k_up (u k) q j0 (x &&& 1)) (hin : vp_in i N) (hj0 : i.toNatClampNeg = j0) (hdg : decode cc pc = .ok (.bastore, 1))
    (kk : ∀ (H1 : Heap) (locs1 : List Loc), kUv sh D G ad (k_uc u k w) H1 → va_S (kA sh ad sz) s.heap H1 locs1 → W p l e R s m args below meth c H1 locs1 cells slots Q (F0 m (pc + 1) ls rest)) : W p l e R s m args below meth c H locs cells slots Q (F0 m pc ls (.int x :: .int i :: .ref (ad k q) :: rest)) :=
  k_zstw (w0 := u k) X (by rw [k_uc_id]; exact hU) hS hs hw hin hj0 hdg kk
theorem k_zld {k : Nat} (X : kCx sh p s m args c own cc nL D G ad sz) (hU : kUv sh D G ad u H) {q N : Nat} {rf : k_R} (hs : sh k q = some (21, N, rf)) {i : Int32} {j0 : Nat} (hin : vp_in i N) (hj0 : i.toNatClampNeg = j0) (hdg : decode cc pc = .ok (.baload, 1))
    (kk : W p l e R s m args below meth c H locs cells slots Q (F0 m (pc + 1) ls (.int (u k q j0) :: rest))) : W p l e R s m args below meth c H locs cells slots Q (F0 m pc ls (.int i :: .ref (ad k q) :: rest)) :=
  k_zldw (w := u k) X (by rw [k_uc_id]; exact hU) hs hin hj0 hdg kk
theorem k_mkl {w : Nat → Int32} {N : Nat} {rf : k_R} : k_mk G ad w (25, N, rf) = .inl (G 5, N, .inr (.inl (fun j => (w j).toInt64))) := by
  unfold k_mk
  rw [if_neg (show ¬ (25 : Nat) < 20 by decide), if_neg (show ¬ (25 : Nat) < 23 by decide), if_pos rfl]
  rfl
/-- the law's own long -/
theorem k_jst (h60 : sh 6 0 = some (25, 1, k_r0)) (X : kCx sh p s m args c own cc nL D G ad sz) (hU : kUv sh D G ad u H) (hS : va_S (kA sh ad sz) s.heap H locs) {x : Int32} (hdg : decode cc pc = .ok (.lastore, 1))
    (kk : ∀ (H1 : Heap) (locs1 : List Loc), kUv sh D G ad (k_uc u 6 (k_up (u 6) 0 0 x)) H1 → va_S (kA sh ad sz) s.heap H1 locs1 → W p l e R s m args below meth c H1 locs1 cells slots Q (F0 m (pc + 1) ls rest)) : W p l e R s m args below meth c H locs cells slots Q (F0 m pc ls (.long x.toInt64 :: .int 0 :: .ref (ad 6 0) :: rest)) := by
  obtain ⟨hx, hb, -, hown, hts, hK, hI, -⟩ := X
  obtain ⟨j, hi, hj⟩ := k_at (G := G) (ad := ad) (u := u) hI h60
  refine va_last (f := fun j => (u 6 0 j).toInt64) hx hb hK hU (k_D hI) hS j 5 (hj.trans (by rw [k_mkl])) rfl (k_vin (N := 1) (by decide) (by decide)) hdg (fun H1 locs1 hP _ hS1 => kk H1 locs1 ?_ hS1)
  have hfn : (fun j => (k_up (u 6) 0 0 x 0 j).toInt64) = vp_updL (fun j => (u 6 0 j).toInt64) (0 : Int32).toNatClampNeg x.toInt64 := by
    funext j
    unfold vp_updL
    rw [show (0 : Int32).toNatClampNeg = 0 by decide]
    by_cases h : j = 0
    · simp [k_up, h]
    · simp [k_up, h]
  have hk : k_mk G ad (k_uc u 6 (k_up (u 6) 0 0 x) 6 0) (25, 1, k_r0) = .inl (G 5, 1, .inr (.inl (vp_updL (fun j => (u 6 0 j).toInt64) (0 : Int32).toNatClampNeg x.toInt64))) := by
    rw [k_uc_s, k_mkl, hfn]
  rw [k_set (u' := k_uc u 6 (k_up (u 6) 0 0 x)) h60 hi hk (k_uoth rfl)] at hP
  exact hP
theorem k_jld (h60 : sh 6 0 = some (25, 1, k_r0)) (X : kCx sh p s m args c own cc nL D G ad sz) (hU : kUv sh D G ad u H) (hdg : decode cc pc = .ok (.laload, 1))
    (kk : W p l e R s m args below meth c H locs cells slots Q (F0 m (pc + 1) ls (.long (u 6 0 0).toInt64 :: rest))) : W p l e R s m args below meth c H locs cells slots Q (F0 m pc ls (.int 0 :: .ref (ad 6 0) :: rest)) := by
  obtain ⟨hx, hb, -, hown, hts, hK, hI, -⟩ := X
  obtain ⟨j, -, hj⟩ := k_at (G := G) (ad := ad) (u := u) hI h60
  exact va_lald (f := fun j => (u 6 0 j).toInt64) hx hb hK hU j 5 (hj.trans (by rw [k_mkl])) rfl (k_vin (N := 1) (by decide) (by decide)) hdg kk
/-- System.arraycopy of ints from another component's cell, from 0 to 0 -/
def k_CP (own : String) (index : Nat) : Prop := Cond.methodLink own index arraycopyName ∈ lw_g ∧ Cond.native arraycopyName ∈ lw_g ∧ Cond.static arraycopyName ∈ lw_g ∧ Cond.initialized "java/lang/System" ∈ lw_g
theorem k_cpyo {k k2 : Nat} {w0 : k_M} (hne : k2 ≠ k) (X : kCx sh p s m args c own cc nL D G ad sz) (hU : kUv sh D G ad (k_uc u k w0) H) (hS : va_S (kA sh ad sz) s.heap H locs) {index : Nat} (hcp : k_CP own index) {q q' N : Nat} {rf rf' : k_R} (hs : sh k2 q = some (20, N, rf)) (hs' : sh k q' = some (20, N, rf')) {n : Int32} {n0 : Nat} (hn : ¬ n < 0) (hn0 : n.toNatClampNeg = n0) (hN : n0 ≤ N) {w : k_M} (hw : w = k_cp w0 q' (fun j => if j < n0 then u k2 q j else w0 q' j))
    (hsize : ls.size = nL) (hframes : 1 ≤ R.frames) (hlocals : (rest.map fun v => v.category).sum + (nativeFrameWords "java/lang/System" "arraycopy" 5 + 11) ≤ R.locals) (hdg : decode cc pc = .ok (.invokestatic index, 3))
    (kk : ∀ (H1 : Heap) (locs1 : List Loc), kUv sh D G ad (k_uc u k w) H1 → va_S (kA sh ad sz) s.heap H1 locs1 → W p l e R s m args below meth c H1 locs1 cells slots Q (F0 m (pc + 3) ls rest)) : W p l e R s m args below meth c H locs cells slots Q (F0 m pc ls (.int n :: .int 0 :: .ref (ad k q') :: .int 0 :: .ref (ad k2 q) :: rest)) := by
  obtain ⟨hx, hb, hml, hown, hts, hK, hI, -⟩ := X
  subst hn0
  obtain ⟨j, -, hj⟩ := k_at (G := G) (ad := ad) (u := k_uc u k w0) hI hs
  obtain ⟨j', hi', hj'⟩ := k_at (G := G) (ad := ad) (u := k_uc u k w0) hI hs'
  rw [k_uc_n _ _ hne] at hj
  rw [k_uc_s] at hj'
  have h0 : (0 : Int32).toNatClampNeg = 0 := by decide
  refine va_copyi (f := u k2 q) (g := w0 q') (sp := 0) (dp := 0) (n := n) (ty := .int) hx hb (hml.trans hsize.symm) hown (hts _ hcp.1) (hts _ hcp.2.1) (hts _ hcp.2.2.1) (hts _ hcp.2.2.2) hK hU (k_D hI) hS j j' 0 0 (hj.trans (by rw [k_mkarr (by decide) (by decide)])) (hj'.trans (by rw [k_mkarr (by decide) (by decide)])) rfl rfl rfl (by decide) (by decide) hn (by rw [h0]; omega) (by rw [h0]; omega) (fun i hi => rfl) hframes hlocals hdg (fun H1 locs1 hP _ hS1 => kk H1 locs1 ?_ hS1)
  have hw' : w = k_cp (k_uc u k w0 k) q' (fun j => if j < n.toNatClampNeg then u k2 q j else w0 q' j) := by rw [k_uc_s]; exact hw
  have hfn : va_cpy (u k2 q) (w0 q') (0 : Int32).toNatClampNeg (0 : Int32).toNatClampNeg n.toNatClampNeg = fun j => if j < n.toNatClampNeg then u k2 q j else w0 q' j := by
    funext j
    rw [h0]
    unfold va_cpy
    simp
  rw [hfn, k_set (u' := k_uc (k_uc u k w0) k w) hs' hi' (by rw [k_uc_s, hw, k_mkarr (by decide) (by decide)]; simp [k_cp]) (k_uothc hw'), k_uc_uc] at hP
  exact hP
/-! Math -/
def k_MA (own : String) (index : Nat) (y : MethodName) (cb : ByteArray) (n : Nat) (ty : FieldType) : Prop := Cond.methodLink own index y ∈ lw_g ∧ Cond.static y ∈ lw_g ∧ Cond.initialized "java/lang/Math" ∈ lw_g ∧ Cond.code y cb n (some ty) ∈ lw_g
theorem k_maxi_r (X : kCx sh p s m args c own cc nL D G ad sz) {index : Nat} (h : k_MA own index Lib.Math.max.name Lib.Math.max.code 2 .int) (hsize : ls.size = nL) (hframes : 1 ≤ R.frames) (hlocals : (rest.map fun v => v.category).sum + 13 ≤ R.locals) (hf : cells ≤ R.cells ∧ slots ≤ R.slots) {x y : Int32} (hdg : decode cc pc = .ok (.invokestatic index, 3))
    (kk : W p l e R s m args below meth c H locs cells slots Q (F0 m (pc + 3) ls (.int (k_maxi x y) :: rest))) : W p l e R s m args below meth c H locs cells slots Q (F0 m pc ls (.int y :: .int x :: rest)) :=
  va_mmax X.1 X.2.1 (X.2.2.1.trans hsize.symm) X.2.2.2.1 (X.2.2.2.2.1 _ h.1) (X.2.2.2.2.1 _ h.2.1) (X.2.2.2.2.1 _ h.2.2.1) (X.2.2.2.2.1 _ h.2.2.2) hframes hlocals hf.1 hf.2 hdg kk
theorem k_mini_r (X : kCx sh p s m args c own cc nL D G ad sz) {index : Nat} (h : k_MA own index Lib.Math.min.name Lib.Math.min.code 2 .int) (hsize : ls.size = nL) (hframes : 1 ≤ R.frames) (hlocals : (rest.map fun v => v.category).sum + 13 ≤ R.locals) (hf : cells ≤ R.cells ∧ slots ≤ R.slots) {x y : Int32} (hdg : decode cc pc = .ok (.invokestatic index, 3))
    (kk : W p l e R s m args below meth c H locs cells slots Q (F0 m (pc + 3) ls (.int (k_mini x y) :: rest))) : W p l e R s m args below meth c H locs cells slots Q (F0 m pc ls (.int y :: .int x :: rest)) :=
  va_mmin X.1 X.2.1 (X.2.2.1.trans hsize.symm) X.2.2.2.1 (X.2.2.2.2.1 _ h.1) (X.2.2.2.2.1 _ h.2.1) (X.2.2.2.2.1 _ h.2.2.1) (X.2.2.2.2.1 _ h.2.2.2) hframes hlocals hf.1 hf.2 hdg kk
theorem k_maxl_r (X : kCx sh p s m args c own cc nL D G ad sz) {index : Nat} (h : k_MA own index Lib.MathLoose.max_long.x Lib.MathLoose.max_long.code 4 .long) (hsize : ls.size = nL) (hframes : 1 ≤ R.frames) (hlocals : (rest.map fun v => v.category).sum + 15 ≤ R.locals) (hf : cells ≤ R.cells ∧ slots ≤ R.slots) {x y : Int64} (hdg : decode cc pc = .ok (.invokestatic index, 3))
    (kk : W p l e R s m args below meth c H locs cells slots Q (F0 m (pc + 3) ls (.long (k_maxl x y) :: rest))) : W p l e R s m args below meth c H locs cells slots Q (F0 m pc ls (.long y :: .long x :: rest)) :=
  va_mmax_long X.1 X.2.1 (X.2.2.1.trans hsize.symm) X.2.2.2.1 (X.2.2.2.2.1 _ h.1) (X.2.2.2.2.1 _ h.2.1) (X.2.2.2.2.1 _ h.2.2.1) (X.2.2.2.2.1 _ h.2.2.2) hframes hlocals hf.1 hf.2 hdg kk
/-! names for what is on the stack -/
theorem k_nmi {x y : Int32} (h : y = x) (k : W p l e R s m args below meth c H locs cells slots Q (F0 m pc ls (.int y :: rest))) : W p l e R s m args below meth c H locs cells slots Q (F0 m pc ls (.int x :: rest)) := by rw [← h]; exact k
theorem k_nml {x y : Int64} (h : y = x) (k : W p l e R s m args below meth c H locs cells slots Q (F0 m pc ls (.long y :: rest))) : W p l e R s m args below meth c H locs cells slots Q (F0 m pc ls (.long x :: rest)) := by rw [← h]; exact k
/-! calls -/
def k_VL (own : String) (index : Nat) (C : String) (y : MethodName) (cb : ByteArray) (nb : Nat) (ret : Option FieldType) (n : Nat) : Prop := (∀ w ∈ ([.methodLink own index y, .instanceMethod y, .selects C y y, .initialized C, .code y cb nb ret] : List Cond), w ∈ lw_g) ∧ y.cls = C ∧ y.cls ≠ "java/lang/invoke/MethodHandle" ∧ y.cls ≠ "java/lang/invoke/VarHandle" ∧ (parseMethodDescriptor y.desc).map (fun d => d.parameters.length) = some n
def k_SL (own : String) (index : Nat) (y : MethodName) (cb : ByteArray) (nb : Nat) (ret : Option FieldType) (n : Nat) : Prop := (∀ w ∈ ([.methodLink own index y, .static y, .initialized y.cls, .code y cb nb ret] : List Cond), w ∈ lw_g) ∧ y.cls ≠ "java/lang/invoke/MethodHandle" ∧ y.cls ≠ "java/lang/invoke/VarHandle" ∧ (parseMethodDescriptor y.desc).map (fun d => d.parameters.length) = some n
theorem k_VLg {index nb n : Nat} {C : String} {y : MethodName} {cb : ByteArray} {ret : Option FieldType} (h : k_VL own index C y cb nb ret n) : GoodIn lw_g (wsV own index C y (.code y cb nb ret :: lw_g)) := by
  refine k_goodIn fun w hw => ?_
  rcases List.mem_append.mp hw with hw | hw
  · exact h.1 w (by simp only [List.mem_cons] at hw ⊢; rcases hw with a | a | a | a | a <;> simp_all)
  · rcases List.mem_cons.mp hw with hw | hw
    · exact h.1 w (by rw [hw]; simp)
    · exact hw
theorem k_SLg {index nb n : Nat} {y : MethodName} {cb : ByteArray} {ret : Option FieldType} (h : k_SL own index y cb nb ret n) : GoodIn lw_g (va_wsS own index y (.code y cb nb ret :: lw_g)) := by
  refine k_goodIn fun w hw => ?_
  rcases List.mem_append.mp hw with hw | hw
  · exact h.1 w (by simp only [List.mem_cons] at hw ⊢; rcases hw with a | a | a | a <;> simp_all)
  · rcases List.mem_cons.mp hw with hw | hw
    · exact h.1 w (by rw [hw]; simp)
    · exact hw
theorem k_Amono {H1 : Heap} (hS : va_S (kA sh ad sz) s.heap H1 locs) (hz : s.heap.size = sz) : ∀ q : Nat, kA sh ad H1.size q → kA sh ad sz q := by
  intro q h
  rcases h with h | h
  · exact Or.inl h
  · exact Or.inr (Nat.le_trans (by rw [← hz]; exact hS.1) h)
theorem k_pass (X : kCx sh p s m args c own cc nL D G ad sz) (hS : va_S (kA sh ad sz) s.heap H locs) : k_Wd ad (kA sh ad H.size) s H :=
  (k_Wd.kept X.2.2.2.2.2.2.2.2 hS.2.1).narrow (k_Amono hS X.2.2.2.2.2.2.2.1)
theorem k_runV (X : kCx sh p s m args c own cc nL D G ad sz) (hS : va_S (kA sh ad sz) s.heap H locs) (hU : kUv sh D G ad u H) {k q tag N index nb n : Nat} {rf : k_R} {C : String} {T : u_T} (hs : sh k q = some (tag, N, rf)) (ht : tag < 20) (hc : vwCl[tag]? = some (C, T, N))
    {y : MethodName} {cb : ByteArray} {ret : Option FieldType} {rm : Room} {Qc : Array Value → State → Outcome → State → Prop} {As : List Value} (cl : k_VL own index C y cb nb ret n) (hM : Met l y (.code y cb nb ret :: lw_g) rm (kPre sh D G ad u H.size (.ref (ad k q) :: As)) Qc 0 0 (kA sh ad H.size))
    (hrc : rm.cells = 0) (hrs : rm.slots = 0) (hn : As.length = n) (hsize : ls.size = nL) (hR : rm.frames + 1 ≤ R.frames ∧ 8 + (nb + 11) + rm.locals ≤ R.locals) (hW : (rest.map fun v => v.category).sum ≤ 8) (hdg : decode cc pc = .ok (.invokevirtual index, 3)) (hf : cells ≤ R.cells ∧ slots ≤ R.slots) :
    va_Run p l e R s m args below meth c H locs cells slots 0 0 (F0 m pc ls (As.reverse ++ .ref (ad k q) :: rest)) rest (Qc (Value.ref (ad k q) :: As).toArray) (kA sh ad H.size) := by
  have hWp := k_pass X hS
  obtain ⟨hx, hb, hml, hown, hts, hK, hI, -⟩ := X
  obtain ⟨j, -, hj⟩ := k_at (G := G) (ad := ad) (u := u) hI hs
  have hj' : (kws sh G ad u)[j]? = some (ad k q, .inr (tag, (List.range N).map (k_fv ad (u k q) rf))) := hj.trans (by unfold k_mk; rw [if_pos ht])
  exact va_runV (C := C) (n := n) ⟨hx, hb, hml, hown, hts⟩ hM (cwV n hts (k_VLg cl) rfl hrc hrs cl.2 hR) ⟨k_blind, va_recv hK hU hc hj', fun U hUh hWm => ⟨rfl, by rw [hUh], by rw [hUh]; exact hU, va_K.moved hWm.alike hK, by rw [hUh]; exact hWp.warm hWm⟩⟩ rfl hn hsize rfl (by show 2 * 0 + _ ≤ 8; omega) hdg hf
theorem k_runS (X : kCx sh p s m args c own cc nL D G ad sz) (hS : va_S (kA sh ad sz) s.heap H locs) (hU : kUv sh D G ad u H) {index nb n : Nat}
    {y : MethodName} {cb : ByteArray} {ret : Option FieldType} {rm : Room} {Qc : Array Value → State → Outcome → State → Prop} {As : List Value} (cl : k_SL own index y cb nb ret n) (hM : Met l y (.code y cb nb ret :: lw_g) rm (kPre sh D G ad u H.size As) Qc 0 0 (kA sh ad H.size))
    (hrc : rm.cells = 0) (hrs : rm.slots = 0) (hn : As.length = n) (hsize : ls.size = nL) (hR : rm.frames + 1 ≤ R.frames ∧ 8 + (nb + 11) + rm.locals ≤ R.locals) (hW : (rest.map fun v => v.category).sum ≤ 8) (hdg : decode cc pc = .ok (.invokestatic index, 3)) (hf : cells ≤ R.cells ∧ slots ≤ R.slots) :
    va_Run p l e R s m args below meth c H locs cells slots 0 0 (F0 m pc ls (As.reverse ++ rest)) rest (Qc As.toArray) (kA sh ad H.size) := by
  have hWp := k_pass X hS
  obtain ⟨hx, hb, hml, hown, hts, hK, hI, -⟩ := X
  exact va_runS (n := n) ⟨hx, hb, hml, hown, hts⟩ hM (va_cwS n hts (k_SLg cl) rfl hrc hrs cl.2 hR) ⟨k_blind, fun U hUh hWm => ⟨rfl, by rw [hUh], by rw [hUh]; exact hU, va_K.moved hWm.alike hK, by rw [hUh]; exact hWp.warm hWm⟩⟩ rfl hn hsize rfl (by show 2 * 0 + _ ≤ 8; omega) hdg hf
theorem k_backi (X : kCx sh p s m args c own cc nL D G ad sz) (hS : va_S (kA sh ad sz) s.heap H locs) {st0 : List Value} {u2 : k_U} {r : Int32} {a : Array Value} (hr : va_Run p l e R s m args below meth c H locs cells slots 0 0 (F0 m pc ls st0) rest (kQi sh D G ad u2 r H.size a) (kA sh ad H.size))
    (kk : ∀ (H1 : Heap) (locs1 : List Loc), kUv sh D G ad u2 H1 → va_S (kA sh ad sz) s.heap H1 locs1 → W p l e R s m args below meth c H1 locs1 cells slots Q (F0 m (pc + 3) ls (.int r :: rest))) : W p l e R s m args below meth c H locs cells slots Q (F0 m pc ls st0) := by
  refine va_calli hr hS (fun q _ h => k_Amono hS X.2.2.2.2.2.2.2.1 q h) (k_Amono hS X.2.2.2.2.2.2.2.1) (fun x u t H1 locs1 ht hvm hw hB hz hk hS1 => ?_)
  subst hw
  rw [ht] at hB
  exact kk H1 locs1 hB hS1
theorem k_backl (X : kCx sh p s m args c own cc nL D G ad sz) (hS : va_S (kA sh ad sz) s.heap H locs) {st0 : List Value} {u2 : k_U} {r : Int64} {a : Array Value} (hr : va_Run p l e R s m args below meth c H locs cells slots 0 0 (F0 m pc ls st0) rest (kQl sh D G ad u2 r H.size a) (kA sh ad H.size))
    (kk : ∀ (H1 : Heap) (locs1 : List Loc), kUv sh D G ad u2 H1 → va_S (kA sh ad sz) s.heap H1 locs1 → W p l e R s m args below meth c H1 locs1 cells slots Q (F0 m (pc + 3) ls (.long r :: rest))) : W p l e R s m args below meth c H locs cells slots Q (F0 m pc ls st0) := by
  refine va_calll hr hS (fun q _ h => k_Amono hS X.2.2.2.2.2.2.2.1 q h) (k_Amono hS X.2.2.2.2.2.2.2.1) (fun x u t H1 locs1 ht hvm hw hB hz hk hS1 => ?_)
  subst hw
  rw [ht] at hB
  exact kk H1 locs1 hB hS1
theorem k_backv (X : kCx sh p s m args c own cc nL D G ad sz) (hS : va_S (kA sh ad sz) s.heap H locs) {st0 : List Value} {u2 : k_U} {a : Array Value} (hr : va_Run p l e R s m args below meth c H locs cells slots 0 0 (F0 m pc ls st0) rest (kQv sh D G ad u2 H.size a) (kA sh ad H.size))
    (kk : ∀ (H1 : Heap) (locs1 : List Loc), kUv sh D G ad u2 H1 → va_S (kA sh ad sz) s.heap H1 locs1 → W p l e R s m args below meth c H1 locs1 cells slots Q (F0 m (pc + 3) ls rest)) : W p l e R s m args below meth c H locs cells slots Q (F0 m pc ls st0) := by
  refine va_callv hr hS (fun q _ h => k_Amono hS X.2.2.2.2.2.2.2.1 q h) (k_Amono hS X.2.2.2.2.2.2.2.1) (fun u t H1 locs1 ht hvm hw hB hz hk hS1 => ?_)
  rw [ht] at hB
  exact kk H1 locs1 hB hS1
theorem k_backr (X : kCx sh p s m args c own cc nL D G ad sz) (hS : va_S (kA sh ad sz) s.heap H locs) {st0 : List Value} {u2 : k_U} {b : Nat} {a : Array Value} (hr : va_Run p l e R s m args below meth c H locs cells slots 0 0 (F0 m pc ls st0) rest (kQr sh D G ad u2 b H.size a) (kA sh ad H.size))
    (kk : ∀ (H1 : Heap) (locs1 : List Loc), kUv sh D G ad u2 H1 → va_S (kA sh ad sz) s.heap H1 locs1 → W p l e R s m args below meth c H1 locs1 cells slots Q (F0 m (pc + 3) ls (.ref b :: rest))) : W p l e R s m args below meth c H locs cells slots Q (F0 m pc ls st0) := by
  refine va_callr hr hS (fun q _ h => k_Amono hS X.2.2.2.2.2.2.2.1 q h) (k_Amono hS X.2.2.2.2.2.2.2.1) (fun u a t H1 locs1 ht hvm hw hB hz hk hS1 => ?_)
  obtain ⟨rfl, hB⟩ := hB
  rw [ht] at hB
  exact kk H1 locs1 hB hS1
/-! ends -/
theorem k_iret {u2 : k_U} {r v : Int32} {ty : FieldType} (X : kCx sh p s m args c own cc nL D G ad sz) (hU : kUv sh D G ad u2 H) (hS : va_S (kA sh ad sz) s.heap H locs) (hr : meth.sig.returnType = some ty) (hlk : meth.locks = false) (hn : narrow ty (.int v) = .int v) (hv : v = r) (hdg : decode cc pc = .ok (.ireturn, 1)) :
    W p l e R s m args below meth c H locs cells slots (MQ below (kQi sh D G ad u2 r sz) args s cells slots (kA sh ad sz)) (F0 m pc ls [.int v]) :=
  W.zret (v := v) X.1 X.2.1 hr hn (fun t ht hW => ⟨⟨v, (), rfl, hv, by dsimp only; rw [ht]; exact hU⟩, hS.F ht⟩) hS.2.2 hdg hlk
theorem k_lret {u2 : k_U} {r v : Int64} (X : kCx sh p s m args c own cc nL D G ad sz) (hU : kUv sh D G ad u2 H) (hS : va_S (kA sh ad sz) s.heap H locs) (hr : meth.sig.returnType = some .long) (hlk : meth.locks = false) (hv : v = r) (hdg : decode cc pc = .ok (.lreturn, 1)) :
    W p l e R s m args below meth c H locs cells slots (MQ below (kQl sh D G ad u2 r sz) args s cells slots (kA sh ad sz)) (F0 m pc ls [.long v]) :=
  W.lret (v := v) X.1 X.2.1 hr (fun t ht hW => ⟨⟨v, (), rfl, hv, by dsimp only; rw [ht]; exact hU⟩, hS.F ht⟩) hS.2.2 hdg hlk
theorem k_vret {u2 : k_U} (X : kCx sh p s m args c own cc nL D G ad sz) (hU : kUv sh D G ad u2 H) (hS : va_S (kA sh ad sz) s.heap H locs) (hr : meth.sig.returnType = none) (hlk : meth.locks = false) (hdg : decode cc pc = .ok (.return_, 1)) :
    W p l e R s m args below meth c H locs cells slots (MQ below (kQv sh D G ad u2 sz) args s cells slots (kA sh ad sz)) (F0 m pc ls []) :=
  W.vret X.1 X.2.1 hr (fun t ht hW => ⟨⟨(), rfl, trivial, by dsimp only; rw [ht]; exact hU⟩, hS.F ht⟩) hS.2.2 hdg hlk
theorem k_aret {u2 : k_U} {a b : Nat} {n : String} (X : kCx sh p s m args c own cc nL D G ad sz) (hU : kUv sh D G ad u2 H) (hS : va_S (kA sh ad sz) s.heap H locs) (hr : meth.sig.returnType = some (.object n)) (hlk : meth.locks = false) (hv : a = b) (hdg : decode cc pc = .ok (.areturn, 1)) :
    W p l e R s m args below meth c H locs cells slots (MQ below (kQr sh D G ad u2 b sz) args s cells slots (kA sh ad sz)) (F0 m pc ls [.ref a]) :=
  W.aret (v := .ref a) X.1 X.2.1 hr (Or.inl ⟨n, rfl⟩) (Or.inr ⟨a, rfl⟩) (fun t ht hW => ⟨⟨(), a, rfl, trivial, hv, by rw [ht]; exact hU⟩, hS.F ht⟩) hS.2.2 hdg hlk
end KR

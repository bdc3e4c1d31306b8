/-! constructors: a list of what has been made so far, the object under construction at its head -/
def kF (b sz : Nat) : Nat → Prop := fun a => a = b ∨ sz ≤ a
def k_nest : List (String × Nat × MethodName × String) := [(RX10, 9, yX4_init, RX10), (RX10, 18, yX6_init, RX10), (RX10, 25, yX5_init, RX10), (RX10, 61, yX7_init, RX10), (RX9, 17, yX0_init, RX10), (RX9, 24, yX2_init, RX10), (RX9, 34, yX8_init, RX10), (RX9, 41, yX1_init, RX10)]
def k_Wc (U : State) : Prop := (∀ q ∈ k_nest, va_Nw (.methodLinkNest q.1 q.2.1 q.2.2.1 q.2.2.2) U) ∧ va_AO RX0 U ∧ va_AO RX9 U
theorem k_Wc.warm {U U' : State} (h : k_Wc U) (hW : U.WarmedH U'.vm) : k_Wc U' := ⟨fun q hq => va_Nw.warmM hW (h.1 q hq), va_AO.moved hW.alike h.2.1, va_AO.moved hW.alike h.2.2⟩
theorem k_Wc.same {U U' : State} (h : k_Wc U) (hvm : U'.vm = U.vm) : k_Wc U' :=
  ⟨fun q hq => va_Nw.same rfl hvm.symm (h.1 q hq), va_AO.moved (by rw [hvm]; exact Vm.Alike.refl _) h.2.1, va_AO.moved (by rw [hvm]; exact Vm.Alike.refl _) h.2.2⟩
def kcPre (D : va_G) (G : Nat → ClassId) (b sz tag : Nat) (fs : List Value) : Array Value → State → Prop := va_Pc [.ref b] (fun U => U.heap.size = sz ∧ b < sz ∧ va_P D vwCl [(b, .inr (tag, fs))] U.heap ∧ va_K D vwCl (k_tys G) U ∧ k_Wc U)
def kcQ (D : va_G) (b sz n : Nat) (L : va_W) : Array Value → State → Outcome → State → Prop := va_Qv (fun (_ : Unit) => True) (fun _ t => t.heap.size = sz + n ∧ va_P D vwCl L t.heap ∧ va_D (kF b sz) L) (kF b sz)
theorem kc_blind {D : va_G} {G : Nat → ClassId} {b sz tag : Nat} {fs : List Value} : FrameBlind (kcPre D G b sz tag fs) := by
  intro a U g mk h
  obtain ⟨h0, h1, h2, h3, h4, h5⟩ := h
  exact ⟨h0, h1, h2, h3, va_K.moved (u := U) (U := U.calling g mk a) (Vm.Alike.refl U.vm) h4, k_Wc.same (U := U) (U' := U.calling g mk a) h5 rfl⟩
def kcX (p : Program) (s : State) (m : MethodId) (args : Array Value) (meth : Method) (c : Code) (own : String) (cc : ByteArray) (nL : Nat) (D : va_G) (G : Nat → ClassId) (b sz : Nat) : Prop :=
  p.tables.exec = Jvm.exec ∧ c.code = cc ∧ c.maxLocals = nL ∧ s.vm.findClass own = some m.cls ∧ (∀ w ∈ lw_g, w.before args s = true) ∧ va_K D vwCl (k_tys G) s ∧ s.heap.size = sz ∧ b < sz ∧ k_Wc s ∧ meth.name = "<init>" ∧ meth.sig.returnType = none ∧ meth.locks = false
section KC
variable {p : Program} {l : Launch} {e : Env} {R : Room} {s : State} {m : MethodId} {args : Array Value} {below : List Frame} {meth : Method} {c : Code} {H : Heap} {locs : List Loc} {cells slots : Nat} {Q : State → Prop}
variable {cc : ByteArray} {own : String} {nL pc : Nat} {ls : Array Slot} {rest : List Value} {D : va_G} {G : Nat → ClassId} {b sz : Nat} {ws : va_W}
theorem kc_ofW {y : MethodName} {rm : Room} {tag n mc ms : Nat} {fs : List Value} {L : va_W} (hy : plainName y.cls = true) (hn : 1 ≤ nL)
    (body : ∀ (p : Program) (e : Env) (s : State) (m : MethodId) (args : Array Value) (below : List Frame) (meth : Method) (c : Code), kcX p s m args meth c y.cls cc nL D G b sz → va_P D vwCl [(b, .inr (tag, fs))] s.heap → va_D (kF b sz) [(b, .inr (tag, fs))] → va_S (kF b sz) s.heap s.heap [] → ∀ ls : Array Slot, lv_has ls nL [(0, .ref b)] →
      W p l e rm s m args below meth c s.heap [] 0 0 (MQ below (kcQ D b sz n L) args s mc ms (kF b sz)) (F0 m 0 ls [])) :
    y.name = "<init>" → Met l y (.code y cc nL none :: lw_g) rm (kcPre D G b sz tag fs) (kcQ D b sz n L) mc ms (kF b sz) := by
  intro hyn
  refine Met.ofW (cc := cc) (maxL := nL) (ret := none) hy rfl ?_
  intro p e s m args below meth c s₁ B hml hv
  obtain ⟨rfl, hsz, hb, hP, hK, hWc⟩ := hv
  have hts := atoms_spec (ws := .code y cc nL none :: lw_g) B.pre
  have hl := lv_entry ([.ref b] : List Value) (n := nL) hn
  rw [lg_entry_eq]
  exact body p e s m _ below meth c ⟨B.exec, B.bytes, hml, findClass_of_methodNamed B.named, fun w h => hts w (List.mem_cons_of_mem _ h), hK, hsz, hb, hWc, (name_of_methodNamed B.named B.method).1.trans hyn, B.returns, B.notSynchronized⟩ hP ⟨fun i j x y hi hj _ => by
      have h1 : i < 1 := (List.getElem?_eq_some_iff.mp hi).1
      have h2 : j < 1 := (List.getElem?_eq_some_iff.mp hj).1
      omega, fun k q hk => by
      have h1 : k < 1 := (List.getElem?_eq_some_iff.mp hk).1
      rw [show k = 0 by omega] at hk
      cases hk
      exact Or.inl rfl⟩ va_S.rf _ hl
theorem kc_obj (X : kcX p s m args meth c own cc nL D G b sz) {idx : Nat} (h1 : Cond.methodLink own idx Lib.objectInit ∈ lw_g) (h2 : Cond.instanceMethod Lib.objectInit ∈ lw_g) (h3 : Cond.code Lib.objectInit ⟨#[0xb1]⟩ 1 none ∈ lw_g) (hsize : ls.size = nL) (hR : 1 ≤ R.frames ∧ 12 ≤ R.locals) {a : Nat} (hdg : decode cc pc = .ok (.invokespecial idx, 3))
    (kk : W p l e R s m args below meth c H locs cells slots Q (F0 m (pc + 3) ls [])) : W p l e R s m args below meth c H locs cells slots Q (F0 m pc ls [.ref a]) := by
  obtain ⟨hx, hb, hml, hown, hts, -⟩ := X
  refine W.objInit hx hb hown (hts _ h1) (hts _ h2) (hts _ h3) rfl (hsize.trans hml.symm) rfl hdg hR.1 (by simpa using hR.2) ?_
  exact kk
theorem kc_put (X : kcX p s m args meth c own cc nL D G b sz) (hP : va_P D vwCl ws H) (hD : va_D (kF b sz) ws) (hS : va_S (kF b sz) s.heap H locs) {h tag i N index : Nat} (hh : H.size = h) {C : String} {T : u_T} {ty0 : Nat → FieldType} (hc : vwCl[tag]? = some (C, T, N)) (hin : ∀ w ∈ u_ws C T N, w ∈ lw_g) (hty : ∀ k, k < N → parseFieldDescriptor (T k).2.2.1 = some (ty0 k)) (hnm : ∀ a, a < N → ∀ b, b < N → a ≠ b → (T a).2.1 ≠ (T b).2.1) {fs : List Value} (he : ws[0]? = some (b, .inr (tag, fs))) (hk : i < N) (hlink : Cond.fieldLink own index (T i).1 (T i).2.1 (T i).2.2.1 ∈ lw_g) (hdecl : (T i).1 = own) {ty : FieldType} {v : Value} (hd : parseFieldDescriptor (T i).2.2.1 = some ty) (hn : narrow ty v = v) (hfit : fits ty v = true) (hl : i < fs.length) (hdg : decode cc pc = .ok (.putfield index, 3))
    (kk : ∀ (H1 : Heap) (locs1 : List Loc), H1.size = h → va_P D vwCl (ws.set 0 (b, .inr (tag, fs.set i v))) H1 → va_D (kF b sz) (ws.set 0 (b, .inr (tag, fs.set i v))) → va_S (kF b sz) s.heap H1 locs1 → W p l e R s m args below meth c H1 locs1 cells slots Q (F0 m (pc + 3) ls rest)) : W p l e R s m args below meth c H locs cells slots Q (F0 m pc ls (v :: .ref b :: rest)) := by
  subst hh
  obtain ⟨hx, hb, hml, hown, hts, hK, hsz, hbs, hWc, hin2, -⟩ := X
  have hap := va_apart (own := own) hts hin ty0 hty hnm hK hc
  obtain ⟨r, h1, cell, q1, q2, q3, q4⟩ := hP 0 _ he
  have hr : r = (C, T, N) := Option.some.inj (h1.symm.trans hc)
  subst hr
  obtain ⟨hSl, hfc, kC, hkC, hkind⟩ := hK.1 tag _ hc
  obtain ⟨cf, kf, fi, f, hi, hsl⟩ := hSl i hk
  have hlay := hts _ (hin _ (u_in_lay hk))
  unfold u_lay at hlay
  have hst := (u_facts hfc hkC (u_lays hts hin hk) hi).1
  have h4 : H[b]? = some cell := q1
  have done : ∀ H' : Heap, H'[b]? = some (cell.setSlot f.slot v) → H'.size = H.size → (∀ q, q ≠ b → H'[q]? = H[q]?) → W p l e R s m args below meth c H' (locs ++ [⟨b, f.slot⟩]) cells slots Q (F0 m (pc + 3) ls rest) := by
    intro H' e1 e2 e3
    rw [hsl] at e1 ⊢
    exact kk H' _ e2 (hP.set hD he ⟨_, hc, t_OB.to (V := updV (vp_V fs) i v) ⟨_, e1, q2, q3, t_set q4 hap hk v⟩ (fun j _ => vp_updV_set hl v j)⟩ e3) (hD.set he) (hS.put e2 e3 (hD.2 0 _ he))
  by_cases hfin : (T i).2.2.2 = true
  · rw [if_pos hfin] at hlay
    have hcf : m.cls = cf := by
      obtain ⟨_, _, c', _, _, _, -, -, hf', -, -, -, hown2, -⟩ := Cond.laysFinal_spec hlay
      have e1 : c' = cf := by have := hi.symm.trans hf'; simp at this; exact this.1.symm
      rw [hdecl] at hown2
      rw [← e1]; exact Option.some.inj (hown.symm.trans hown2)
    have h6 := u_fits hfc hkC hkind (Or.inr hlay) hi hd hn hfit
    exact W.putFinK hx hb hown (hts _ hlink) hi hst hcf hin2 (by rw [q2]; exact h6) q1 q3 (by rw [hsl]; exact k2_hasslot (q4 i hk)) rfl rfl hdg done
  · rw [if_neg hfin] at hlay
    have h6 := u_store hfc hkC hkind hlay hi hd hn hfit
    exact W.putK hx hb (f := f) ⟨hown, hts _ hlink, ⟨_, _, _, hi⟩, hst⟩ (by rw [q2]; exact h6) q1 q3 (by rw [hsl]; exact k2_hasslot (q4 i hk)) rfl rfl hdg done
theorem kc_get (X : kcX p s m args meth c own cc nL D G b sz) (hP : va_P D vwCl ws H) {tag i N index : Nat} {C : String} {T : u_T} (hc : vwCl[tag]? = some (C, T, N)) (hin : ∀ w ∈ u_ws C T N, w ∈ lw_g) {fs : List Value} (he : ws[0]? = some (b, .inr (tag, fs))) (hk : i < N) (hlink : Cond.fieldLink own index (T i).1 (T i).2.1 (T i).2.2.1 ∈ lw_g) {v : Value} (hv : fs[i]? = some v) (hdg : decode cc pc = .ok (.getfield index, 3))
    (kk : W p l e R s m args below meth c H locs cells slots Q (F0 m (pc + 3) ls (v :: rest))) : W p l e R s m args below meth c H locs cells slots Q (F0 m pc ls (.ref b :: rest)) := by
  obtain ⟨hx, hb, hml, hown, hts, hK, -⟩ := X
  exact va_get hx hb hts hin hown hK hP 0 he hc i hk (hts _ hlink) (fun _ h => h) hv hdg kk
/-- newarray -/
theorem kc_arr (X : kcX p s m args meth c own cc nL D G b sz) (hP : va_P D vwCl ws H) (hD : va_D (kF b sz) ws) (hS : va_S (kF b sz) s.heap H locs) {h t0 N : Nat} (hh : H.size = h) {atype : ArrayType} (harr : Cond.arrayClass (newarray.typeOf atype) ∈ lw_g) (ht : (k_tys G)[t0]? = some (G t0, newarray.typeOf atype)) (hRA : ∀ cA, va_RA s cA (newarray.typeOf atype) → s.vm.findClass ("[" ++ (newarray.typeOf atype).toString) = some cA)
    {n : Int32} {a0 : vp_A} (ha : ∀ cA : ClassId, vp_cell cA a0 = arrV cA N (fun _ => defaultValue (newarray.typeOf atype))) (hn : ¬ n < 0) (hN : n.toNatClampNeg = N) (hbytes : N * componentBytes (newarray.typeOf atype) ≤ 536870912) {cells1 slots1 : Nat} (hc1 : cells + 1 = cells1) (hs1 : slots + N = slots1) (hf : cells1 ≤ R.cells ∧ slots1 ≤ R.slots) (hdg : decode cc pc = .ok (.newarray atype, 2))
    (kk : ∀ H1 : Heap, H1.size = h + 1 → va_P D vwCl (ws ++ [(h, .inl (G t0, a0))]) H1 → va_D (kF b sz) (ws ++ [(h, .inl (G t0, a0))]) → va_S (kF b sz) s.heap H1 locs → W p l e R s m args below meth c H1 locs cells1 slots1 Q (F0 m (pc + 2) ls (.ref h :: rest))) : W p l e R s m args below meth c H locs cells slots Q (F0 m pc ls (.int n :: rest)) := by
  subst hh hc1 hs1
  obtain ⟨hx, hb, hml, hown, hts, hK, hsz, hbs, hWc, hin2, -⟩ := X
  refine va_newaK hx hb (hts _ harr) rfl hdg rfl hn hN hbytes hf.1 hf.2 rfl fun H1 cA e1 z1 o1 hAr hNm => ?_
  have hcA : cA = G t0 := Option.some.inj (hNm.symm.trans (hRA _ (hK.2 t0 _ ht).2))
  subst hcA
  have hk : ∀ (k : Nat) (x : Nat × va_E), ws[k]? = some x → H1[x.1]? = H[x.1]? := fun k x hx => o1 x.1 ((hP k x hx).lt)
  refine kk H1 z1 ((hP.kept hk).app (fun k x hx => ?_)) (hD.push hP rfl (Or.inr (by rw [← hsz]; exact hS.1))) ⟨Nat.le_trans hS.1 (by omega), fun x h1 h2 => (o1 x (Nat.lt_of_lt_of_le h1 hS.1)).trans (hS.2.1 x h1 h2), hS.2.2⟩
  have hz : k < 1 := (List.getElem?_eq_some_iff.mp hx).1
  rw [show k = 0 by omega] at hx
  cases hx
  show H1[H.size]? = some (vp_cell _ _)
  rw [ha]
  exact e1
/-- anewarray -/
theorem kc_arq (X : kcX p s m args meth c own cc nL D G b sz) (hP : va_P D vwCl ws H) (hD : va_D (kF b sz) ws) (hS : va_S (kF b sz) s.heap H locs) {h t0 N index : Nat} {C : String} (hh : H.size = h) (hcl : Cond.classLink own index C ∈ lw_g) (hao : va_AO C s) (ht : (k_tys G)[t0]? = some (G t0, .object C))
    {n : Int32} (hn : ¬ n < 0) (hN : n.toNatClampNeg = N) (hbytes : N * 4 ≤ 536870912) {cells1 slots1 : Nat} (hc1 : cells + 1 = cells1) (hs1 : slots + N = slots1) (hf : cells1 ≤ R.cells ∧ slots1 ≤ R.slots) (hdg : decode cc pc = .ok (.anewarray index, 3))
    (kk : ∀ H1 : Heap, H1.size = h + 1 → va_P D vwCl (ws ++ [(h, .inl (G t0, N, .inr (.inr (.inr (.inr (fun _ => none))))))]) H1 → va_D (kF b sz) (ws ++ [(h, .inl (G t0, N, .inr (.inr (.inr (.inr (fun _ => none))))))]) → va_S (kF b sz) s.heap H1 locs → W p l e R s m args below meth c H1 locs cells1 slots1 Q (F0 m (pc + 3) ls (.ref h :: rest))) : W p l e R s m args below meth c H locs cells slots Q (F0 m pc ls (.int n :: rest)) := by
  subst hh hc1 hs1 hN
  obtain ⟨hx, hb, hml, hown, hts, hK, hsz, hbs, hWc, hin2, -⟩ := X
  refine W.anew hx hb hown (hts _ hcl) (va_AO.use hao) rfl hdg rfl hn hbytes hf.1 hf.2 fun cA kA comp f1 f2 f3 f4 => ?_
  have hcA : cA = G t0 := by
    obtain ⟨-, -, -, -, -, hz⟩ := (hK.2 t0 _ ht).2
    exact Option.some.inj (f1.symm.trans hz)
  subst hcA
  generalize hH1 : H.push ({ cls := G t0, slots := Array.replicate n.toNatClampNeg .null, vm := .none } : Cell) = H1
  have z1 : H1.size = H.size + 1 := by rw [← hH1, Array.size_push]
  have e1 : H1[H.size]? = some (arrV (G t0) n.toNatClampNeg (fun _ => .null)) := by rw [← hH1, Array.getElem?_push_size, ← arrV_new]
  have o1 : ∀ q : Nat, q < H.size → H1[q]? = H[q]? := fun q hq => by rw [← hH1, Array.getElem?_push, if_neg (Nat.ne_of_lt hq)]
  have hk : ∀ (k : Nat) (x : Nat × va_E), ws[k]? = some x → H1[x.1]? = H[x.1]? := fun k x hx => o1 x.1 ((hP k x hx).lt)
  refine kk H1 z1 ((hP.kept hk).app (fun k x hx => ?_)) (hD.push hP rfl (Or.inr (by rw [← hsz]; exact hS.1))) ⟨Nat.le_trans hS.1 (by omega), fun x h1 h2 => (o1 x (Nat.lt_of_lt_of_le h1 hS.1)).trans (hS.2.1 x h1 h2), hS.2.2⟩
  have hz : k < 1 := (List.getElem?_eq_some_iff.mp hx).1
  rw [show k = 0 by omega] at hx
  cases hx
  show H1[H.size]? = some (vp_cell _ _)
  rw [vp_cell_q]
  exact e1
/-- aastore -/
theorem kc_ast (X : kcX p s m args meth c own cc nL D G b sz) (hP : va_P D vwCl ws H) (hD : va_D (kF b sz) ws) (hS : va_S (kF b sz) s.heap H locs) {h t0 q0 qk ci a n v : Nat} (hh : H.size = h) {r : vw_C} {vs : List Value} {f : Nat → Option Nat} (ha : ws[q0]? = some (a, .inl (G t0, n, .inr (.inr (.inr (.inr f)))))) (ht : (k_tys G)[t0]? = some (G t0, .object r.1)) (hv : ws[qk]? = some (v, .inr (ci, vs))) (hc : vwCl[ci]? = some r) {i : Int32} {j : Nat} (hin : vp_in i n) (hj : i.toNatClampNeg = j) (hdg : decode cc pc = .ok (.aastore, 1))
    (kk : ∀ (H1 : Heap) (locs1 : List Loc), H1.size = h → va_P D vwCl (ws.set q0 (a, .inl (G t0, n, .inr (.inr (.inr (.inr (va_up f j (some v)))))))) H1 → va_D (kF b sz) (ws.set q0 (a, .inl (G t0, n, .inr (.inr (.inr (.inr (va_up f j (some v)))))))) → va_S (kF b sz) s.heap H1 locs1 → W p l e R s m args below meth c H1 locs1 cells slots Q (F0 m (pc + 1) ls rest)) : W p l e R s m args below meth c H locs cells slots Q (F0 m pc ls (.ref v :: .int i :: .ref a :: rest)) := by
  subst hh hj
  obtain ⟨hx, hb, hml, hown, hts, hK, hsz, hbs, hWc, hin2, -⟩ := X
  have hlt : i.toNatClampNeg < n := Nat.not_le.mp fun q => hin (Or.inr q)
  have h0 : ¬ i < 0 := fun q => hin (Or.inl q)
  obtain ⟨r', hr', cellV, g1, g2, g3, -⟩ := hP qk _ hv
  have hcls := (hK.1 ci r hc).2
  obtain ⟨kA, comp, k1, k2, k3, -⟩ := (hK.2 t0 _ ht).2
  have hcomp : comp = D.1 ci := Option.some.inj (k3.symm.trans hcls.1)
  subst hcomp
  obtain ⟨kC, hkC, -⟩ := hcls.2
  refine W.aast hx hb (hP q0 _ ha) (fun q h => by cases h) (fun h => by cases h) k1 k2 rfl hkC ⟨h0, by show _ < (arrV _ _ _).slots.size; rw [arrV_size]; exact hlt⟩ g1 (fun q h => by rw [g3] at h; cases h) (by rw [g2]; exact hkC) (by rw [g2]; exact va_assign hcls) rfl rfl hdg fun H1 e z oq => ?_
  refine kk H1 _ z (hP.set hD ha ?_ oq) (hD.set ha) (hS.put z oq (hD.2 q0 _ ha))
  show H1[a]? = some (vp_cell _ _)
  rw [e]
  rw [vp_cell_q, vp_cell_q, arrV_store]
  congr 2
  funext q
  by_cases hq : q = i.toNatClampNeg
  · subst hq
    simp [updV, va_up, va_rf]
  · simp [updV, va_up, hq]
theorem kc_goodI {y : MethodName} {cb : ByteArray} {nb : Nat} (h : Cond.code y cb nb none ∈ lw_g) : GoodIn lw_g (.code y cb nb none :: lw_g) := by
  refine k_goodIn fun w hw => ?_
  rcases List.mem_cons.mp hw with hw | hw
  · rw [hw]; exact h
  · exact hw
/-- new, dup, invokespecial: an object made by its constructor; the link by nest mates, or plain -/
theorem kc_make (X : kcX p s m args meth c own cc nL D G b sz) (hP : va_P D vwCl ws H) (hD : va_D (kF b sz) ws) (hS : va_S (kF b sz) s.heap H locs) {h h1 tag N n ixN ixC nb mc ms : Nat} (hh : H.size = h) (hh1 : h + 1 + n = h1) {C : String} {T : u_T} {ty0 : Nat → FieldType} (hc : vwCl[tag]? = some (C, T, N)) (hin : ∀ w ∈ u_ws C T N, w ∈ lw_g) (hty : ∀ k, k < N → parseFieldDescriptor (T k).2.2.1 = some (ty0 k)) {fs : List Value} (hfs : ∀ j, j < N → defaultValue (ty0 j) = vp_V fs j) (w1 : Cond.classLink own ixN C ∈ lw_g) (w2 : Cond.instantiable C N ∈ lw_g) (w3 : Cond.initialized C ∈ lw_g)
    {y : MethodName} {cb : ByteArray} {rm : Room} {L : va_W} (hM : Met l y (.code y cb nb none :: lw_g) rm (kcPre D G h (h + 1) tag fs) (kcQ D h (h + 1) n L) mc ms (kF h (h + 1))) (hyC : y.cls = C) (hyn : y.name = "<init>") (hy : y.cls ≠ "java/lang/invoke/MethodHandle" ∧ y.cls ≠ "java/lang/invoke/VarHandle" ∧ (parseMethodDescriptor y.desc).map (fun d => d.parameters.length) = some 0) (w4 : Cond.instanceMethod y ∈ lw_g) (w5 : Cond.code y cb nb none ∈ lw_g) (hlink : Cond.methodLink own ixC y ∈ lw_g ∨ ∃ host, (own, ixC, y, host) ∈ k_nest)
    (hrm : rm.cells = mc ∧ rm.slots = ms) (hR : rm.frames + 1 ≤ R.frames ∧ 8 + (nb + 11) + rm.locals ≤ R.locals) (hsize : ls.size = nL) (hW : (rest.map fun v => v.category).sum ≤ 7) {cells1 slots1 : Nat} (hc1 : cells + 1 + mc = cells1) (hs1 : slots + N + ms = slots1) (hf : cells1 ≤ R.cells ∧ slots1 ≤ R.slots) (d0 : decode cc pc = .ok (.new ixN, 3)) (d3 : decode cc (pc + 3) = .ok (.dup, 1)) (d4 : decode cc (pc + 4) = .ok (.invokespecial ixC, 3))
    (kk : ∀ (H1 : Heap) (locs1 : List Loc), H1.size = h1 → va_P D vwCl (ws ++ L) H1 → va_D (kF b sz) (ws ++ L) → va_S (kF b sz) s.heap H1 locs1 → W p l e R s m args below meth c H1 locs1 cells1 slots1 Q (F0 m (pc + 7) ls (.ref h :: rest))) : W p l e R s m args below meth c H locs cells slots Q (F0 m pc ls rest) := by
  subst hh hh1 hc1 hs1 hyC
  obtain ⟨hx, hb, hml, hown, hts, hK, hsz, hbs, hWc, hin2, -⟩ := X
  have hKn := hK.1 tag _ hc
  refine W.newcK hx hb hown (hts _ w1) (hts _ w2) (hts _ w3) rfl d0 (by omega) (by omega) hKn.2.1 rfl fun H1 kC hkC e1 z1 o1 => ?_
  have hP1 : va_P D vwCl [(H.size, .inr (tag, fs))] H1 := fun k x hx => by
    have hz : k < 1 := (List.getElem?_eq_some_iff.mp hx).1
    rw [show k = 0 by omega] at hx
    cases hx
    exact ⟨_, hc, (u_born ty0 hts hin hKn hkC e1 hty).to hfs⟩
  have hS1 : va_S (kF b sz) s.heap H1 locs := ⟨Nat.le_trans hS.1 (by omega), fun x h1 h2 => (o1 x (Nat.lt_of_lt_of_le h1 hS.1)).trans (hS.2.1 x h1 h2), hS.2.2⟩
  refine lv_dup hx hb d3 rfl ?_
  have hF : ∀ q, kF H.size (H.size + 1) q → kF b sz q := fun q hq => by
    have := hS.1
    unfold kF at hq ⊢
    omega
  have hpre : PreS s H1 (kcPre D G H.size (H.size + 1) tag fs) [.ref H.size] := ⟨kc_blind, fun U hUh hWm => ⟨rfl, by rw [hUh]; exact z1, by omega, by rw [hUh]; exact hP1, va_K.moved hWm.alike hK, hWc.warm hWm⟩⟩
  have hrun : va_Run p l e R s m args below meth c H1 locs (cells + 1) (slots + N) mc ms (F0 m (pc + 4) ls (.ref H.size :: .ref H.size :: rest)) (.ref H.size :: rest) (kcQ D H.size (H.size + 1) n L ([.ref H.size] : List Value).toArray) (kF H.size (H.size + 1)) := by
    have hroom : 2 * (F0 m (pc + 4) ls (.ref H.size :: .ref H.size :: rest)).monitorRoom + ((Value.ref H.size :: rest).map fun v => v.category).sum ≤ 8 := by
      show 2 * 0 + ((Value.ref H.size :: rest).map fun v => v.category).sum ≤ 8
      rw [List.map_cons, List.sum_cons]
      show 2 * 0 + (1 + _) ≤ 8
      omega
    rcases hlink with hlink | ⟨host, hlink⟩
    · exact va_runI (As := []) (rest := .ref H.size :: rest) ⟨hx, hb, hml, hown, hts⟩ hM (cwI 0 hts (kc_goodI w5) rfl hrm.1 hrm.2 (hts _ w3) (hts _ hlink) (hts _ w4) hyn hy hR) hpre rfl rfl hsize rfl hroom d4 ⟨by omega, by omega⟩
    · exact va_runIN (As := []) (rest := .ref H.size :: rest) ⟨hx, hb, hml, hown, hts⟩ hM ⟨va_cnB 0 hts (kc_goodI w5) rfl hrm.1 hrm.2 (hWc.1 _ hlink) (hts _ w3) hy hR, hyn, hts _ w4⟩ hpre rfl rfl hsize rfl hroom d4 ⟨by omega, by omega⟩
  refine va_callv hrun hS1 (fun q _ h => hF q h) hF (fun u t H2 locs2 ht hvm hpost hB hz hk hS2 => ?_)
  obtain ⟨b1, b2, b3⟩ := hB
  rw [ht] at b1 b2
  have ho : ∀ q : Nat, q < H.size → H2[q]? = H[q]? := fun q hq => (hk q (by omega) (by unfold kF; omega)).trans (o1 q hq)
  refine kk H2 locs2 b1 ((hP.kept fun k x hx => ho x.1 ((hP k x hx).lt)).app b2) (hD.app (b3.weaken fun _ q _ h => hF q.1 h) fun i j x y hi hj => ?_) hS2
  have g1 : x.1 < H.size := (hP i x hi).lt
  have g2 : kF H.size (H.size + 1) y.1 := b3.2 j y hj
  unfold kF at g2
  omega
theorem kc_vret {n h : Nat} {L : va_W} {mc ms : Nat} (X : kcX p s m args meth c own cc nL D G b sz) (hP : va_P D vwCl ws H) (hD : va_D (kF b sz) ws) (hS : va_S (kF b sz) s.heap H locs) (hh : H.size = h) (hn : h = sz + n) (hL : ws = L) (hcs : cells = mc ∧ slots = ms) (hdg : decode cc pc = .ok (.return_, 1)) :
    W p l e R s m args below meth c H locs cells slots (MQ below (kcQ D b sz n L) args s mc ms (kF b sz)) (F0 m pc ls []) := by
  obtain ⟨rfl, rfl⟩ := hcs
  subst hL
  exact W.vret X.1 X.2.1 X.2.2.2.2.2.2.2.2.2.2.1 (fun t ht hW => ⟨⟨(), rfl, trivial, by rw [ht, hh, hn], by rw [ht]; exact hP, hD⟩, hS.F ht⟩) hS.2.2 hdg X.2.2.2.2.2.2.2.2.2.2.2
end KC
/-! the same over a list in two: the head literal, the rest opaque -/
section KD
variable {p : Program} {l : Launch} {e : Env} {R : Room} {s : State} {m : MethodId} {args : Array Value} {below : List Frame} {meth : Method} {c : Code} {H : Heap} {locs : List Loc} {cells slots : Nat} {Q : State → Prop}
variable {cc : ByteArray} {own : String} {nL pc : Nat} {ls : Array Slot} {rest : List Value} {D : va_G} {G : Nat → ClassId} {b sz : Nat} {A B : va_W}
theorem kd_at {i : Nat} {x : Nat × va_E} (h : A[i]? = some x) : (A ++ B)[i]? = some x := by
  rw [List.getElem?_append_left (List.getElem?_eq_some_iff.mp h).1]
  exact h
theorem kd_set {i : Nat} {x y : Nat × va_E} (h : A[i]? = some x) : (A ++ B).set i y = A.set i y ++ B := by
  rw [List.set_append_left]
  exact (List.getElem?_eq_some_iff.mp h).1
theorem kd_put (X : kcX p s m args meth c own cc nL D G b sz) (hP : va_P D vwCl (A ++ B) H) (hD : va_D (kF b sz) (A ++ B)) (hS : va_S (kF b sz) s.heap H locs) {h tag i N index : Nat} (hh : H.size = h) {C : String} {T : u_T} {ty0 : Nat → FieldType} (hc : vwCl[tag]? = some (C, T, N)) (hin : ∀ w ∈ u_ws C T N, w ∈ lw_g) (hty : ∀ k, k < N → parseFieldDescriptor (T k).2.2.1 = some (ty0 k)) (hnm : ∀ a, a < N → ∀ b, b < N → a ≠ b → (T a).2.1 ≠ (T b).2.1) {fs : List Value} (he : A[0]? = some (b, .inr (tag, fs))) (hk : i < N) (hlink : Cond.fieldLink own index (T i).1 (T i).2.1 (T i).2.2.1 ∈ lw_g) (hdecl : (T i).1 = own) {ty : FieldType} {v : Value} (hd : parseFieldDescriptor (T i).2.2.1 = some ty) (hn : narrow ty v = v) (hfit : fits ty v = true) (hl : i < fs.length) (hdg : decode cc pc = .ok (.putfield index, 3))
    (kk : ∀ (H1 : Heap) (locs1 : List Loc), H1.size = h → va_P D vwCl (A.set 0 (b, .inr (tag, fs.set i v)) ++ B) H1 → va_D (kF b sz) (A.set 0 (b, .inr (tag, fs.set i v)) ++ B) → va_S (kF b sz) s.heap H1 locs1 → W p l e R s m args below meth c H1 locs1 cells slots Q (F0 m (pc + 3) ls rest)) : W p l e R s m args below meth c H locs cells slots Q (F0 m pc ls (v :: .ref b :: rest)) :=
  kc_put X hP hD hS hh hc hin hty hnm (kd_at he) hk hlink hdecl hd hn hfit hl hdg fun H1 locs1 z q1 q2 q3 => kk H1 locs1 z (by rw [← kd_set he]; exact q1) (by rw [← kd_set he]; exact q2) q3
theorem kd_get (X : kcX p s m args meth c own cc nL D G b sz) (hP : va_P D vwCl (A ++ B) H) {tag i N index : Nat} {C : String} {T : u_T} (hc : vwCl[tag]? = some (C, T, N)) (hin : ∀ w ∈ u_ws C T N, w ∈ lw_g) {fs : List Value} (he : A[0]? = some (b, .inr (tag, fs))) (hk : i < N) (hlink : Cond.fieldLink own index (T i).1 (T i).2.1 (T i).2.2.1 ∈ lw_g) {v : Value} (hv : fs[i]? = some v) (hdg : decode cc pc = .ok (.getfield index, 3))
    (kk : W p l e R s m args below meth c H locs cells slots Q (F0 m (pc + 3) ls (v :: rest))) : W p l e R s m args below meth c H locs cells slots Q (F0 m pc ls (.ref b :: rest)) :=
  kc_get X hP hc hin (kd_at he) hk hlink hv hdg kk
theorem kd_arr (X : kcX p s m args meth c own cc nL D G b sz) (hP : va_P D vwCl (A ++ B) H) (hD : va_D (kF b sz) (A ++ B)) (hS : va_S (kF b sz) s.heap H locs) {h t0 N : Nat} (hh : H.size = h) {atype : ArrayType} (harr : Cond.arrayClass (newarray.typeOf atype) ∈ lw_g) (ht : (k_tys G)[t0]? = some (G t0, newarray.typeOf atype)) (hRA : ∀ cA, va_RA s cA (newarray.typeOf atype) → s.vm.findClass ("[" ++ (newarray.typeOf atype).toString) = some cA)
    {n : Int32} {a0 : vp_A} (ha : ∀ cA : ClassId, vp_cell cA a0 = arrV cA N (fun _ => defaultValue (newarray.typeOf atype))) (hn : ¬ n < 0) (hN : n.toNatClampNeg = N) (hbytes : N * componentBytes (newarray.typeOf atype) ≤ 536870912) {cells1 slots1 : Nat} (hc1 : cells + 1 = cells1) (hs1 : slots + N = slots1) (hf : cells1 ≤ R.cells ∧ slots1 ≤ R.slots) (hdg : decode cc pc = .ok (.newarray atype, 2))
    (kk : ∀ H1 : Heap, H1.size = h + 1 → va_P D vwCl (A ++ (B ++ [(h, .inl (G t0, a0))])) H1 → va_D (kF b sz) (A ++ (B ++ [(h, .inl (G t0, a0))])) → va_S (kF b sz) s.heap H1 locs → W p l e R s m args below meth c H1 locs cells1 slots1 Q (F0 m (pc + 2) ls (.ref h :: rest))) : W p l e R s m args below meth c H locs cells slots Q (F0 m pc ls (.int n :: rest)) :=
  kc_arr X hP hD hS hh harr ht hRA ha hn hN hbytes hc1 hs1 hf hdg fun H1 z q1 q2 q3 => kk H1 z (by rw [← List.append_assoc]; exact q1) (by rw [← List.append_assoc]; exact q2) q3
theorem kd_arq (X : kcX p s m args meth c own cc nL D G b sz) (hP : va_P D vwCl (A ++ B) H) (hD : va_D (kF b sz) (A ++ B)) (hS : va_S (kF b sz) s.heap H locs) {h t0 N index : Nat} {C : String} (hh : H.size = h) (hcl : Cond.classLink own index C ∈ lw_g) (hao : va_AO C s) (ht : (k_tys G)[t0]? = some (G t0, .object C))
    {n : Int32} (hn : ¬ n < 0) (hN : n.toNatClampNeg = N) (hbytes : N * 4 ≤ 536870912) {cells1 slots1 : Nat} (hc1 : cells + 1 = cells1) (hs1 : slots + N = slots1) (hf : cells1 ≤ R.cells ∧ slots1 ≤ R.slots) (hdg : decode cc pc = .ok (.anewarray index, 3))
    (kk : ∀ H1 : Heap, H1.size = h + 1 → va_P D vwCl ((A ++ [(h, .inl (G t0, N, .inr (.inr (.inr (.inr (fun _ => none))))))]) ++ B) H1 → va_D (kF b sz) ((A ++ [(h, .inl (G t0, N, .inr (.inr (.inr (.inr (fun _ => none))))))]) ++ B) → va_S (kF b sz) s.heap H1 locs → W p l e R s m args below meth c H1 locs cells1 slots1 Q (F0 m (pc + 3) ls (.ref h :: rest))) : W p l e R s m args below meth c H locs cells slots Q (F0 m pc ls (.int n :: rest)) :=
  kc_arq X hP hD hS hh hcl hao ht hn hN hbytes hc1 hs1 hf hdg fun H1 z q1 q2 q3 => kk H1 z q1.swap q2.swap q3
theorem kd_make (X : kcX p s m args meth c own cc nL D G b sz) (hP : va_P D vwCl (A ++ B) H) (hD : va_D (kF b sz) (A ++ B)) (hS : va_S (kF b sz) s.heap H locs) {h h1 tag N n ixN ixC nb mc ms : Nat} (hh : H.size = h) (hh1 : h + 1 + n = h1) {C : String} {T : u_T} {ty0 : Nat → FieldType} (hc : vwCl[tag]? = some (C, T, N)) (hin : ∀ w ∈ u_ws C T N, w ∈ lw_g) (hty : ∀ k, k < N → parseFieldDescriptor (T k).2.2.1 = some (ty0 k)) {fs : List Value} (hfs : ∀ j, j < N → defaultValue (ty0 j) = vp_V fs j) (w1 : Cond.classLink own ixN C ∈ lw_g) (w2 : Cond.instantiable C N ∈ lw_g) (w3 : Cond.initialized C ∈ lw_g)
    {y : MethodName} {cb : ByteArray} {rm : Room} {L : va_W} (hM : Met l y (.code y cb nb none :: lw_g) rm (kcPre D G h (h + 1) tag fs) (kcQ D h (h + 1) n L) mc ms (kF h (h + 1))) (hyC : y.cls = C) (hyn : y.name = "<init>") (hy : y.cls ≠ "java/lang/invoke/MethodHandle" ∧ y.cls ≠ "java/lang/invoke/VarHandle" ∧ (parseMethodDescriptor y.desc).map (fun d => d.parameters.length) = some 0) (w4 : Cond.instanceMethod y ∈ lw_g) (w5 : Cond.code y cb nb none ∈ lw_g) (hlink : Cond.methodLink own ixC y ∈ lw_g ∨ ∃ host, (own, ixC, y, host) ∈ k_nest)
    (hrm : rm.cells = mc ∧ rm.slots = ms) (hR : rm.frames + 1 ≤ R.frames ∧ 8 + (nb + 11) + rm.locals ≤ R.locals) (hsize : ls.size = nL) (hW : (rest.map fun v => v.category).sum ≤ 7) {cells1 slots1 : Nat} (hc1 : cells + 1 + mc = cells1) (hs1 : slots + N + ms = slots1) (hf : cells1 ≤ R.cells ∧ slots1 ≤ R.slots) (d0 : decode cc pc = .ok (.new ixN, 3)) (d3 : decode cc (pc + 3) = .ok (.dup, 1)) (d4 : decode cc (pc + 4) = .ok (.invokespecial ixC, 3))
    (kk : ∀ (H1 : Heap) (locs1 : List Loc), H1.size = h1 → va_P D vwCl (A ++ (B ++ L)) H1 → va_D (kF b sz) (A ++ (B ++ L)) → va_P D vwCl L H1 → va_S (kF b sz) s.heap H1 locs1 → W p l e R s m args below meth c H1 locs1 cells1 slots1 Q (F0 m (pc + 7) ls (.ref h :: rest))) : W p l e R s m args below meth c H locs cells slots Q (F0 m pc ls rest) :=
  kc_make X hP hD hS hh hh1 hc hin hty hfs w1 w2 w3 hM hyC hyn hy w4 w5 hlink hrm hR hsize hW hc1 hs1 hf d0 d3 d4 fun H1 locs1 z q1 q2 q3 => kk H1 locs1 z (by rw [← List.append_assoc]; exact q1) (by rw [← List.append_assoc]; exact q2) (q1.by (fun k => (A ++ B).length + k) fun k q hk => by rw [List.getElem?_append_right (by omega), Nat.add_sub_cancel_left]; exact hk) q3
theorem kd_ast (X : kcX p s m args meth c own cc nL D G b sz) (hP : va_P D vwCl (A ++ B) H) (hD : va_D (kF b sz) (A ++ B)) {L : va_W} (hL : va_P D vwCl L H) (hS : va_S (kF b sz) s.heap H locs) {h t0 q0 ci a n v : Nat} (hh : H.size = h) {r : vw_C} {vs : List Value} {f : Nat → Option Nat} (ha : A[q0]? = some (a, .inl (G t0, n, .inr (.inr (.inr (.inr f)))))) (ht : (k_tys G)[t0]? = some (G t0, .object r.1)) (hv : L[0]? = some (v, .inr (ci, vs))) (hc : vwCl[ci]? = some r) {i : Int32} {j : Nat} (hin : vp_in i n) (hj : i.toNatClampNeg = j) (hdg : decode cc pc = .ok (.aastore, 1))
    (kk : ∀ (H1 : Heap) (locs1 : List Loc), H1.size = h → va_P D vwCl (A.set q0 (a, .inl (G t0, n, .inr (.inr (.inr (.inr (va_up f j (some v))))))) ++ B) H1 → va_D (kF b sz) (A.set q0 (a, .inl (G t0, n, .inr (.inr (.inr (.inr (va_up f j (some v))))))) ++ B) → va_S (kF b sz) s.heap H1 locs1 → W p l e R s m args below meth c H1 locs1 cells slots Q (F0 m (pc + 1) ls rest)) : W p l e R s m args below meth c H locs cells slots Q (F0 m pc ls (.ref v :: .int i :: .ref a :: rest)) := by
  subst hh hj
  have X' := X
  obtain ⟨hx, hb, hml, hown, hts, hK, hsz, hbs, hWc, hin2, -⟩ := X'
  have hlt : i.toNatClampNeg < n := Nat.not_le.mp fun q => hin (Or.inr q)
  have h0 : ¬ i < 0 := fun q => hin (Or.inl q)
  obtain ⟨r', hr', cellV, g1, g2, g3, -⟩ := hL 0 _ hv
  have hcls := (hK.1 ci r hc).2
  obtain ⟨kA, comp, k1, k2, k3, -⟩ := (hK.2 t0 _ ht).2
  have hcomp : comp = D.1 ci := Option.some.inj (k3.symm.trans hcls.1)
  subst hcomp
  obtain ⟨kC, hkC, -⟩ := hcls.2
  refine W.aast hx hb (hP q0 _ (kd_at ha)) (fun q h => by cases h) (fun h => by cases h) k1 k2 rfl hkC ⟨h0, by show _ < (arrV _ _ _).slots.size; rw [arrV_size]; exact hlt⟩ g1 (fun q h => by rw [g3] at h; cases h) (by rw [g2]; exact hkC) (by rw [g2]; exact va_assign hcls) rfl rfl hdg fun H1 e z oq => ?_
  have key : va_at D vwCl (a, .inl (G t0, n, .inr (.inr (.inr (.inr (va_up f i.toNatClampNeg (some v))))))) H1 := by
    show H1[a]? = some (vp_cell _ _)
    rw [e]
    rw [vp_cell_q, vp_cell_q, arrV_store]
    congr 2
    funext q
    by_cases hq : q = i.toNatClampNeg
    · subst hq
      simp [updV, va_up, va_rf]
    · simp [updV, va_up, hq]
  have h1 := hP.set hD (kd_at ha) key oq
  have h2 := hD.set (e := .inl (G t0, n, .inr (.inr (.inr (.inr (va_up f i.toNatClampNeg (some v))))))) (kd_at (B := B) ha)
  rw [kd_set ha] at h1 h2
  exact kk H1 _ z h1 h2 (hS.put z oq (hD.2 q0 _ (kd_at ha)))
end KD

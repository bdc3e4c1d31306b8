set_option maxRecDepth 100000 in
set_option maxHeartbeats 4000000 in
theorem kL_0 {p : Program} {l : Launch} {e : Env} {s : State} {m : MethodId} {args : Array Value} {below : List Frame} {meth : Method} {c : Code} {H : Heap} {locs : List Loc} {cells slots : Nat} {Q : State → Prop} {D : va_G} {G : Nat → ClassId} {ad : Nat → Nat → Nat} {sz : Nat} {u u' : k_U} {b L : Nat} {xs : Nat → Int32} {i : Int32} {ls : Array Slot} (hlT : l.stackTraces = false) (X : k_Cx p s m args c RL cL_law 9 D G ad sz) (hU : k_Uv D G ad u H) (hS : va_S (k_A ad sz) s.heap H locs) (hX : va_X b L xs s s.heap) (hbl : b < s.heap.size) (hbA : ¬ k_A ad sz b) (hl : lv_has ls 9 [(4, .int i), (3, .ref (ad 6 0)), (2, .ref (ad 5 0)), (1, .ref (ad 0 0)), (0, .ref b)]) (h1 : vp_in (i + 1) L) (h2 : vp_in (i + 2) L) (h3 : vp_in (i + 3) L) (h4 : vp_in (i + 4) L) (h5 : vp_in (i + 5) L) (hc : cells + 1 ≤ 601024 ∧ slots + 6 ≤ 7293034) (hf : kLsel 0 u (xs (i + 1).toNatClampNeg) (xs (i + 2).toNatClampNeg) (xs (i + 3).toNatClampNeg) (xs (i + 4).toNatClampNeg) (xs (i + 5).toNatClampNeg) = some u') (K : ∀ (H : Heap) (locs : List Loc) (ls : Array Slot), k_Uv D G ad u' H → va_S (k_A ad sz) s.heap H locs → lv_has ls 9 [(4, .int i), (3, .ref (ad 6 0)), (2, .ref (ad 5 0)), (1, .ref (ad 0 0)), (0, .ref b)] → W p l e room_1 s m args below meth c H locs (cells + 1) (slots + 6) Q (F0 m 2118 ls [])) : W p l e room_1 s m args below meth c H locs cells slots Q (F0 m 228 ls []) := by
  have hf : (k_bd (f_L_append u (xs (i + 1).toNatClampNeg) (xs (i + 2).toNatClampNeg) (xs (i + 3).toNatClampNeg) (xs (i + 4).toNatClampNeg) (xs (i + 5).toNatClampNeg)) fun r => k_bd (f_X11_append (r.1 5) (xs (i + 1).toNatClampNeg) (xs (i + 2).toNatClampNeg) (xs (i + 3).toNatClampNeg) (xs (i + 4).toNatClampNeg) (xs (i + 5).toNatClampNeg)) fun q => kLck r q) = some u' := hf
  refine lv_aload_n X.1 X.2.1 dL_law_228 rfl (lv_at hl 3 rfl) ?_
  refine lv_aload_n X.1 X.2.1 dL_law_229 rfl (lv_at hl 4 rfl) ?_
  refine lv_iload X.1 X.2.1 dL_law_230 (lv_at hl 0 rfl) ?_
  refine lv_iconst (v := 1) X.1 X.2.1 dL_law_232 (by decide) ?_
  refine lv_iadd X.1 X.2.1 dL_law_233 ?_
  refine va_sld X.1 X.2.1 hX hbl hbA hS h1 dL_law_234 ?_
  refine lv_aload_n X.1 X.2.1 dL_law_235 rfl (lv_at hl 4 rfl) ?_
  refine lv_iload X.1 X.2.1 dL_law_236 (lv_at hl 0 rfl) ?_
  refine lv_iconst (v := 2) X.1 X.2.1 dL_law_238 (by decide) ?_
  refine lv_iadd X.1 X.2.1 dL_law_239 ?_
  refine va_sld X.1 X.2.1 hX hbl hbA hS h2 dL_law_240 ?_
  refine lv_aload_n X.1 X.2.1 dL_law_241 rfl (lv_at hl 4 rfl) ?_
  refine lv_iload X.1 X.2.1 dL_law_242 (lv_at hl 0 rfl) ?_
  refine lv_iconst (v := 3) X.1 X.2.1 dL_law_244 (by decide) ?_
  refine lv_iadd X.1 X.2.1 dL_law_245 ?_
  refine va_sld X.1 X.2.1 hX hbl hbA hS h3 dL_law_246 ?_
  refine lv_aload_n X.1 X.2.1 dL_law_247 rfl (lv_at hl 4 rfl) ?_
  refine lv_iload X.1 X.2.1 dL_law_248 (lv_at hl 0 rfl) ?_
  refine lv_iconst (v := 4) X.1 X.2.1 dL_law_250 (by decide) ?_
  refine lv_iadd X.1 X.2.1 dL_law_251 ?_
  refine va_sld X.1 X.2.1 hX hbl hbA hS h4 dL_law_252 ?_
  refine lv_aload_n X.1 X.2.1 dL_law_253 rfl (lv_at hl 4 rfl) ?_
  refine lv_iload X.1 X.2.1 dL_law_254 (lv_at hl 0 rfl) ?_
  refine lv_iconst (v := 5) X.1 X.2.1 dL_law_256 (by decide) ?_
  refine lv_iadd X.1 X.2.1 dL_law_257 ?_
  refine va_sld X.1 X.2.1 hX hbl hbA hS h5 dL_law_258 ?_
  refine lv_aload_n X.1 X.2.1 dL_law_259 rfl (lv_at hl 1 rfl) ?_
  obtain ⟨r, hr, hf⟩ := k_bdE hf
  refine kL_backi X hS (kL_runSW (As := [.ref (ad 0 0), .int (xs (i + 1).toNatClampNeg), .int (xs (i + 2).toNatClampNeg), .int (xs (i + 3).toNatClampNeg), .int (xs (i + 4).toNatClampNeg), .int (xs (i + 5).toNatClampNeg), .ref (ad 6 0)]) (rest := []) X hS hU slw_L_107 (c_L_append X.2.2.2.2.2.2.1 hlT hr) rfl rfl rfl hl.1 ⟨Nat.le_of_ble_eq_true rfl, Nat.le_of_ble_eq_true rfl⟩ (Nat.le_of_ble_eq_true rfl) dL_law_260 hc) (fun H locs hU hS => ?_)
  refine lv_istore (lv' := [(5, .int r.2), (4, .int i), (3, .ref (ad 6 0)), (2, .ref (ad 5 0)), (1, .ref (ad 0 0)), (0, .ref b)]) X.1 X.2.1 dL_law_263 hl (by decide) rfl (fun ls hl => ?_)
  refine lv_aload_n X.1 X.2.1 dL_law_265 rfl (lv_at hl 3 rfl) ?_
  refine lv_aload_n X.1 X.2.1 dL_law_266 rfl (lv_at hl 5 rfl) ?_
  refine lv_iload X.1 X.2.1 dL_law_267 (lv_at hl 1 rfl) ?_
  refine lv_iconst (v := 1) X.1 X.2.1 dL_law_269 (by decide) ?_
  refine lv_iadd X.1 X.2.1 dL_law_270 ?_
  refine va_sld X.1 X.2.1 hX hbl hbA hS h1 dL_law_271 ?_
  refine lv_aload_n X.1 X.2.1 dL_law_272 rfl (lv_at hl 5 rfl) ?_
  refine lv_iload X.1 X.2.1 dL_law_273 (lv_at hl 1 rfl) ?_
  refine lv_iconst (v := 2) X.1 X.2.1 dL_law_275 (by decide) ?_
  refine lv_iadd X.1 X.2.1 dL_law_276 ?_
  refine va_sld X.1 X.2.1 hX hbl hbA hS h2 dL_law_277 ?_
  refine lv_aload_n X.1 X.2.1 dL_law_278 rfl (lv_at hl 5 rfl) ?_
  refine lv_iload X.1 X.2.1 dL_law_279 (lv_at hl 1 rfl) ?_
  refine lv_iconst (v := 3) X.1 X.2.1 dL_law_281 (by decide) ?_
  refine lv_iadd X.1 X.2.1 dL_law_282 ?_
  refine va_sld X.1 X.2.1 hX hbl hbA hS h3 dL_law_283 ?_
  refine lv_aload_n X.1 X.2.1 dL_law_284 rfl (lv_at hl 5 rfl) ?_
  refine lv_iload X.1 X.2.1 dL_law_285 (lv_at hl 1 rfl) ?_
  refine lv_iconst (v := 4) X.1 X.2.1 dL_law_287 (by decide) ?_
  refine lv_iadd X.1 X.2.1 dL_law_288 ?_
  refine va_sld X.1 X.2.1 hX hbl hbA hS h4 dL_law_289 ?_
  refine lv_aload_n X.1 X.2.1 dL_law_290 rfl (lv_at hl 5 rfl) ?_
  refine lv_iload X.1 X.2.1 dL_law_291 (lv_at hl 1 rfl) ?_
  refine lv_iconst (v := 5) X.1 X.2.1 dL_law_293 (by decide) ?_
  refine lv_iadd X.1 X.2.1 dL_law_294 ?_
  refine va_sld X.1 X.2.1 hX hbl hbA hS h5 dL_law_295 ?_
  obtain ⟨q, hq, hf⟩ := k_bdE hf
  refine k_backi X hS (k_runV (As := [.int (xs (i + 1).toNatClampNeg), .int (xs (i + 2).toNatClampNeg), .int (xs (i + 3).toNatClampNeg), .int (xs (i + 4).toNatClampNeg), .int (xs (i + 5).toNatClampNeg)]) (rest := []) X hS hU sh_5_0 (by decide) rfl vl_L_112 (c_X11_append X.2.2.2.2.2.2.1 rfl hq) rfl rfl rfl hl.1 ⟨Nat.le_of_ble_eq_true rfl, Nat.le_of_ble_eq_true rfl⟩ (Nat.le_of_ble_eq_true rfl) dL_law_296 hc) (fun H locs hU hS => ?_)
  refine lv_istore (lv' := [(6, .int q.2), (5, .int r.2), (4, .int i), (3, .ref (ad 6 0)), (2, .ref (ad 5 0)), (1, .ref (ad 0 0)), (0, .ref b)]) X.1 X.2.1 dL_law_299 hl (by decide) rfl (fun ls hl => ?_)
  obtain ⟨hk, hf⟩ := k_ckE hf
  have hz9 := Option.some.inj hf
  subst hz9
  refine lv_aload_n X.1 X.2.1 dL_law_301 rfl (lv_at hl 4 rfl) ?_
  refine k_backi X hS (k_runV (As := []) (rest := []) X hS hU sh_5_0 (by decide) rfl vl_L_113 (c_X11_thrown (w := q.1) X.2.2.2.2.2.2.1 (k_uc_s _ _ _) (show f_X11_thrown q.1 = some (q.1 0 0) from rfl)) rfl rfl rfl hl.1 ⟨Nat.le_of_ble_eq_true rfl, Nat.le_of_ble_eq_true rfl⟩ (Nat.le_of_ble_eq_true rfl) dL_law_302 hc) (fun H locs hU hS => ?_)
  refine lv_iload X.1 X.2.1 dL_law_305 (lv_at hl 1 rfl) ?_
  refine lv_icmp_eq (tgt := 312) X.1 X.2.1 dL_law_307 (by decide) (fun _ => ?_) (fun q9 => absurd hk.1 q9)
  refine lv_iload X.1 X.2.1 dL_law_312 (lv_at hl 1 rfl) ?_
  refine lv_if_ne (tgt := 329) X.1 X.2.1 dL_law_314 (by decide) (fun _ => ?_) (fun h0 => ?_)
  · refine lv_goto (tgt := 2118) X.1 X.2.1 dL_law_329 (by decide) ?_
    exact K _ _ _ hU hS (lv_sub hl [2, 3, 4, 5, 6] rfl)
  · refine lv_aload_n X.1 X.2.1 dL_law_317 rfl (lv_at hl 3 rfl) ?_
    refine lv_iconst (v := 0) X.1 X.2.1 dL_law_318 (by decide) ?_
    refine k_jld sh_6_0 X hU dL_law_319 ?_
    refine lv_iload X.1 X.2.1 dL_law_320 (lv_at hl 0 rfl) ?_
    refine lv_i2l (v := q.2.toInt64) X.1 X.2.1 dL_law_322 rfl ?_
    refine W.lcmp X.1 X.2.1 dL_law_323 ?_
    refine lv_if_eq (tgt := 329) X.1 X.2.1 dL_law_324 (by decide) (fun _ => ?_) (fun q9 => absurd (kL_cmp0 (hk.2 h0)) q9)
    refine lv_goto (tgt := 2118) X.1 X.2.1 dL_law_329 (by decide) ?_
    exact K _ _ _ hU hS (lv_sub hl [2, 3, 4, 5, 6] rfl)
set_option maxRecDepth 100000 in
set_option maxHeartbeats 4000000 in
theorem kL_1 {p : Program} {l : Launch} {e : Env} {s : State} {m : MethodId} {args : Array Value} {below : List Frame} {meth : Method} {c : Code} {H : Heap} {locs : List Loc} {cells slots : Nat} {Q : State → Prop} {D : va_G} {G : Nat → ClassId} {ad : Nat → Nat → Nat} {sz : Nat} {u u' : k_U} {b L : Nat} {xs : Nat → Int32} {i : Int32} {ls : Array Slot} (hlT : l.stackTraces = false) (X : k_Cx p s m args c RL cL_law 9 D G ad sz) (hU : k_Uv D G ad u H) (hS : va_S (k_A ad sz) s.heap H locs) (hX : va_X b L xs s s.heap) (hbl : b < s.heap.size) (hbA : ¬ k_A ad sz b) (hl : lv_has ls 9 [(4, .int i), (3, .ref (ad 6 0)), (2, .ref (ad 5 0)), (1, .ref (ad 0 0)), (0, .ref b)]) (h1 : vp_in (i + 1) L) (h2 : vp_in (i + 2) L) (h3 : vp_in (i + 3) L) (h4 : vp_in (i + 4) L) (h5 : vp_in (i + 5) L) (hc : cells + 1 ≤ 601024 ∧ slots + 6 ≤ 7293034) (hf : kLsel 1 u (xs (i + 1).toNatClampNeg) (xs (i + 2).toNatClampNeg) (xs (i + 3).toNatClampNeg) (xs (i + 4).toNatClampNeg) (xs (i + 5).toNatClampNeg) = some u') (K : ∀ (H : Heap) (locs : List Loc) (ls : Array Slot), k_Uv D G ad u' H → va_S (k_A ad sz) s.heap H locs → lv_has ls 9 [(4, .int i), (3, .ref (ad 6 0)), (2, .ref (ad 5 0)), (1, .ref (ad 0 0)), (0, .ref b)] → W p l e room_1 s m args below meth c H locs (cells + 1) (slots + 6) Q (F0 m 2118 ls [])) : W p l e room_1 s m args below meth c H locs cells slots Q (F0 m 332 ls []) := by
  have hf : (k_bd (f_X10_load u) fun r => k_bd (f_X11_load (r.1 5)) fun q => k_ck (r.2 = q.2) (some (k_uc r.1 5 q.1))) = some u' := hf
  refine lv_aload_n X.1 X.2.1 dL_law_332 rfl (lv_at hl 3 rfl) ?_
  obtain ⟨r, hr, hf⟩ := k_bdE hf
  refine k_backi X hS (k_runV (As := []) (rest := []) X hS hU sh_0_0 (by decide) rfl vl_L_116 (c_X10_load X.2.2.2.2.2.2.1 hr) rfl rfl rfl hl.1 ⟨Nat.le_of_ble_eq_true rfl, Nat.le_of_ble_eq_true rfl⟩ (Nat.le_of_ble_eq_true rfl) dL_law_333 ⟨Nat.le_trans (Nat.le_succ cells) hc.1, Nat.le_trans (Nat.le_add_right slots 6) hc.2⟩) (fun H locs hU hS => ?_)
  refine lv_aload_n X.1 X.2.1 dL_law_336 rfl (lv_at hl 2 rfl) ?_
  obtain ⟨q, hq, hf⟩ := k_bdE hf
  refine k_backi X hS (k_runV (As := []) (rest := [.int r.2]) X hS hU sh_5_0 (by decide) rfl vl_L_119 (c_X11_load X.2.2.2.2.2.2.1 rfl hq) rfl rfl rfl hl.1 ⟨Nat.le_of_ble_eq_true rfl, Nat.le_of_ble_eq_true rfl⟩ (Nat.le_of_ble_eq_true rfl) dL_law_337 ⟨Nat.le_trans (Nat.le_succ cells) hc.1, Nat.le_trans (Nat.le_add_right slots 6) hc.2⟩) (fun H locs hU hS => ?_)
  obtain ⟨hk, hf⟩ := k_ckE hf
  have hz9 := Option.some.inj hf
  subst hz9
  refine lv_icmp_eq (tgt := 2118) X.1 X.2.1 dL_law_340 (by decide) (fun _ => ?_) (fun q9 => absurd hk q9)
  refine W.widen (k := cells + 1) (n := slots + 6) (by omega) (by omega) ?_
  exact K _ _ _ hU hS (lv_sub hl [0, 1, 2, 3, 4] rfl)
set_option maxRecDepth 100000 in
set_option maxHeartbeats 4000000 in
theorem kL_2 {p : Program} {l : Launch} {e : Env} {s : State} {m : MethodId} {args : Array Value} {below : List Frame} {meth : Method} {c : Code} {H : Heap} {locs : List Loc} {cells slots : Nat} {Q : State → Prop} {D : va_G} {G : Nat → ClassId} {ad : Nat → Nat → Nat} {sz : Nat} {u u' : k_U} {b L : Nat} {xs : Nat → Int32} {i : Int32} {ls : Array Slot} (hlT : l.stackTraces = false) (X : k_Cx p s m args c RL cL_law 9 D G ad sz) (hU : k_Uv D G ad u H) (hS : va_S (k_A ad sz) s.heap H locs) (hX : va_X b L xs s s.heap) (hbl : b < s.heap.size) (hbA : ¬ k_A ad sz b) (hl : lv_has ls 9 [(4, .int i), (3, .ref (ad 6 0)), (2, .ref (ad 5 0)), (1, .ref (ad 0 0)), (0, .ref b)]) (h1 : vp_in (i + 1) L) (h2 : vp_in (i + 2) L) (h3 : vp_in (i + 3) L) (h4 : vp_in (i + 4) L) (h5 : vp_in (i + 5) L) (hc : cells + 1 ≤ 601024 ∧ slots + 6 ≤ 7293034) (hf : kLsel 2 u (xs (i + 1).toNatClampNeg) (xs (i + 2).toNatClampNeg) (xs (i + 3).toNatClampNeg) (xs (i + 4).toNatClampNeg) (xs (i + 5).toNatClampNeg) = some u') (K : ∀ (H : Heap) (locs : List Loc) (ls : Array Slot), k_Uv D G ad u' H → va_S (k_A ad sz) s.heap H locs → lv_has ls 9 [(4, .int i), (3, .ref (ad 6 0)), (2, .ref (ad 5 0)), (1, .ref (ad 0 0)), (0, .ref b)] → W p l e room_1 s m args below meth c H locs (cells + 1) (slots + 6) Q (F0 m 2118 ls [])) : W p l e room_1 s m args below meth c H locs cells slots Q (F0 m 345 ls []) := by
  have hf : (k_bd (f_X10_play u) fun r => k_bd (f_X11_play (r.1 5)) fun q => k_ck (r.2 = q.2) (some (k_uc r.1 5 q.1))) = some u' := hf
  refine lv_aload_n X.1 X.2.1 dL_law_345 rfl (lv_at hl 3 rfl) ?_
  obtain ⟨r, hr, hf⟩ := k_bdE hf
  refine k_backi X hS (k_runV (As := []) (rest := []) X hS hU sh_0_0 (by decide) rfl vl_L_120 (c_X10_play X.2.2.2.2.2.2.1 hr) rfl rfl rfl hl.1 ⟨Nat.le_of_ble_eq_true rfl, Nat.le_of_ble_eq_true rfl⟩ (Nat.le_of_ble_eq_true rfl) dL_law_346 ⟨Nat.le_trans (Nat.le_succ cells) hc.1, Nat.le_trans (Nat.le_add_right slots 6) hc.2⟩) (fun H locs hU hS => ?_)
  refine lv_aload_n X.1 X.2.1 dL_law_349 rfl (lv_at hl 2 rfl) ?_
  obtain ⟨q, hq, hf⟩ := k_bdE hf
  refine k_backi X hS (k_runV (As := []) (rest := [.int r.2]) X hS hU sh_5_0 (by decide) rfl vl_L_123 (c_X11_play X.2.2.2.2.2.2.1 rfl hq) rfl rfl rfl hl.1 ⟨Nat.le_of_ble_eq_true rfl, Nat.le_of_ble_eq_true rfl⟩ (Nat.le_of_ble_eq_true rfl) dL_law_350 ⟨Nat.le_trans (Nat.le_succ cells) hc.1, Nat.le_trans (Nat.le_add_right slots 6) hc.2⟩) (fun H locs hU hS => ?_)
  obtain ⟨hk, hf⟩ := k_ckE hf
  have hz9 := Option.some.inj hf
  subst hz9
  refine lv_icmp_eq (tgt := 2118) X.1 X.2.1 dL_law_353 (by decide) (fun _ => ?_) (fun q9 => absurd hk q9)
  refine W.widen (k := cells + 1) (n := slots + 6) (by omega) (by omega) ?_
  exact K _ _ _ hU hS (lv_sub hl [0, 1, 2, 3, 4] rfl)
set_option maxRecDepth 100000 in
set_option maxHeartbeats 4000000 in
theorem kL_3 {p : Program} {l : Launch} {e : Env} {s : State} {m : MethodId} {args : Array Value} {below : List Frame} {meth : Method} {c : Code} {H : Heap} {locs : List Loc} {cells slots : Nat} {Q : State → Prop} {D : va_G} {G : Nat → ClassId} {ad : Nat → Nat → Nat} {sz : Nat} {u u' : k_U} {b L : Nat} {xs : Nat → Int32} {i : Int32} {ls : Array Slot} (hlT : l.stackTraces = false) (X : k_Cx p s m args c RL cL_law 9 D G ad sz) (hU : k_Uv D G ad u H) (hS : va_S (k_A ad sz) s.heap H locs) (hX : va_X b L xs s s.heap) (hbl : b < s.heap.size) (hbA : ¬ k_A ad sz b) (hl : lv_has ls 9 [(4, .int i), (3, .ref (ad 6 0)), (2, .ref (ad 5 0)), (1, .ref (ad 0 0)), (0, .ref b)]) (h1 : vp_in (i + 1) L) (h2 : vp_in (i + 2) L) (h3 : vp_in (i + 3) L) (h4 : vp_in (i + 4) L) (h5 : vp_in (i + 5) L) (hc : cells + 1 ≤ 601024 ∧ slots + 6 ≤ 7293034) (hf : kLsel 3 u (xs (i + 1).toNatClampNeg) (xs (i + 2).toNatClampNeg) (xs (i + 3).toNatClampNeg) (xs (i + 4).toNatClampNeg) (xs (i + 5).toNatClampNeg) = some u') (K : ∀ (H : Heap) (locs : List Loc) (ls : Array Slot), k_Uv D G ad u' H → va_S (k_A ad sz) s.heap H locs → lv_has ls 9 [(4, .int i), (3, .ref (ad 6 0)), (2, .ref (ad 5 0)), (1, .ref (ad 0 0)), (0, .ref b)] → W p l e room_1 s m args below meth c H locs (cells + 1) (slots + 6) Q (F0 m 2118 ls [])) : W p l e room_1 s m args below meth c H locs cells slots Q (F0 m 358 ls []) := by
  have hf : (k_bd (f_X10_errorCode u) fun v => k_bd (f_X11_errorCode (u 5)) fun q => k_ck (v = q.2) (some (k_uc u 5 q.1))) = some u' := hf
  refine lv_aload_n X.1 X.2.1 dL_law_358 rfl (lv_at hl 3 rfl) ?_
  obtain ⟨v, hr, hf⟩ := k_bdE hf
  refine k_backi X hS (k_runV (As := []) (rest := []) X hS hU sh_0_0 (by decide) rfl vl_L_124 (c_X10_errorCode X.2.2.2.2.2.2.1 hr) rfl rfl rfl hl.1 ⟨Nat.le_of_ble_eq_true rfl, Nat.le_of_ble_eq_true rfl⟩ (Nat.le_of_ble_eq_true rfl) dL_law_359 ⟨Nat.le_trans (Nat.le_succ cells) hc.1, Nat.le_trans (Nat.le_add_right slots 6) hc.2⟩) (fun H locs hU hS => ?_)
  refine lv_aload_n X.1 X.2.1 dL_law_362 rfl (lv_at hl 2 rfl) ?_
  obtain ⟨q, hq, hf⟩ := k_bdE hf
  refine k_backi X hS (k_runV (As := []) (rest := [.int v]) X hS hU sh_5_0 (by decide) rfl vl_L_127 (c_X11_errorCode X.2.2.2.2.2.2.1 rfl hq) rfl rfl rfl hl.1 ⟨Nat.le_of_ble_eq_true rfl, Nat.le_of_ble_eq_true rfl⟩ (Nat.le_of_ble_eq_true rfl) dL_law_363 ⟨Nat.le_trans (Nat.le_succ cells) hc.1, Nat.le_trans (Nat.le_add_right slots 6) hc.2⟩) (fun H locs hU hS => ?_)
  obtain ⟨hk, hf⟩ := k_ckE hf
  have hz9 := Option.some.inj hf
  subst hz9
  refine lv_icmp_eq (tgt := 2118) X.1 X.2.1 dL_law_366 (by decide) (fun _ => ?_) (fun q9 => absurd hk q9)
  refine W.widen (k := cells + 1) (n := slots + 6) (by omega) (by omega) ?_
  exact K _ _ _ hU hS (lv_sub hl [0, 1, 2, 3, 4] rfl)
set_option maxRecDepth 100000 in
set_option maxHeartbeats 4000000 in
theorem kL_4 {p : Program} {l : Launch} {e : Env} {s : State} {m : MethodId} {args : Array Value} {below : List Frame} {meth : Method} {c : Code} {H : Heap} {locs : List Loc} {cells slots : Nat} {Q : State → Prop} {D : va_G} {G : Nat → ClassId} {ad : Nat → Nat → Nat} {sz : Nat} {u u' : k_U} {b L : Nat} {xs : Nat → Int32} {i : Int32} {ls : Array Slot} (hlT : l.stackTraces = false) (X : k_Cx p s m args c RL cL_law 9 D G ad sz) (hU : k_Uv D G ad u H) (hS : va_S (k_A ad sz) s.heap H locs) (hX : va_X b L xs s s.heap) (hbl : b < s.heap.size) (hbA : ¬ k_A ad sz b) (hl : lv_has ls 9 [(4, .int i), (3, .ref (ad 6 0)), (2, .ref (ad 5 0)), (1, .ref (ad 0 0)), (0, .ref b)]) (h1 : vp_in (i + 1) L) (h2 : vp_in (i + 2) L) (h3 : vp_in (i + 3) L) (h4 : vp_in (i + 4) L) (h5 : vp_in (i + 5) L) (hc : cells + 1 ≤ 601024 ∧ slots + 6 ≤ 7293034) (hf : kLsel 4 u (xs (i + 1).toNatClampNeg) (xs (i + 2).toNatClampNeg) (xs (i + 3).toNatClampNeg) (xs (i + 4).toNatClampNeg) (xs (i + 5).toNatClampNeg) = some u') (K : ∀ (H : Heap) (locs : List Loc) (ls : Array Slot), k_Uv D G ad u' H → va_S (k_A ad sz) s.heap H locs → lv_has ls 9 [(4, .int i), (3, .ref (ad 6 0)), (2, .ref (ad 5 0)), (1, .ref (ad 0 0)), (0, .ref b)] → W p l e room_1 s m args below meth c H locs (cells + 1) (slots + 6) Q (F0 m 2118 ls [])) : W p l e room_1 s m args below meth c H locs cells slots Q (F0 m 371 ls []) := by
  have hf : (k_bd (f_X10_errorPosition u) fun v => k_bd (f_X11_errorPosition (u 5)) fun q => k_ck (v = q.2) (some (k_uc u 5 q.1))) = some u' := hf
  refine lv_aload_n X.1 X.2.1 dL_law_371 rfl (lv_at hl 3 rfl) ?_
  obtain ⟨v, hr, hf⟩ := k_bdE hf
  refine k_backi X hS (k_runV (As := []) (rest := []) X hS hU sh_0_0 (by decide) rfl vl_L_128 (c_X10_errorPosition X.2.2.2.2.2.2.1 hr) rfl rfl rfl hl.1 ⟨Nat.le_of_ble_eq_true rfl, Nat.le_of_ble_eq_true rfl⟩ (Nat.le_of_ble_eq_true rfl) dL_law_372 ⟨Nat.le_trans (Nat.le_succ cells) hc.1, Nat.le_trans (Nat.le_add_right slots 6) hc.2⟩) (fun H locs hU hS => ?_)
  refine lv_aload_n X.1 X.2.1 dL_law_375 rfl (lv_at hl 2 rfl) ?_
  obtain ⟨q, hq, hf⟩ := k_bdE hf
  refine k_backi X hS (k_runV (As := []) (rest := [.int v]) X hS hU sh_5_0 (by decide) rfl vl_L_131 (c_X11_errorPosition X.2.2.2.2.2.2.1 rfl hq) rfl rfl rfl hl.1 ⟨Nat.le_of_ble_eq_true rfl, Nat.le_of_ble_eq_true rfl⟩ (Nat.le_of_ble_eq_true rfl) dL_law_376 ⟨Nat.le_trans (Nat.le_succ cells) hc.1, Nat.le_trans (Nat.le_add_right slots 6) hc.2⟩) (fun H locs hU hS => ?_)
  obtain ⟨hk, hf⟩ := k_ckE hf
  have hz9 := Option.some.inj hf
  subst hz9
  refine lv_icmp_eq (tgt := 2118) X.1 X.2.1 dL_law_379 (by decide) (fun _ => ?_) (fun q9 => absurd hk q9)
  refine W.widen (k := cells + 1) (n := slots + 6) (by omega) (by omega) ?_
  exact K _ _ _ hU hS (lv_sub hl [0, 1, 2, 3, 4] rfl)
set_option maxRecDepth 100000 in
set_option maxHeartbeats 4000000 in
theorem kL_5 {p : Program} {l : Launch} {e : Env} {s : State} {m : MethodId} {args : Array Value} {below : List Frame} {meth : Method} {c : Code} {H : Heap} {locs : List Loc} {cells slots : Nat} {Q : State → Prop} {D : va_G} {G : Nat → ClassId} {ad : Nat → Nat → Nat} {sz : Nat} {u u' : k_U} {b L : Nat} {xs : Nat → Int32} {i : Int32} {ls : Array Slot} (hlT : l.stackTraces = false) (X : k_Cx p s m args c RL cL_law 9 D G ad sz) (hU : k_Uv D G ad u H) (hS : va_S (k_A ad sz) s.heap H locs) (hX : va_X b L xs s s.heap) (hbl : b < s.heap.size) (hbA : ¬ k_A ad sz b) (hl : lv_has ls 9 [(4, .int i), (3, .ref (ad 6 0)), (2, .ref (ad 5 0)), (1, .ref (ad 0 0)), (0, .ref b)]) (h1 : vp_in (i + 1) L) (h2 : vp_in (i + 2) L) (h3 : vp_in (i + 3) L) (h4 : vp_in (i + 4) L) (h5 : vp_in (i + 5) L) (hc : cells + 1 ≤ 601024 ∧ slots + 6 ≤ 7293034) (hf : kLsel 5 u (xs (i + 1).toNatClampNeg) (xs (i + 2).toNatClampNeg) (xs (i + 3).toNatClampNeg) (xs (i + 4).toNatClampNeg) (xs (i + 5).toNatClampNeg) = some u') (K : ∀ (H : Heap) (locs : List Loc) (ls : Array Slot), k_Uv D G ad u' H → va_S (k_A ad sz) s.heap H locs → lv_has ls 9 [(4, .int i), (3, .ref (ad 6 0)), (2, .ref (ad 5 0)), (1, .ref (ad 0 0)), (0, .ref b)] → W p l e room_1 s m args below meth c H locs (cells + 1) (slots + 6) Q (F0 m 2118 ls [])) : W p l e room_1 s m args below meth c H locs cells slots Q (F0 m 384 ls []) := by
  have hf : (k_bd (f_L_capsule u (xs (i + 1).toNatClampNeg)) fun r => k_bd (f_X11_capsule (r.1 5) (xs (i + 1).toNatClampNeg)) fun q => kLck r q) = some u' := hf
  refine lv_aload_n X.1 X.2.1 dL_law_384 rfl (lv_at hl 3 rfl) ?_
  refine lv_aload_n X.1 X.2.1 dL_law_385 rfl (lv_at hl 4 rfl) ?_
  refine lv_iload X.1 X.2.1 dL_law_386 (lv_at hl 0 rfl) ?_
  refine lv_iconst (v := 1) X.1 X.2.1 dL_law_388 (by decide) ?_
  refine lv_iadd X.1 X.2.1 dL_law_389 ?_
  refine va_sld X.1 X.2.1 hX hbl hbA hS h1 dL_law_390 ?_
  refine lv_aload_n X.1 X.2.1 dL_law_391 rfl (lv_at hl 1 rfl) ?_
  obtain ⟨r, hr, hf⟩ := k_bdE hf
  refine kL_backi X hS (kL_runSW (As := [.ref (ad 0 0), .int (xs (i + 1).toNatClampNeg), .ref (ad 6 0)]) (rest := []) X hS hU slw_L_132 (c_L_capsule X.2.2.2.2.2.2.1 hlT hr) rfl rfl rfl hl.1 ⟨Nat.le_of_ble_eq_true rfl, Nat.le_of_ble_eq_true rfl⟩ (Nat.le_of_ble_eq_true rfl) dL_law_392 hc) (fun H locs hU hS => ?_)
  refine lv_istore (lv' := [(5, .int r.2), (4, .int i), (3, .ref (ad 6 0)), (2, .ref (ad 5 0)), (1, .ref (ad 0 0)), (0, .ref b)]) X.1 X.2.1 dL_law_395 hl (by decide) rfl (fun ls hl => ?_)
  refine lv_aload_n X.1 X.2.1 dL_law_397 rfl (lv_at hl 3 rfl) ?_
  refine lv_aload_n X.1 X.2.1 dL_law_398 rfl (lv_at hl 5 rfl) ?_
  refine lv_iload X.1 X.2.1 dL_law_399 (lv_at hl 1 rfl) ?_
  refine lv_iconst (v := 1) X.1 X.2.1 dL_law_401 (by decide) ?_
  refine lv_iadd X.1 X.2.1 dL_law_402 ?_
  refine va_sld X.1 X.2.1 hX hbl hbA hS h1 dL_law_403 ?_
  obtain ⟨q, hq, hf⟩ := k_bdE hf
  refine k_backi X hS (k_runV (As := [.int (xs (i + 1).toNatClampNeg)]) (rest := []) X hS hU sh_5_0 (by decide) rfl vl_L_135 (c_X11_capsule X.2.2.2.2.2.2.1 rfl hq) rfl rfl rfl hl.1 ⟨Nat.le_of_ble_eq_true rfl, Nat.le_of_ble_eq_true rfl⟩ (Nat.le_of_ble_eq_true rfl) dL_law_404 hc) (fun H locs hU hS => ?_)
  refine lv_istore (lv' := [(6, .int q.2), (5, .int r.2), (4, .int i), (3, .ref (ad 6 0)), (2, .ref (ad 5 0)), (1, .ref (ad 0 0)), (0, .ref b)]) X.1 X.2.1 dL_law_407 hl (by decide) rfl (fun ls hl => ?_)
  obtain ⟨hk, hf⟩ := k_ckE hf
  have hz9 := Option.some.inj hf
  subst hz9
  refine lv_aload_n X.1 X.2.1 dL_law_409 rfl (lv_at hl 4 rfl) ?_
  refine k_backi X hS (k_runV (As := []) (rest := []) X hS hU sh_5_0 (by decide) rfl vl_L_113 (c_X11_thrown (w := q.1) X.2.2.2.2.2.2.1 (k_uc_s _ _ _) (show f_X11_thrown q.1 = some (q.1 0 0) from rfl)) rfl rfl rfl hl.1 ⟨Nat.le_of_ble_eq_true rfl, Nat.le_of_ble_eq_true rfl⟩ (Nat.le_of_ble_eq_true rfl) dL_law_410 hc) (fun H locs hU hS => ?_)
  refine lv_iload X.1 X.2.1 dL_law_413 (lv_at hl 1 rfl) ?_
  refine lv_icmp_eq (tgt := 420) X.1 X.2.1 dL_law_415 (by decide) (fun _ => ?_) (fun q9 => absurd hk.1 q9)
  refine lv_iload X.1 X.2.1 dL_law_420 (lv_at hl 1 rfl) ?_
  refine lv_if_ne (tgt := 437) X.1 X.2.1 dL_law_422 (by decide) (fun _ => ?_) (fun h0 => ?_)
  · refine lv_goto (tgt := 2118) X.1 X.2.1 dL_law_437 (by decide) ?_
    exact K _ _ _ hU hS (lv_sub hl [2, 3, 4, 5, 6] rfl)
  · refine lv_aload_n X.1 X.2.1 dL_law_425 rfl (lv_at hl 3 rfl) ?_
    refine lv_iconst (v := 0) X.1 X.2.1 dL_law_426 (by decide) ?_
    refine k_jld sh_6_0 X hU dL_law_427 ?_
    refine lv_iload X.1 X.2.1 dL_law_428 (lv_at hl 0 rfl) ?_
    refine lv_i2l (v := q.2.toInt64) X.1 X.2.1 dL_law_430 rfl ?_
    refine W.lcmp X.1 X.2.1 dL_law_431 ?_
    refine lv_if_eq (tgt := 437) X.1 X.2.1 dL_law_432 (by decide) (fun _ => ?_) (fun q9 => absurd (kL_cmp0 (hk.2 h0)) q9)
    refine lv_goto (tgt := 2118) X.1 X.2.1 dL_law_437 (by decide) ?_
    exact K _ _ _ hU hS (lv_sub hl [2, 3, 4, 5, 6] rfl)
set_option maxRecDepth 100000 in
set_option maxHeartbeats 4000000 in
theorem kL_6 {p : Program} {l : Launch} {e : Env} {s : State} {m : MethodId} {args : Array Value} {below : List Frame} {meth : Method} {c : Code} {H : Heap} {locs : List Loc} {cells slots : Nat} {Q : State → Prop} {D : va_G} {G : Nat → ClassId} {ad : Nat → Nat → Nat} {sz : Nat} {u u' : k_U} {b L : Nat} {xs : Nat → Int32} {i : Int32} {ls : Array Slot} (hlT : l.stackTraces = false) (X : k_Cx p s m args c RL cL_law 9 D G ad sz) (hU : k_Uv D G ad u H) (hS : va_S (k_A ad sz) s.heap H locs) (hX : va_X b L xs s s.heap) (hbl : b < s.heap.size) (hbA : ¬ k_A ad sz b) (hl : lv_has ls 9 [(4, .int i), (3, .ref (ad 6 0)), (2, .ref (ad 5 0)), (1, .ref (ad 0 0)), (0, .ref b)]) (h1 : vp_in (i + 1) L) (h2 : vp_in (i + 2) L) (h3 : vp_in (i + 3) L) (h4 : vp_in (i + 4) L) (h5 : vp_in (i + 5) L) (hc : cells + 1 ≤ 601024 ∧ slots + 6 ≤ 7293034) (hf : kLsel 6 u (xs (i + 1).toNatClampNeg) (xs (i + 2).toNatClampNeg) (xs (i + 3).toNatClampNeg) (xs (i + 4).toNatClampNeg) (xs (i + 5).toNatClampNeg) = some u') (K : ∀ (H : Heap) (locs : List Loc) (ls : Array Slot), k_Uv D G ad u' H → va_S (k_A ad sz) s.heap H locs → lv_has ls 9 [(4, .int i), (3, .ref (ad 6 0)), (2, .ref (ad 5 0)), (1, .ref (ad 0 0)), (0, .ref b)] → W p l e room_1 s m args below meth c H locs (cells + 1) (slots + 6) Q (F0 m 2118 ls [])) : W p l e room_1 s m args below meth c H locs cells slots Q (F0 m 440 ls []) := by
  have hf : (k_bd (f_L_size u (xs (i + 1).toNatClampNeg)) fun r => k_bd (f_X11_size (r.1 5) (xs (i + 1).toNatClampNeg)) fun q => kLck r q) = some u' := hf
  refine lv_aload_n X.1 X.2.1 dL_law_440 rfl (lv_at hl 3 rfl) ?_
  refine lv_aload_n X.1 X.2.1 dL_law_441 rfl (lv_at hl 4 rfl) ?_
  refine lv_iload X.1 X.2.1 dL_law_442 (lv_at hl 0 rfl) ?_
  refine lv_iconst (v := 1) X.1 X.2.1 dL_law_444 (by decide) ?_
  refine lv_iadd X.1 X.2.1 dL_law_445 ?_
  refine va_sld X.1 X.2.1 hX hbl hbA hS h1 dL_law_446 ?_
  refine lv_aload_n X.1 X.2.1 dL_law_447 rfl (lv_at hl 1 rfl) ?_
  obtain ⟨r, hr, hf⟩ := k_bdE hf
  refine kL_backi X hS (kL_runSW (As := [.ref (ad 0 0), .int (xs (i + 1).toNatClampNeg), .ref (ad 6 0)]) (rest := []) X hS hU slw_L_136 (c_L_size X.2.2.2.2.2.2.1 hlT hr) rfl rfl rfl hl.1 ⟨Nat.le_of_ble_eq_true rfl, Nat.le_of_ble_eq_true rfl⟩ (Nat.le_of_ble_eq_true rfl) dL_law_448 hc) (fun H locs hU hS => ?_)
  refine lv_istore (lv' := [(5, .int r.2), (4, .int i), (3, .ref (ad 6 0)), (2, .ref (ad 5 0)), (1, .ref (ad 0 0)), (0, .ref b)]) X.1 X.2.1 dL_law_451 hl (by decide) rfl (fun ls hl => ?_)
  refine lv_aload_n X.1 X.2.1 dL_law_453 rfl (lv_at hl 3 rfl) ?_
  refine lv_aload_n X.1 X.2.1 dL_law_454 rfl (lv_at hl 5 rfl) ?_
  refine lv_iload X.1 X.2.1 dL_law_455 (lv_at hl 1 rfl) ?_
  refine lv_iconst (v := 1) X.1 X.2.1 dL_law_457 (by decide) ?_
  refine lv_iadd X.1 X.2.1 dL_law_458 ?_
  refine va_sld X.1 X.2.1 hX hbl hbA hS h1 dL_law_459 ?_
  obtain ⟨q, hq, hf⟩ := k_bdE hf
  refine k_backi X hS (k_runV (As := [.int (xs (i + 1).toNatClampNeg)]) (rest := []) X hS hU sh_5_0 (by decide) rfl vl_L_138 (c_X11_size X.2.2.2.2.2.2.1 rfl hq) rfl rfl rfl hl.1 ⟨Nat.le_of_ble_eq_true rfl, Nat.le_of_ble_eq_true rfl⟩ (Nat.le_of_ble_eq_true rfl) dL_law_460 hc) (fun H locs hU hS => ?_)
  refine lv_istore (lv' := [(6, .int q.2), (5, .int r.2), (4, .int i), (3, .ref (ad 6 0)), (2, .ref (ad 5 0)), (1, .ref (ad 0 0)), (0, .ref b)]) X.1 X.2.1 dL_law_463 hl (by decide) rfl (fun ls hl => ?_)
  obtain ⟨hk, hf⟩ := k_ckE hf
  have hz9 := Option.some.inj hf
  subst hz9
  refine lv_aload_n X.1 X.2.1 dL_law_465 rfl (lv_at hl 4 rfl) ?_
  refine k_backi X hS (k_runV (As := []) (rest := []) X hS hU sh_5_0 (by decide) rfl vl_L_113 (c_X11_thrown (w := q.1) X.2.2.2.2.2.2.1 (k_uc_s _ _ _) (show f_X11_thrown q.1 = some (q.1 0 0) from rfl)) rfl rfl rfl hl.1 ⟨Nat.le_of_ble_eq_true rfl, Nat.le_of_ble_eq_true rfl⟩ (Nat.le_of_ble_eq_true rfl) dL_law_466 hc) (fun H locs hU hS => ?_)
  refine lv_iload X.1 X.2.1 dL_law_469 (lv_at hl 1 rfl) ?_
  refine lv_icmp_eq (tgt := 476) X.1 X.2.1 dL_law_471 (by decide) (fun _ => ?_) (fun q9 => absurd hk.1 q9)
  refine lv_iload X.1 X.2.1 dL_law_476 (lv_at hl 1 rfl) ?_
  refine lv_if_ne (tgt := 493) X.1 X.2.1 dL_law_478 (by decide) (fun _ => ?_) (fun h0 => ?_)
  · refine lv_goto (tgt := 2118) X.1 X.2.1 dL_law_493 (by decide) ?_
    exact K _ _ _ hU hS (lv_sub hl [2, 3, 4, 5, 6] rfl)
  · refine lv_aload_n X.1 X.2.1 dL_law_481 rfl (lv_at hl 3 rfl) ?_
    refine lv_iconst (v := 0) X.1 X.2.1 dL_law_482 (by decide) ?_
    refine k_jld sh_6_0 X hU dL_law_483 ?_
    refine lv_iload X.1 X.2.1 dL_law_484 (lv_at hl 0 rfl) ?_
    refine lv_i2l (v := q.2.toInt64) X.1 X.2.1 dL_law_486 rfl ?_
    refine W.lcmp X.1 X.2.1 dL_law_487 ?_
    refine lv_if_eq (tgt := 493) X.1 X.2.1 dL_law_488 (by decide) (fun _ => ?_) (fun q9 => absurd (kL_cmp0 (hk.2 h0)) q9)
    refine lv_goto (tgt := 2118) X.1 X.2.1 dL_law_493 (by decide) ?_
    exact K _ _ _ hU hS (lv_sub hl [2, 3, 4, 5, 6] rfl)
set_option maxRecDepth 100000 in
set_option maxHeartbeats 4000000 in
theorem kL_7 {p : Program} {l : Launch} {e : Env} {s : State} {m : MethodId} {args : Array Value} {below : List Frame} {meth : Method} {c : Code} {H : Heap} {locs : List Loc} {cells slots : Nat} {Q : State → Prop} {D : va_G} {G : Nat → ClassId} {ad : Nat → Nat → Nat} {sz : Nat} {u u' : k_U} {b L : Nat} {xs : Nat → Int32} {i : Int32} {ls : Array Slot} (hlT : l.stackTraces = false) (X : k_Cx p s m args c RL cL_law 9 D G ad sz) (hU : k_Uv D G ad u H) (hS : va_S (k_A ad sz) s.heap H locs) (hX : va_X b L xs s s.heap) (hbl : b < s.heap.size) (hbA : ¬ k_A ad sz b) (hl : lv_has ls 9 [(4, .int i), (3, .ref (ad 6 0)), (2, .ref (ad 5 0)), (1, .ref (ad 0 0)), (0, .ref b)]) (h1 : vp_in (i + 1) L) (h2 : vp_in (i + 2) L) (h3 : vp_in (i + 3) L) (h4 : vp_in (i + 4) L) (h5 : vp_in (i + 5) L) (hc : cells + 1 ≤ 601024 ∧ slots + 6 ≤ 7293034) (hf : kLsel 7 u (xs (i + 1).toNatClampNeg) (xs (i + 2).toNatClampNeg) (xs (i + 3).toNatClampNeg) (xs (i + 4).toNatClampNeg) (xs (i + 5).toNatClampNeg) = some u') (K : ∀ (H : Heap) (locs : List Loc) (ls : Array Slot), k_Uv D G ad u' H → va_S (k_A ad sz) s.heap H locs → lv_has ls 9 [(4, .int i), (3, .ref (ad 6 0)), (2, .ref (ad 5 0)), (1, .ref (ad 0 0)), (0, .ref b)] → W p l e room_1 s m args below meth c H locs (cells + 1) (slots + 6) Q (F0 m 2118 ls [])) : W p l e room_1 s m args below meth c H locs cells slots Q (F0 m 496 ls []) := by
  have hf : (k_bd (f_L_chute u (xs (i + 1).toNatClampNeg) (xs (i + 2).toNatClampNeg)) fun r => k_bd (f_X11_chute (r.1 5) (xs (i + 1).toNatClampNeg) (xs (i + 2).toNatClampNeg)) fun q => kLck r q) = some u' := hf
  refine lv_aload_n X.1 X.2.1 dL_law_496 rfl (lv_at hl 3 rfl) ?_
  refine lv_aload_n X.1 X.2.1 dL_law_497 rfl (lv_at hl 4 rfl) ?_
  refine lv_iload X.1 X.2.1 dL_law_498 (lv_at hl 0 rfl) ?_
  refine lv_iconst (v := 1) X.1 X.2.1 dL_law_500 (by decide) ?_
  refine lv_iadd X.1 X.2.1 dL_law_501 ?_
  refine va_sld X.1 X.2.1 hX hbl hbA hS h1 dL_law_502 ?_
  refine lv_aload_n X.1 X.2.1 dL_law_503 rfl (lv_at hl 4 rfl) ?_
  refine lv_iload X.1 X.2.1 dL_law_504 (lv_at hl 0 rfl) ?_
  refine lv_iconst (v := 2) X.1 X.2.1 dL_law_506 (by decide) ?_
  refine lv_iadd X.1 X.2.1 dL_law_507 ?_
  refine va_sld X.1 X.2.1 hX hbl hbA hS h2 dL_law_508 ?_
  refine lv_aload_n X.1 X.2.1 dL_law_509 rfl (lv_at hl 1 rfl) ?_
  obtain ⟨r, hr, hf⟩ := k_bdE hf
  refine kL_backi X hS (kL_runSW (As := [.ref (ad 0 0), .int (xs (i + 1).toNatClampNeg), .int (xs (i + 2).toNatClampNeg), .ref (ad 6 0)]) (rest := []) X hS hU slw_L_139 (c_L_chute X.2.2.2.2.2.2.1 hlT hr) rfl rfl rfl hl.1 ⟨Nat.le_of_ble_eq_true rfl, Nat.le_of_ble_eq_true rfl⟩ (Nat.le_of_ble_eq_true rfl) dL_law_510 hc) (fun H locs hU hS => ?_)
  refine lv_istore (lv' := [(5, .int r.2), (4, .int i), (3, .ref (ad 6 0)), (2, .ref (ad 5 0)), (1, .ref (ad 0 0)), (0, .ref b)]) X.1 X.2.1 dL_law_513 hl (by decide) rfl (fun ls hl => ?_)
  refine lv_aload_n X.1 X.2.1 dL_law_515 rfl (lv_at hl 3 rfl) ?_
  refine lv_aload_n X.1 X.2.1 dL_law_516 rfl (lv_at hl 5 rfl) ?_
  refine lv_iload X.1 X.2.1 dL_law_517 (lv_at hl 1 rfl) ?_
  refine lv_iconst (v := 1) X.1 X.2.1 dL_law_519 (by decide) ?_
  refine lv_iadd X.1 X.2.1 dL_law_520 ?_
  refine va_sld X.1 X.2.1 hX hbl hbA hS h1 dL_law_521 ?_
  refine lv_aload_n X.1 X.2.1 dL_law_522 rfl (lv_at hl 5 rfl) ?_
  refine lv_iload X.1 X.2.1 dL_law_523 (lv_at hl 1 rfl) ?_
  refine lv_iconst (v := 2) X.1 X.2.1 dL_law_525 (by decide) ?_
  refine lv_iadd X.1 X.2.1 dL_law_526 ?_
  refine va_sld X.1 X.2.1 hX hbl hbA hS h2 dL_law_527 ?_
  obtain ⟨q, hq, hf⟩ := k_bdE hf
  refine k_backi X hS (k_runV (As := [.int (xs (i + 1).toNatClampNeg), .int (xs (i + 2).toNatClampNeg)]) (rest := []) X hS hU sh_5_0 (by decide) rfl vl_L_142 (c_X11_chute X.2.2.2.2.2.2.1 rfl hq) rfl rfl rfl hl.1 ⟨Nat.le_of_ble_eq_true rfl, Nat.le_of_ble_eq_true rfl⟩ (Nat.le_of_ble_eq_true rfl) dL_law_528 hc) (fun H locs hU hS => ?_)
  refine lv_istore (lv' := [(6, .int q.2), (5, .int r.2), (4, .int i), (3, .ref (ad 6 0)), (2, .ref (ad 5 0)), (1, .ref (ad 0 0)), (0, .ref b)]) X.1 X.2.1 dL_law_531 hl (by decide) rfl (fun ls hl => ?_)
  obtain ⟨hk, hf⟩ := k_ckE hf
  have hz9 := Option.some.inj hf
  subst hz9
  refine lv_aload_n X.1 X.2.1 dL_law_533 rfl (lv_at hl 4 rfl) ?_
  refine k_backi X hS (k_runV (As := []) (rest := []) X hS hU sh_5_0 (by decide) rfl vl_L_113 (c_X11_thrown (w := q.1) X.2.2.2.2.2.2.1 (k_uc_s _ _ _) (show f_X11_thrown q.1 = some (q.1 0 0) from rfl)) rfl rfl rfl hl.1 ⟨Nat.le_of_ble_eq_true rfl, Nat.le_of_ble_eq_true rfl⟩ (Nat.le_of_ble_eq_true rfl) dL_law_534 hc) (fun H locs hU hS => ?_)
  refine lv_iload X.1 X.2.1 dL_law_537 (lv_at hl 1 rfl) ?_
  refine lv_icmp_eq (tgt := 544) X.1 X.2.1 dL_law_539 (by decide) (fun _ => ?_) (fun q9 => absurd hk.1 q9)
  refine lv_iload X.1 X.2.1 dL_law_544 (lv_at hl 1 rfl) ?_
  refine lv_if_ne (tgt := 561) X.1 X.2.1 dL_law_546 (by decide) (fun _ => ?_) (fun h0 => ?_)
  · refine lv_goto (tgt := 2118) X.1 X.2.1 dL_law_561 (by decide) ?_
    exact K _ _ _ hU hS (lv_sub hl [2, 3, 4, 5, 6] rfl)
  · refine lv_aload_n X.1 X.2.1 dL_law_549 rfl (lv_at hl 3 rfl) ?_
    refine lv_iconst (v := 0) X.1 X.2.1 dL_law_550 (by decide) ?_
    refine k_jld sh_6_0 X hU dL_law_551 ?_
    refine lv_iload X.1 X.2.1 dL_law_552 (lv_at hl 0 rfl) ?_
    refine lv_i2l (v := q.2.toInt64) X.1 X.2.1 dL_law_554 rfl ?_
    refine W.lcmp X.1 X.2.1 dL_law_555 ?_
    refine lv_if_eq (tgt := 561) X.1 X.2.1 dL_law_556 (by decide) (fun _ => ?_) (fun q9 => absurd (kL_cmp0 (hk.2 h0)) q9)
    refine lv_goto (tgt := 2118) X.1 X.2.1 dL_law_561 (by decide) ?_
    exact K _ _ _ hU hS (lv_sub hl [2, 3, 4, 5, 6] rfl)
set_option maxRecDepth 100000 in
set_option maxHeartbeats 4000000 in
theorem kL_8 {p : Program} {l : Launch} {e : Env} {s : State} {m : MethodId} {args : Array Value} {below : List Frame} {meth : Method} {c : Code} {H : Heap} {locs : List Loc} {cells slots : Nat} {Q : State → Prop} {D : va_G} {G : Nat → ClassId} {ad : Nat → Nat → Nat} {sz : Nat} {u u' : k_U} {b L : Nat} {xs : Nat → Int32} {i : Int32} {ls : Array Slot} (hlT : l.stackTraces = false) (X : k_Cx p s m args c RL cL_law 9 D G ad sz) (hU : k_Uv D G ad u H) (hS : va_S (k_A ad sz) s.heap H locs) (hX : va_X b L xs s s.heap) (hbl : b < s.heap.size) (hbA : ¬ k_A ad sz b) (hl : lv_has ls 9 [(4, .int i), (3, .ref (ad 6 0)), (2, .ref (ad 5 0)), (1, .ref (ad 0 0)), (0, .ref b)]) (h1 : vp_in (i + 1) L) (h2 : vp_in (i + 2) L) (h3 : vp_in (i + 3) L) (h4 : vp_in (i + 4) L) (h5 : vp_in (i + 5) L) (hc : cells + 1 ≤ 601024 ∧ slots + 6 ≤ 7293034) (hf : kLsel 8 u (xs (i + 1).toNatClampNeg) (xs (i + 2).toNatClampNeg) (xs (i + 3).toNatClampNeg) (xs (i + 4).toNatClampNeg) (xs (i + 5).toNatClampNeg) = some u') (K : ∀ (H : Heap) (locs : List Loc) (ls : Array Slot), k_Uv D G ad u' H → va_S (k_A ad sz) s.heap H locs → lv_has ls 9 [(4, .int i), (3, .ref (ad 6 0)), (2, .ref (ad 5 0)), (1, .ref (ad 0 0)), (0, .ref b)] → W p l e room_1 s m args below meth c H locs (cells + 1) (slots + 6) Q (F0 m 2118 ls [])) : W p l e room_1 s m args below meth c H locs cells slots Q (F0 m 564 ls []) := by
  have hf : (k_bd (f_L_line u (xs (i + 1).toNatClampNeg) (xs (i + 2).toNatClampNeg)) fun r => k_bd (f_X11_line (r.1 5) (xs (i + 1).toNatClampNeg) (xs (i + 2).toNatClampNeg)) fun q => kLck r q) = some u' := hf
  refine lv_aload_n X.1 X.2.1 dL_law_564 rfl (lv_at hl 3 rfl) ?_
  refine lv_aload_n X.1 X.2.1 dL_law_565 rfl (lv_at hl 4 rfl) ?_
  refine lv_iload X.1 X.2.1 dL_law_566 (lv_at hl 0 rfl) ?_
  refine lv_iconst (v := 1) X.1 X.2.1 dL_law_568 (by decide) ?_
  refine lv_iadd X.1 X.2.1 dL_law_569 ?_
  refine va_sld X.1 X.2.1 hX hbl hbA hS h1 dL_law_570 ?_
  refine lv_aload_n X.1 X.2.1 dL_law_571 rfl (lv_at hl 4 rfl) ?_
  refine lv_iload X.1 X.2.1 dL_law_572 (lv_at hl 0 rfl) ?_
  refine lv_iconst (v := 2) X.1 X.2.1 dL_law_574 (by decide) ?_
  refine lv_iadd X.1 X.2.1 dL_law_575 ?_
  refine va_sld X.1 X.2.1 hX hbl hbA hS h2 dL_law_576 ?_
  refine lv_aload_n X.1 X.2.1 dL_law_577 rfl (lv_at hl 1 rfl) ?_
  obtain ⟨r, hr, hf⟩ := k_bdE hf
  refine kL_backi X hS (kL_runSW (As := [.ref (ad 0 0), .int (xs (i + 1).toNatClampNeg), .int (xs (i + 2).toNatClampNeg), .ref (ad 6 0)]) (rest := []) X hS hU slw_L_143 (c_L_line X.2.2.2.2.2.2.1 hlT hr) rfl rfl rfl hl.1 ⟨Nat.le_of_ble_eq_true rfl, Nat.le_of_ble_eq_true rfl⟩ (Nat.le_of_ble_eq_true rfl) dL_law_578 hc) (fun H locs hU hS => ?_)
  refine lv_istore (lv' := [(5, .int r.2), (4, .int i), (3, .ref (ad 6 0)), (2, .ref (ad 5 0)), (1, .ref (ad 0 0)), (0, .ref b)]) X.1 X.2.1 dL_law_581 hl (by decide) rfl (fun ls hl => ?_)
  refine lv_aload_n X.1 X.2.1 dL_law_583 rfl (lv_at hl 3 rfl) ?_
  refine lv_aload_n X.1 X.2.1 dL_law_584 rfl (lv_at hl 5 rfl) ?_
  refine lv_iload X.1 X.2.1 dL_law_585 (lv_at hl 1 rfl) ?_
  refine lv_iconst (v := 1) X.1 X.2.1 dL_law_587 (by decide) ?_
  refine lv_iadd X.1 X.2.1 dL_law_588 ?_
  refine va_sld X.1 X.2.1 hX hbl hbA hS h1 dL_law_589 ?_
  refine lv_aload_n X.1 X.2.1 dL_law_590 rfl (lv_at hl 5 rfl) ?_
  refine lv_iload X.1 X.2.1 dL_law_591 (lv_at hl 1 rfl) ?_
  refine lv_iconst (v := 2) X.1 X.2.1 dL_law_593 (by decide) ?_
  refine lv_iadd X.1 X.2.1 dL_law_594 ?_
  refine va_sld X.1 X.2.1 hX hbl hbA hS h2 dL_law_595 ?_
  obtain ⟨q, hq, hf⟩ := k_bdE hf
  refine k_backi X hS (k_runV (As := [.int (xs (i + 1).toNatClampNeg), .int (xs (i + 2).toNatClampNeg)]) (rest := []) X hS hU sh_5_0 (by decide) rfl vl_L_145 (c_X11_line X.2.2.2.2.2.2.1 rfl hq) rfl rfl rfl hl.1 ⟨Nat.le_of_ble_eq_true rfl, Nat.le_of_ble_eq_true rfl⟩ (Nat.le_of_ble_eq_true rfl) dL_law_596 hc) (fun H locs hU hS => ?_)
  refine lv_istore (lv' := [(6, .int q.2), (5, .int r.2), (4, .int i), (3, .ref (ad 6 0)), (2, .ref (ad 5 0)), (1, .ref (ad 0 0)), (0, .ref b)]) X.1 X.2.1 dL_law_599 hl (by decide) rfl (fun ls hl => ?_)
  obtain ⟨hk, hf⟩ := k_ckE hf
  have hz9 := Option.some.inj hf
  subst hz9
  refine lv_aload_n X.1 X.2.1 dL_law_601 rfl (lv_at hl 4 rfl) ?_
  refine k_backi X hS (k_runV (As := []) (rest := []) X hS hU sh_5_0 (by decide) rfl vl_L_113 (c_X11_thrown (w := q.1) X.2.2.2.2.2.2.1 (k_uc_s _ _ _) (show f_X11_thrown q.1 = some (q.1 0 0) from rfl)) rfl rfl rfl hl.1 ⟨Nat.le_of_ble_eq_true rfl, Nat.le_of_ble_eq_true rfl⟩ (Nat.le_of_ble_eq_true rfl) dL_law_602 hc) (fun H locs hU hS => ?_)
  refine lv_iload X.1 X.2.1 dL_law_605 (lv_at hl 1 rfl) ?_
  refine lv_icmp_eq (tgt := 612) X.1 X.2.1 dL_law_607 (by decide) (fun _ => ?_) (fun q9 => absurd hk.1 q9)
  refine lv_iload X.1 X.2.1 dL_law_612 (lv_at hl 1 rfl) ?_
  refine lv_if_ne (tgt := 629) X.1 X.2.1 dL_law_614 (by decide) (fun _ => ?_) (fun h0 => ?_)
  · refine lv_goto (tgt := 2118) X.1 X.2.1 dL_law_629 (by decide) ?_
    exact K _ _ _ hU hS (lv_sub hl [2, 3, 4, 5, 6] rfl)
  · refine lv_aload_n X.1 X.2.1 dL_law_617 rfl (lv_at hl 3 rfl) ?_
    refine lv_iconst (v := 0) X.1 X.2.1 dL_law_618 (by decide) ?_
    refine k_jld sh_6_0 X hU dL_law_619 ?_
    refine lv_iload X.1 X.2.1 dL_law_620 (lv_at hl 0 rfl) ?_
    refine lv_i2l (v := q.2.toInt64) X.1 X.2.1 dL_law_622 rfl ?_
    refine W.lcmp X.1 X.2.1 dL_law_623 ?_
    refine lv_if_eq (tgt := 629) X.1 X.2.1 dL_law_624 (by decide) (fun _ => ?_) (fun q9 => absurd (kL_cmp0 (hk.2 h0)) q9)
    refine lv_goto (tgt := 2118) X.1 X.2.1 dL_law_629 (by decide) ?_
    exact K _ _ _ hU hS (lv_sub hl [2, 3, 4, 5, 6] rfl)
set_option maxRecDepth 100000 in
set_option maxHeartbeats 4000000 in
theorem kL_9 {p : Program} {l : Launch} {e : Env} {s : State} {m : MethodId} {args : Array Value} {below : List Frame} {meth : Method} {c : Code} {H : Heap} {locs : List Loc} {cells slots : Nat} {Q : State → Prop} {D : va_G} {G : Nat → ClassId} {ad : Nat → Nat → Nat} {sz : Nat} {u u' : k_U} {b L : Nat} {xs : Nat → Int32} {i : Int32} {ls : Array Slot} (hlT : l.stackTraces = false) (X : k_Cx p s m args c RL cL_law 9 D G ad sz) (hU : k_Uv D G ad u H) (hS : va_S (k_A ad sz) s.heap H locs) (hX : va_X b L xs s s.heap) (hbl : b < s.heap.size) (hbA : ¬ k_A ad sz b) (hl : lv_has ls 9 [(4, .int i), (3, .ref (ad 6 0)), (2, .ref (ad 5 0)), (1, .ref (ad 0 0)), (0, .ref b)]) (h1 : vp_in (i + 1) L) (h2 : vp_in (i + 2) L) (h3 : vp_in (i + 3) L) (h4 : vp_in (i + 4) L) (h5 : vp_in (i + 5) L) (hc : cells + 1 ≤ 601024 ∧ slots + 6 ≤ 7293034) (hf : kLsel 9 u (xs (i + 1).toNatClampNeg) (xs (i + 2).toNatClampNeg) (xs (i + 3).toNatClampNeg) (xs (i + 4).toNatClampNeg) (xs (i + 5).toNatClampNeg) = some u') (K : ∀ (H : Heap) (locs : List Loc) (ls : Array Slot), k_Uv D G ad u' H → va_S (k_A ad sz) s.heap H locs → lv_has ls 9 [(4, .int i), (3, .ref (ad 6 0)), (2, .ref (ad 5 0)), (1, .ref (ad 0 0)), (0, .ref b)] → W p l e room_1 s m args below meth c H locs (cells + 1) (slots + 6) Q (F0 m 2118 ls [])) : W p l e room_1 s m args below meth c H locs cells slots Q (F0 m 632 ls []) := by
  have hf : (k_bd (f_L_targetAt u (xs (i + 1).toNatClampNeg)) fun r => k_bd (f_X11_targetAt (r.1 5) (xs (i + 1).toNatClampNeg)) fun q => kLck r q) = some u' := hf
  refine lv_aload_n X.1 X.2.1 dL_law_632 rfl (lv_at hl 3 rfl) ?_
  refine lv_aload_n X.1 X.2.1 dL_law_633 rfl (lv_at hl 4 rfl) ?_
  refine lv_iload X.1 X.2.1 dL_law_634 (lv_at hl 0 rfl) ?_
  refine lv_iconst (v := 1) X.1 X.2.1 dL_law_636 (by decide) ?_
  refine lv_iadd X.1 X.2.1 dL_law_637 ?_
  refine va_sld X.1 X.2.1 hX hbl hbA hS h1 dL_law_638 ?_
  refine lv_aload_n X.1 X.2.1 dL_law_639 rfl (lv_at hl 1 rfl) ?_
  obtain ⟨r, hr, hf⟩ := k_bdE hf
  refine kL_backi X hS (kL_runSW (As := [.ref (ad 0 0), .int (xs (i + 1).toNatClampNeg), .ref (ad 6 0)]) (rest := []) X hS hU slw_L_146 (c_L_targetAt X.2.2.2.2.2.2.1 hlT hr) rfl rfl rfl hl.1 ⟨Nat.le_of_ble_eq_true rfl, Nat.le_of_ble_eq_true rfl⟩ (Nat.le_of_ble_eq_true rfl) dL_law_640 hc) (fun H locs hU hS => ?_)
  refine lv_istore (lv' := [(5, .int r.2), (4, .int i), (3, .ref (ad 6 0)), (2, .ref (ad 5 0)), (1, .ref (ad 0 0)), (0, .ref b)]) X.1 X.2.1 dL_law_643 hl (by decide) rfl (fun ls hl => ?_)
  refine lv_aload_n X.1 X.2.1 dL_law_645 rfl (lv_at hl 3 rfl) ?_
  refine lv_aload_n X.1 X.2.1 dL_law_646 rfl (lv_at hl 5 rfl) ?_
  refine lv_iload X.1 X.2.1 dL_law_647 (lv_at hl 1 rfl) ?_
  refine lv_iconst (v := 1) X.1 X.2.1 dL_law_649 (by decide) ?_
  refine lv_iadd X.1 X.2.1 dL_law_650 ?_
  refine va_sld X.1 X.2.1 hX hbl hbA hS h1 dL_law_651 ?_
  obtain ⟨q, hq, hf⟩ := k_bdE hf
  refine k_backi X hS (k_runV (As := [.int (xs (i + 1).toNatClampNeg)]) (rest := []) X hS hU sh_5_0 (by decide) rfl vl_L_148 (c_X11_targetAt X.2.2.2.2.2.2.1 rfl hq) rfl rfl rfl hl.1 ⟨Nat.le_of_ble_eq_true rfl, Nat.le_of_ble_eq_true rfl⟩ (Nat.le_of_ble_eq_true rfl) dL_law_652 hc) (fun H locs hU hS => ?_)
  refine lv_istore (lv' := [(6, .int q.2), (5, .int r.2), (4, .int i), (3, .ref (ad 6 0)), (2, .ref (ad 5 0)), (1, .ref (ad 0 0)), (0, .ref b)]) X.1 X.2.1 dL_law_655 hl (by decide) rfl (fun ls hl => ?_)
  obtain ⟨hk, hf⟩ := k_ckE hf
  have hz9 := Option.some.inj hf
  subst hz9
  refine lv_aload_n X.1 X.2.1 dL_law_657 rfl (lv_at hl 4 rfl) ?_
  refine k_backi X hS (k_runV (As := []) (rest := []) X hS hU sh_5_0 (by decide) rfl vl_L_113 (c_X11_thrown (w := q.1) X.2.2.2.2.2.2.1 (k_uc_s _ _ _) (show f_X11_thrown q.1 = some (q.1 0 0) from rfl)) rfl rfl rfl hl.1 ⟨Nat.le_of_ble_eq_true rfl, Nat.le_of_ble_eq_true rfl⟩ (Nat.le_of_ble_eq_true rfl) dL_law_658 hc) (fun H locs hU hS => ?_)
  refine lv_iload X.1 X.2.1 dL_law_661 (lv_at hl 1 rfl) ?_
  refine lv_icmp_eq (tgt := 668) X.1 X.2.1 dL_law_663 (by decide) (fun _ => ?_) (fun q9 => absurd hk.1 q9)
  refine lv_iload X.1 X.2.1 dL_law_668 (lv_at hl 1 rfl) ?_
  refine lv_if_ne (tgt := 685) X.1 X.2.1 dL_law_670 (by decide) (fun _ => ?_) (fun h0 => ?_)
  · refine lv_goto (tgt := 2118) X.1 X.2.1 dL_law_685 (by decide) ?_
    exact K _ _ _ hU hS (lv_sub hl [2, 3, 4, 5, 6] rfl)
  · refine lv_aload_n X.1 X.2.1 dL_law_673 rfl (lv_at hl 3 rfl) ?_
    refine lv_iconst (v := 0) X.1 X.2.1 dL_law_674 (by decide) ?_
    refine k_jld sh_6_0 X hU dL_law_675 ?_
    refine lv_iload X.1 X.2.1 dL_law_676 (lv_at hl 0 rfl) ?_
    refine lv_i2l (v := q.2.toInt64) X.1 X.2.1 dL_law_678 rfl ?_
    refine W.lcmp X.1 X.2.1 dL_law_679 ?_
    refine lv_if_eq (tgt := 685) X.1 X.2.1 dL_law_680 (by decide) (fun _ => ?_) (fun q9 => absurd (kL_cmp0 (hk.2 h0)) q9)
    refine lv_goto (tgt := 2118) X.1 X.2.1 dL_law_685 (by decide) ?_
    exact K _ _ _ hU hS (lv_sub hl [2, 3, 4, 5, 6] rfl)
set_option maxRecDepth 100000 in
set_option maxHeartbeats 4000000 in
theorem kL_10 {p : Program} {l : Launch} {e : Env} {s : State} {m : MethodId} {args : Array Value} {below : List Frame} {meth : Method} {c : Code} {H : Heap} {locs : List Loc} {cells slots : Nat} {Q : State → Prop} {D : va_G} {G : Nat → ClassId} {ad : Nat → Nat → Nat} {sz : Nat} {u u' : k_U} {b L : Nat} {xs : Nat → Int32} {i : Int32} {ls : Array Slot} (hlT : l.stackTraces = false) (X : k_Cx p s m args c RL cL_law 9 D G ad sz) (hU : k_Uv D G ad u H) (hS : va_S (k_A ad sz) s.heap H locs) (hX : va_X b L xs s s.heap) (hbl : b < s.heap.size) (hbA : ¬ k_A ad sz b) (hl : lv_has ls 9 [(4, .int i), (3, .ref (ad 6 0)), (2, .ref (ad 5 0)), (1, .ref (ad 0 0)), (0, .ref b)]) (h1 : vp_in (i + 1) L) (h2 : vp_in (i + 2) L) (h3 : vp_in (i + 3) L) (h4 : vp_in (i + 4) L) (h5 : vp_in (i + 5) L) (hc : cells + 1 ≤ 601024 ∧ slots + 6 ≤ 7293034) (hf : kLsel 10 u (xs (i + 1).toNatClampNeg) (xs (i + 2).toNatClampNeg) (xs (i + 3).toNatClampNeg) (xs (i + 4).toNatClampNeg) (xs (i + 5).toNatClampNeg) = some u') (K : ∀ (H : Heap) (locs : List Loc) (ls : Array Slot), k_Uv D G ad u' H → va_S (k_A ad sz) s.heap H locs → lv_has ls 9 [(4, .int i), (3, .ref (ad 6 0)), (2, .ref (ad 5 0)), (1, .ref (ad 0 0)), (0, .ref b)] → W p l e room_1 s m args below meth c H locs (cells + 1) (slots + 6) Q (F0 m 2118 ls [])) : W p l e room_1 s m args below meth c H locs cells slots Q (F0 m 688 ls []) := by
  have hf : (k_bd (f_L_windAt u (xs (i + 1).toNatClampNeg)) fun r => k_bd (f_X11_windAt (r.1 5) (xs (i + 1).toNatClampNeg)) fun q => kLck r q) = some u' := hf
  refine lv_aload_n X.1 X.2.1 dL_law_688 rfl (lv_at hl 3 rfl) ?_
  refine lv_aload_n X.1 X.2.1 dL_law_689 rfl (lv_at hl 4 rfl) ?_
  refine lv_iload X.1 X.2.1 dL_law_690 (lv_at hl 0 rfl) ?_
  refine lv_iconst (v := 1) X.1 X.2.1 dL_law_692 (by decide) ?_
  refine lv_iadd X.1 X.2.1 dL_law_693 ?_
  refine va_sld X.1 X.2.1 hX hbl hbA hS h1 dL_law_694 ?_
  refine lv_aload_n X.1 X.2.1 dL_law_695 rfl (lv_at hl 1 rfl) ?_
  obtain ⟨r, hr, hf⟩ := k_bdE hf
  refine kL_backi X hS (kL_runSW (As := [.ref (ad 0 0), .int (xs (i + 1).toNatClampNeg), .ref (ad 6 0)]) (rest := []) X hS hU slw_L_149 (c_L_windAt X.2.2.2.2.2.2.1 hlT hr) rfl rfl rfl hl.1 ⟨Nat.le_of_ble_eq_true rfl, Nat.le_of_ble_eq_true rfl⟩ (Nat.le_of_ble_eq_true rfl) dL_law_696 hc) (fun H locs hU hS => ?_)
  refine lv_istore (lv' := [(5, .int r.2), (4, .int i), (3, .ref (ad 6 0)), (2, .ref (ad 5 0)), (1, .ref (ad 0 0)), (0, .ref b)]) X.1 X.2.1 dL_law_699 hl (by decide) rfl (fun ls hl => ?_)
  refine lv_aload_n X.1 X.2.1 dL_law_701 rfl (lv_at hl 3 rfl) ?_
  refine lv_aload_n X.1 X.2.1 dL_law_702 rfl (lv_at hl 5 rfl) ?_
  refine lv_iload X.1 X.2.1 dL_law_703 (lv_at hl 1 rfl) ?_
  refine lv_iconst (v := 1) X.1 X.2.1 dL_law_705 (by decide) ?_
  refine lv_iadd X.1 X.2.1 dL_law_706 ?_
  refine va_sld X.1 X.2.1 hX hbl hbA hS h1 dL_law_707 ?_
  obtain ⟨q, hq, hf⟩ := k_bdE hf
  refine k_backi X hS (k_runV (As := [.int (xs (i + 1).toNatClampNeg)]) (rest := []) X hS hU sh_5_0 (by decide) rfl vl_L_151 (c_X11_windAt X.2.2.2.2.2.2.1 rfl hq) rfl rfl rfl hl.1 ⟨Nat.le_of_ble_eq_true rfl, Nat.le_of_ble_eq_true rfl⟩ (Nat.le_of_ble_eq_true rfl) dL_law_708 hc) (fun H locs hU hS => ?_)
  refine lv_istore (lv' := [(6, .int q.2), (5, .int r.2), (4, .int i), (3, .ref (ad 6 0)), (2, .ref (ad 5 0)), (1, .ref (ad 0 0)), (0, .ref b)]) X.1 X.2.1 dL_law_711 hl (by decide) rfl (fun ls hl => ?_)
  obtain ⟨hk, hf⟩ := k_ckE hf
  have hz9 := Option.some.inj hf
  subst hz9
  refine lv_aload_n X.1 X.2.1 dL_law_713 rfl (lv_at hl 4 rfl) ?_
  refine k_backi X hS (k_runV (As := []) (rest := []) X hS hU sh_5_0 (by decide) rfl vl_L_113 (c_X11_thrown (w := q.1) X.2.2.2.2.2.2.1 (k_uc_s _ _ _) (show f_X11_thrown q.1 = some (q.1 0 0) from rfl)) rfl rfl rfl hl.1 ⟨Nat.le_of_ble_eq_true rfl, Nat.le_of_ble_eq_true rfl⟩ (Nat.le_of_ble_eq_true rfl) dL_law_714 hc) (fun H locs hU hS => ?_)
  refine lv_iload X.1 X.2.1 dL_law_717 (lv_at hl 1 rfl) ?_
  refine lv_icmp_eq (tgt := 724) X.1 X.2.1 dL_law_719 (by decide) (fun _ => ?_) (fun q9 => absurd hk.1 q9)
  refine lv_iload X.1 X.2.1 dL_law_724 (lv_at hl 1 rfl) ?_
  refine lv_if_ne (tgt := 741) X.1 X.2.1 dL_law_726 (by decide) (fun _ => ?_) (fun h0 => ?_)
  · refine lv_goto (tgt := 2118) X.1 X.2.1 dL_law_741 (by decide) ?_
    exact K _ _ _ hU hS (lv_sub hl [2, 3, 4, 5, 6] rfl)
  · refine lv_aload_n X.1 X.2.1 dL_law_729 rfl (lv_at hl 3 rfl) ?_
    refine lv_iconst (v := 0) X.1 X.2.1 dL_law_730 (by decide) ?_
    refine k_jld sh_6_0 X hU dL_law_731 ?_
    refine lv_iload X.1 X.2.1 dL_law_732 (lv_at hl 0 rfl) ?_
    refine lv_i2l (v := q.2.toInt64) X.1 X.2.1 dL_law_734 rfl ?_
    refine W.lcmp X.1 X.2.1 dL_law_735 ?_
    refine lv_if_eq (tgt := 741) X.1 X.2.1 dL_law_736 (by decide) (fun _ => ?_) (fun q9 => absurd (kL_cmp0 (hk.2 h0)) q9)
    refine lv_goto (tgt := 2118) X.1 X.2.1 dL_law_741 (by decide) ?_
    exact K _ _ _ hU hS (lv_sub hl [2, 3, 4, 5, 6] rfl)
set_option maxRecDepth 100000 in
set_option maxHeartbeats 4000000 in
theorem kL_11 {p : Program} {l : Launch} {e : Env} {s : State} {m : MethodId} {args : Array Value} {below : List Frame} {meth : Method} {c : Code} {H : Heap} {locs : List Loc} {cells slots : Nat} {Q : State → Prop} {D : va_G} {G : Nat → ClassId} {ad : Nat → Nat → Nat} {sz : Nat} {u u' : k_U} {b L : Nat} {xs : Nat → Int32} {i : Int32} {ls : Array Slot} (hlT : l.stackTraces = false) (X : k_Cx p s m args c RL cL_law 9 D G ad sz) (hU : k_Uv D G ad u H) (hS : va_S (k_A ad sz) s.heap H locs) (hX : va_X b L xs s s.heap) (hbl : b < s.heap.size) (hbA : ¬ k_A ad sz b) (hl : lv_has ls 9 [(4, .int i), (3, .ref (ad 6 0)), (2, .ref (ad 5 0)), (1, .ref (ad 0 0)), (0, .ref b)]) (h1 : vp_in (i + 1) L) (h2 : vp_in (i + 2) L) (h3 : vp_in (i + 3) L) (h4 : vp_in (i + 4) L) (h5 : vp_in (i + 5) L) (hc : cells + 1 ≤ 601024 ∧ slots + 6 ≤ 7293034) (hf : kLsel 11 u (xs (i + 1).toNatClampNeg) (xs (i + 2).toNatClampNeg) (xs (i + 3).toNatClampNeg) (xs (i + 4).toNatClampNeg) (xs (i + 5).toNatClampNeg) = some u') (K : ∀ (H : Heap) (locs : List Loc) (ls : Array Slot), k_Uv D G ad u' H → va_S (k_A ad sz) s.heap H locs → lv_has ls 9 [(4, .int i), (3, .ref (ad 6 0)), (2, .ref (ad 5 0)), (1, .ref (ad 0 0)), (0, .ref b)] → W p l e room_1 s m args below meth c H locs (cells + 1) (slots + 6) Q (F0 m 2118 ls [])) : W p l e room_1 s m args below meth c H locs cells slots Q (F0 m 744 ls []) := by
  have hf : (k_bd (f_L_spot u (xs (i + 1).toNatClampNeg) (xs (i + 2).toNatClampNeg)) fun r => k_bd (f_X11_spot (r.1 5) (xs (i + 1).toNatClampNeg) (xs (i + 2).toNatClampNeg)) fun q => kLck r q) = some u' := hf
  refine lv_aload_n X.1 X.2.1 dL_law_744 rfl (lv_at hl 3 rfl) ?_
  refine lv_aload_n X.1 X.2.1 dL_law_745 rfl (lv_at hl 4 rfl) ?_
  refine lv_iload X.1 X.2.1 dL_law_746 (lv_at hl 0 rfl) ?_
  refine lv_iconst (v := 1) X.1 X.2.1 dL_law_748 (by decide) ?_
  refine lv_iadd X.1 X.2.1 dL_law_749 ?_
  refine va_sld X.1 X.2.1 hX hbl hbA hS h1 dL_law_750 ?_
  refine lv_aload_n X.1 X.2.1 dL_law_751 rfl (lv_at hl 4 rfl) ?_
  refine lv_iload X.1 X.2.1 dL_law_752 (lv_at hl 0 rfl) ?_
  refine lv_iconst (v := 2) X.1 X.2.1 dL_law_754 (by decide) ?_
  refine lv_iadd X.1 X.2.1 dL_law_755 ?_
  refine va_sld X.1 X.2.1 hX hbl hbA hS h2 dL_law_756 ?_
  refine lv_aload_n X.1 X.2.1 dL_law_757 rfl (lv_at hl 1 rfl) ?_
  obtain ⟨r, hr, hf⟩ := k_bdE hf
  refine kL_backi X hS (kL_runSW (As := [.ref (ad 0 0), .int (xs (i + 1).toNatClampNeg), .int (xs (i + 2).toNatClampNeg), .ref (ad 6 0)]) (rest := []) X hS hU slw_L_152 (c_L_spot X.2.2.2.2.2.2.1 hlT hr) rfl rfl rfl hl.1 ⟨Nat.le_of_ble_eq_true rfl, Nat.le_of_ble_eq_true rfl⟩ (Nat.le_of_ble_eq_true rfl) dL_law_758 hc) (fun H locs hU hS => ?_)
  refine lv_istore (lv' := [(5, .int r.2), (4, .int i), (3, .ref (ad 6 0)), (2, .ref (ad 5 0)), (1, .ref (ad 0 0)), (0, .ref b)]) X.1 X.2.1 dL_law_761 hl (by decide) rfl (fun ls hl => ?_)
  refine lv_aload_n X.1 X.2.1 dL_law_763 rfl (lv_at hl 3 rfl) ?_
  refine lv_aload_n X.1 X.2.1 dL_law_764 rfl (lv_at hl 5 rfl) ?_
  refine lv_iload X.1 X.2.1 dL_law_765 (lv_at hl 1 rfl) ?_
  refine lv_iconst (v := 1) X.1 X.2.1 dL_law_767 (by decide) ?_
  refine lv_iadd X.1 X.2.1 dL_law_768 ?_
  refine va_sld X.1 X.2.1 hX hbl hbA hS h1 dL_law_769 ?_
  refine lv_aload_n X.1 X.2.1 dL_law_770 rfl (lv_at hl 5 rfl) ?_
  refine lv_iload X.1 X.2.1 dL_law_771 (lv_at hl 1 rfl) ?_
  refine lv_iconst (v := 2) X.1 X.2.1 dL_law_773 (by decide) ?_
  refine lv_iadd X.1 X.2.1 dL_law_774 ?_
  refine va_sld X.1 X.2.1 hX hbl hbA hS h2 dL_law_775 ?_
  obtain ⟨q, hq, hf⟩ := k_bdE hf
  refine k_backi X hS (k_runV (As := [.int (xs (i + 1).toNatClampNeg), .int (xs (i + 2).toNatClampNeg)]) (rest := []) X hS hU sh_5_0 (by decide) rfl vl_L_154 (c_X11_spot X.2.2.2.2.2.2.1 rfl hq) rfl rfl rfl hl.1 ⟨Nat.le_of_ble_eq_true rfl, Nat.le_of_ble_eq_true rfl⟩ (Nat.le_of_ble_eq_true rfl) dL_law_776 hc) (fun H locs hU hS => ?_)
  refine lv_istore (lv' := [(6, .int q.2), (5, .int r.2), (4, .int i), (3, .ref (ad 6 0)), (2, .ref (ad 5 0)), (1, .ref (ad 0 0)), (0, .ref b)]) X.1 X.2.1 dL_law_779 hl (by decide) rfl (fun ls hl => ?_)
  obtain ⟨hk, hf⟩ := k_ckE hf
  have hz9 := Option.some.inj hf
  subst hz9
  refine lv_aload_n X.1 X.2.1 dL_law_781 rfl (lv_at hl 4 rfl) ?_
  refine k_backi X hS (k_runV (As := []) (rest := []) X hS hU sh_5_0 (by decide) rfl vl_L_113 (c_X11_thrown (w := q.1) X.2.2.2.2.2.2.1 (k_uc_s _ _ _) (show f_X11_thrown q.1 = some (q.1 0 0) from rfl)) rfl rfl rfl hl.1 ⟨Nat.le_of_ble_eq_true rfl, Nat.le_of_ble_eq_true rfl⟩ (Nat.le_of_ble_eq_true rfl) dL_law_782 hc) (fun H locs hU hS => ?_)
  refine lv_iload X.1 X.2.1 dL_law_785 (lv_at hl 1 rfl) ?_
  refine lv_icmp_eq (tgt := 792) X.1 X.2.1 dL_law_787 (by decide) (fun _ => ?_) (fun q9 => absurd hk.1 q9)
  refine lv_iload X.1 X.2.1 dL_law_792 (lv_at hl 1 rfl) ?_
  refine lv_if_ne (tgt := 809) X.1 X.2.1 dL_law_794 (by decide) (fun _ => ?_) (fun h0 => ?_)
  · refine lv_goto (tgt := 2118) X.1 X.2.1 dL_law_809 (by decide) ?_
    exact K _ _ _ hU hS (lv_sub hl [2, 3, 4, 5, 6] rfl)
  · refine lv_aload_n X.1 X.2.1 dL_law_797 rfl (lv_at hl 3 rfl) ?_
    refine lv_iconst (v := 0) X.1 X.2.1 dL_law_798 (by decide) ?_
    refine k_jld sh_6_0 X hU dL_law_799 ?_
    refine lv_iload X.1 X.2.1 dL_law_800 (lv_at hl 0 rfl) ?_
    refine lv_i2l (v := q.2.toInt64) X.1 X.2.1 dL_law_802 rfl ?_
    refine W.lcmp X.1 X.2.1 dL_law_803 ?_
    refine lv_if_eq (tgt := 809) X.1 X.2.1 dL_law_804 (by decide) (fun _ => ?_) (fun q9 => absurd (kL_cmp0 (hk.2 h0)) q9)
    refine lv_goto (tgt := 2118) X.1 X.2.1 dL_law_809 (by decide) ?_
    exact K _ _ _ hU hS (lv_sub hl [2, 3, 4, 5, 6] rfl)
set_option maxRecDepth 100000 in
set_option maxHeartbeats 4000000 in
theorem kL_12 {p : Program} {l : Launch} {e : Env} {s : State} {m : MethodId} {args : Array Value} {below : List Frame} {meth : Method} {c : Code} {H : Heap} {locs : List Loc} {cells slots : Nat} {Q : State → Prop} {D : va_G} {G : Nat → ClassId} {ad : Nat → Nat → Nat} {sz : Nat} {u u' : k_U} {b L : Nat} {xs : Nat → Int32} {i : Int32} {ls : Array Slot} (hlT : l.stackTraces = false) (X : k_Cx p s m args c RL cL_law 9 D G ad sz) (hU : k_Uv D G ad u H) (hS : va_S (k_A ad sz) s.heap H locs) (hX : va_X b L xs s s.heap) (hbl : b < s.heap.size) (hbA : ¬ k_A ad sz b) (hl : lv_has ls 9 [(4, .int i), (3, .ref (ad 6 0)), (2, .ref (ad 5 0)), (1, .ref (ad 0 0)), (0, .ref b)]) (h1 : vp_in (i + 1) L) (h2 : vp_in (i + 2) L) (h3 : vp_in (i + 3) L) (h4 : vp_in (i + 4) L) (h5 : vp_in (i + 5) L) (hc : cells + 1 ≤ 601024 ∧ slots + 6 ≤ 7293034) (hf : kLsel 12 u (xs (i + 1).toNatClampNeg) (xs (i + 2).toNatClampNeg) (xs (i + 3).toNatClampNeg) (xs (i + 4).toNatClampNeg) (xs (i + 5).toNatClampNeg) = some u') (K : ∀ (H : Heap) (locs : List Loc) (ls : Array Slot), k_Uv D G ad u' H → va_S (k_A ad sz) s.heap H locs → lv_has ls 9 [(4, .int i), (3, .ref (ad 6 0)), (2, .ref (ad 5 0)), (1, .ref (ad 0 0)), (0, .ref b)] → W p l e room_1 s m args below meth c H locs (cells + 1) (slots + 6) Q (F0 m 2118 ls [])) : W p l e room_1 s m args below meth c H locs cells slots Q (F0 m 812 ls []) := by
  have hf : (k_bd (f_L_event u (xs (i + 1).toNatClampNeg) (xs (i + 2).toNatClampNeg)) fun r => k_bd (f_X11_event (r.1 5) (xs (i + 1).toNatClampNeg) (xs (i + 2).toNatClampNeg)) fun q => kLck r q) = some u' := hf
  refine lv_aload_n X.1 X.2.1 dL_law_812 rfl (lv_at hl 3 rfl) ?_
  refine lv_aload_n X.1 X.2.1 dL_law_813 rfl (lv_at hl 4 rfl) ?_
  refine lv_iload X.1 X.2.1 dL_law_814 (lv_at hl 0 rfl) ?_
  refine lv_iconst (v := 1) X.1 X.2.1 dL_law_816 (by decide) ?_
  refine lv_iadd X.1 X.2.1 dL_law_817 ?_
  refine va_sld X.1 X.2.1 hX hbl hbA hS h1 dL_law_818 ?_
  refine lv_aload_n X.1 X.2.1 dL_law_819 rfl (lv_at hl 4 rfl) ?_
  refine lv_iload X.1 X.2.1 dL_law_820 (lv_at hl 0 rfl) ?_
  refine lv_iconst (v := 2) X.1 X.2.1 dL_law_822 (by decide) ?_
  refine lv_iadd X.1 X.2.1 dL_law_823 ?_
  refine va_sld X.1 X.2.1 hX hbl hbA hS h2 dL_law_824 ?_
  refine lv_aload_n X.1 X.2.1 dL_law_825 rfl (lv_at hl 1 rfl) ?_
  obtain ⟨r, hr, hf⟩ := k_bdE hf
  refine kL_backi X hS (kL_runSW (As := [.ref (ad 0 0), .int (xs (i + 1).toNatClampNeg), .int (xs (i + 2).toNatClampNeg), .ref (ad 6 0)]) (rest := []) X hS hU slw_L_155 (c_L_event X.2.2.2.2.2.2.1 hlT hr) rfl rfl rfl hl.1 ⟨Nat.le_of_ble_eq_true rfl, Nat.le_of_ble_eq_true rfl⟩ (Nat.le_of_ble_eq_true rfl) dL_law_826 hc) (fun H locs hU hS => ?_)
  refine lv_istore (lv' := [(5, .int r.2), (4, .int i), (3, .ref (ad 6 0)), (2, .ref (ad 5 0)), (1, .ref (ad 0 0)), (0, .ref b)]) X.1 X.2.1 dL_law_829 hl (by decide) rfl (fun ls hl => ?_)
  refine lv_aload_n X.1 X.2.1 dL_law_831 rfl (lv_at hl 3 rfl) ?_
  refine lv_aload_n X.1 X.2.1 dL_law_832 rfl (lv_at hl 5 rfl) ?_
  refine lv_iload X.1 X.2.1 dL_law_833 (lv_at hl 1 rfl) ?_
  refine lv_iconst (v := 1) X.1 X.2.1 dL_law_835 (by decide) ?_
  refine lv_iadd X.1 X.2.1 dL_law_836 ?_
  refine va_sld X.1 X.2.1 hX hbl hbA hS h1 dL_law_837 ?_
  refine lv_aload_n X.1 X.2.1 dL_law_838 rfl (lv_at hl 5 rfl) ?_
  refine lv_iload X.1 X.2.1 dL_law_839 (lv_at hl 1 rfl) ?_
  refine lv_iconst (v := 2) X.1 X.2.1 dL_law_841 (by decide) ?_
  refine lv_iadd X.1 X.2.1 dL_law_842 ?_
  refine va_sld X.1 X.2.1 hX hbl hbA hS h2 dL_law_843 ?_
  obtain ⟨q, hq, hf⟩ := k_bdE hf
  refine k_backi X hS (k_runV (As := [.int (xs (i + 1).toNatClampNeg), .int (xs (i + 2).toNatClampNeg)]) (rest := []) X hS hU sh_5_0 (by decide) rfl vl_L_157 (c_X11_event X.2.2.2.2.2.2.1 rfl hq) rfl rfl rfl hl.1 ⟨Nat.le_of_ble_eq_true rfl, Nat.le_of_ble_eq_true rfl⟩ (Nat.le_of_ble_eq_true rfl) dL_law_844 hc) (fun H locs hU hS => ?_)
  refine lv_istore (lv' := [(6, .int q.2), (5, .int r.2), (4, .int i), (3, .ref (ad 6 0)), (2, .ref (ad 5 0)), (1, .ref (ad 0 0)), (0, .ref b)]) X.1 X.2.1 dL_law_847 hl (by decide) rfl (fun ls hl => ?_)
  obtain ⟨hk, hf⟩ := k_ckE hf
  have hz9 := Option.some.inj hf
  subst hz9
  refine lv_aload_n X.1 X.2.1 dL_law_849 rfl (lv_at hl 4 rfl) ?_
  refine k_backi X hS (k_runV (As := []) (rest := []) X hS hU sh_5_0 (by decide) rfl vl_L_113 (c_X11_thrown (w := q.1) X.2.2.2.2.2.2.1 (k_uc_s _ _ _) (show f_X11_thrown q.1 = some (q.1 0 0) from rfl)) rfl rfl rfl hl.1 ⟨Nat.le_of_ble_eq_true rfl, Nat.le_of_ble_eq_true rfl⟩ (Nat.le_of_ble_eq_true rfl) dL_law_850 hc) (fun H locs hU hS => ?_)
  refine lv_iload X.1 X.2.1 dL_law_853 (lv_at hl 1 rfl) ?_
  refine lv_icmp_eq (tgt := 860) X.1 X.2.1 dL_law_855 (by decide) (fun _ => ?_) (fun q9 => absurd hk.1 q9)
  refine lv_iload X.1 X.2.1 dL_law_860 (lv_at hl 1 rfl) ?_
  refine lv_if_ne (tgt := 877) X.1 X.2.1 dL_law_862 (by decide) (fun _ => ?_) (fun h0 => ?_)
  · refine lv_goto (tgt := 2118) X.1 X.2.1 dL_law_877 (by decide) ?_
    exact K _ _ _ hU hS (lv_sub hl [2, 3, 4, 5, 6] rfl)
  · refine lv_aload_n X.1 X.2.1 dL_law_865 rfl (lv_at hl 3 rfl) ?_
    refine lv_iconst (v := 0) X.1 X.2.1 dL_law_866 (by decide) ?_
    refine k_jld sh_6_0 X hU dL_law_867 ?_
    refine lv_iload X.1 X.2.1 dL_law_868 (lv_at hl 0 rfl) ?_
    refine lv_i2l (v := q.2.toInt64) X.1 X.2.1 dL_law_870 rfl ?_
    refine W.lcmp X.1 X.2.1 dL_law_871 ?_
    refine lv_if_eq (tgt := 877) X.1 X.2.1 dL_law_872 (by decide) (fun _ => ?_) (fun q9 => absurd (kL_cmp0 (hk.2 h0)) q9)
    refine lv_goto (tgt := 2118) X.1 X.2.1 dL_law_877 (by decide) ?_
    exact K _ _ _ hU hS (lv_sub hl [2, 3, 4, 5, 6] rfl)
set_option maxRecDepth 100000 in
set_option maxHeartbeats 4000000 in
theorem kL_13 {p : Program} {l : Launch} {e : Env} {s : State} {m : MethodId} {args : Array Value} {below : List Frame} {meth : Method} {c : Code} {H : Heap} {locs : List Loc} {cells slots : Nat} {Q : State → Prop} {D : va_G} {G : Nat → ClassId} {ad : Nat → Nat → Nat} {sz : Nat} {u u' : k_U} {b L : Nat} {xs : Nat → Int32} {i : Int32} {ls : Array Slot} (hlT : l.stackTraces = false) (X : k_Cx p s m args c RL cL_law 9 D G ad sz) (hU : k_Uv D G ad u H) (hS : va_S (k_A ad sz) s.heap H locs) (hX : va_X b L xs s s.heap) (hbl : b < s.heap.size) (hbA : ¬ k_A ad sz b) (hl : lv_has ls 9 [(4, .int i), (3, .ref (ad 6 0)), (2, .ref (ad 5 0)), (1, .ref (ad 0 0)), (0, .ref b)]) (h1 : vp_in (i + 1) L) (h2 : vp_in (i + 2) L) (h3 : vp_in (i + 3) L) (h4 : vp_in (i + 4) L) (h5 : vp_in (i + 5) L) (hc : cells + 1 ≤ 601024 ∧ slots + 6 ≤ 7293034) (hf : kLsel 13 u (xs (i + 1).toNatClampNeg) (xs (i + 2).toNatClampNeg) (xs (i + 3).toNatClampNeg) (xs (i + 4).toNatClampNeg) (xs (i + 5).toNatClampNeg) = some u') (K : ∀ (H : Heap) (locs : List Loc) (ls : Array Slot), k_Uv D G ad u' H → va_S (k_A ad sz) s.heap H locs → lv_has ls 9 [(4, .int i), (3, .ref (ad 6 0)), (2, .ref (ad 5 0)), (1, .ref (ad 0 0)), (0, .ref b)] → W p l e room_1 s m args below meth c H locs (cells + 1) (slots + 6) Q (F0 m 2118 ls [])) : W p l e room_1 s m args below meth c H locs cells slots Q (F0 m 880 ls []) := by
  have hf : (k_bd (f_L_account u (xs (i + 1).toNatClampNeg)) fun r => k_bd (f_X11_account (r.1 5) (xs (i + 1).toNatClampNeg)) fun q => kLck r q) = some u' := hf
  refine lv_aload_n X.1 X.2.1 dL_law_880 rfl (lv_at hl 3 rfl) ?_
  refine lv_aload_n X.1 X.2.1 dL_law_881 rfl (lv_at hl 4 rfl) ?_
  refine lv_iload X.1 X.2.1 dL_law_882 (lv_at hl 0 rfl) ?_
  refine lv_iconst (v := 1) X.1 X.2.1 dL_law_884 (by decide) ?_
  refine lv_iadd X.1 X.2.1 dL_law_885 ?_
  refine va_sld X.1 X.2.1 hX hbl hbA hS h1 dL_law_886 ?_
  refine lv_aload_n X.1 X.2.1 dL_law_887 rfl (lv_at hl 1 rfl) ?_
  obtain ⟨r, hr, hf⟩ := k_bdE hf
  refine kL_backi X hS (kL_runSW (As := [.ref (ad 0 0), .int (xs (i + 1).toNatClampNeg), .ref (ad 6 0)]) (rest := []) X hS hU slw_L_158 (c_L_account X.2.2.2.2.2.2.1 hlT hr) rfl rfl rfl hl.1 ⟨Nat.le_of_ble_eq_true rfl, Nat.le_of_ble_eq_true rfl⟩ (Nat.le_of_ble_eq_true rfl) dL_law_888 hc) (fun H locs hU hS => ?_)
  refine lv_istore (lv' := [(5, .int r.2), (4, .int i), (3, .ref (ad 6 0)), (2, .ref (ad 5 0)), (1, .ref (ad 0 0)), (0, .ref b)]) X.1 X.2.1 dL_law_891 hl (by decide) rfl (fun ls hl => ?_)
  refine lv_aload_n X.1 X.2.1 dL_law_893 rfl (lv_at hl 3 rfl) ?_
  refine lv_aload_n X.1 X.2.1 dL_law_894 rfl (lv_at hl 5 rfl) ?_
  refine lv_iload X.1 X.2.1 dL_law_895 (lv_at hl 1 rfl) ?_
  refine lv_iconst (v := 1) X.1 X.2.1 dL_law_897 (by decide) ?_
  refine lv_iadd X.1 X.2.1 dL_law_898 ?_
  refine va_sld X.1 X.2.1 hX hbl hbA hS h1 dL_law_899 ?_
  obtain ⟨q, hq, hf⟩ := k_bdE hf
  refine k_backi X hS (k_runV (As := [.int (xs (i + 1).toNatClampNeg)]) (rest := []) X hS hU sh_5_0 (by decide) rfl vl_L_160 (c_X11_account X.2.2.2.2.2.2.1 rfl hq) rfl rfl rfl hl.1 ⟨Nat.le_of_ble_eq_true rfl, Nat.le_of_ble_eq_true rfl⟩ (Nat.le_of_ble_eq_true rfl) dL_law_900 hc) (fun H locs hU hS => ?_)
  refine lv_istore (lv' := [(6, .int q.2), (5, .int r.2), (4, .int i), (3, .ref (ad 6 0)), (2, .ref (ad 5 0)), (1, .ref (ad 0 0)), (0, .ref b)]) X.1 X.2.1 dL_law_903 hl (by decide) rfl (fun ls hl => ?_)
  obtain ⟨hk, hf⟩ := k_ckE hf
  have hz9 := Option.some.inj hf
  subst hz9
  refine lv_aload_n X.1 X.2.1 dL_law_905 rfl (lv_at hl 4 rfl) ?_
  refine k_backi X hS (k_runV (As := []) (rest := []) X hS hU sh_5_0 (by decide) rfl vl_L_113 (c_X11_thrown (w := q.1) X.2.2.2.2.2.2.1 (k_uc_s _ _ _) (show f_X11_thrown q.1 = some (q.1 0 0) from rfl)) rfl rfl rfl hl.1 ⟨Nat.le_of_ble_eq_true rfl, Nat.le_of_ble_eq_true rfl⟩ (Nat.le_of_ble_eq_true rfl) dL_law_906 hc) (fun H locs hU hS => ?_)
  refine lv_iload X.1 X.2.1 dL_law_909 (lv_at hl 1 rfl) ?_
  refine lv_icmp_eq (tgt := 916) X.1 X.2.1 dL_law_911 (by decide) (fun _ => ?_) (fun q9 => absurd hk.1 q9)
  refine lv_iload X.1 X.2.1 dL_law_916 (lv_at hl 1 rfl) ?_
  refine lv_if_ne (tgt := 933) X.1 X.2.1 dL_law_918 (by decide) (fun _ => ?_) (fun h0 => ?_)
  · refine lv_goto (tgt := 2118) X.1 X.2.1 dL_law_933 (by decide) ?_
    exact K _ _ _ hU hS (lv_sub hl [2, 3, 4, 5, 6] rfl)
  · refine lv_aload_n X.1 X.2.1 dL_law_921 rfl (lv_at hl 3 rfl) ?_
    refine lv_iconst (v := 0) X.1 X.2.1 dL_law_922 (by decide) ?_
    refine k_jld sh_6_0 X hU dL_law_923 ?_
    refine lv_iload X.1 X.2.1 dL_law_924 (lv_at hl 0 rfl) ?_
    refine lv_i2l (v := q.2.toInt64) X.1 X.2.1 dL_law_926 rfl ?_
    refine W.lcmp X.1 X.2.1 dL_law_927 ?_
    refine lv_if_eq (tgt := 933) X.1 X.2.1 dL_law_928 (by decide) (fun _ => ?_) (fun q9 => absurd (kL_cmp0 (hk.2 h0)) q9)
    refine lv_goto (tgt := 2118) X.1 X.2.1 dL_law_933 (by decide) ?_
    exact K _ _ _ hU hS (lv_sub hl [2, 3, 4, 5, 6] rfl)
set_option maxRecDepth 100000 in
set_option maxHeartbeats 4000000 in
theorem kL_14 {p : Program} {l : Launch} {e : Env} {s : State} {m : MethodId} {args : Array Value} {below : List Frame} {meth : Method} {c : Code} {H : Heap} {locs : List Loc} {cells slots : Nat} {Q : State → Prop} {D : va_G} {G : Nat → ClassId} {ad : Nat → Nat → Nat} {sz : Nat} {u u' : k_U} {b L : Nat} {xs : Nat → Int32} {i : Int32} {ls : Array Slot} (hlT : l.stackTraces = false) (X : k_Cx p s m args c RL cL_law 9 D G ad sz) (hU : k_Uv D G ad u H) (hS : va_S (k_A ad sz) s.heap H locs) (hX : va_X b L xs s s.heap) (hbl : b < s.heap.size) (hbA : ¬ k_A ad sz b) (hl : lv_has ls 9 [(4, .int i), (3, .ref (ad 6 0)), (2, .ref (ad 5 0)), (1, .ref (ad 0 0)), (0, .ref b)]) (h1 : vp_in (i + 1) L) (h2 : vp_in (i + 2) L) (h3 : vp_in (i + 3) L) (h4 : vp_in (i + 4) L) (h5 : vp_in (i + 5) L) (hc : cells + 1 ≤ 601024 ∧ slots + 6 ≤ 7293034) (hf : kLsel 14 u (xs (i + 1).toNatClampNeg) (xs (i + 2).toNatClampNeg) (xs (i + 3).toNatClampNeg) (xs (i + 4).toNatClampNeg) (xs (i + 5).toNatClampNeg) = some u') (K : ∀ (H : Heap) (locs : List Loc) (ls : Array Slot), k_Uv D G ad u' H → va_S (k_A ad sz) s.heap H locs → lv_has ls 9 [(4, .int i), (3, .ref (ad 6 0)), (2, .ref (ad 5 0)), (1, .ref (ad 0 0)), (0, .ref b)] → W p l e room_1 s m args below meth c H locs (cells + 1) (slots + 6) Q (F0 m 2118 ls [])) : W p l e room_1 s m args below meth c H locs cells slots Q (F0 m 936 ls []) := by
  have hf : (k_bd (f_X10_asks u) fun v => k_bd (f_X11_asks (u 5)) fun q => k_ck (v = q.2) (some (k_uc u 5 q.1))) = some u' := hf
  refine lv_aload_n X.1 X.2.1 dL_law_936 rfl (lv_at hl 3 rfl) ?_
  obtain ⟨v, hr, hf⟩ := k_bdE hf
  refine k_backi X hS (k_runV (As := []) (rest := []) X hS hU sh_0_0 (by decide) rfl vl_L_161 (c_X10_asks X.2.2.2.2.2.2.1 hr) rfl rfl rfl hl.1 ⟨Nat.le_of_ble_eq_true rfl, Nat.le_of_ble_eq_true rfl⟩ (Nat.le_of_ble_eq_true rfl) dL_law_937 ⟨Nat.le_trans (Nat.le_succ cells) hc.1, Nat.le_trans (Nat.le_add_right slots 6) hc.2⟩) (fun H locs hU hS => ?_)
  refine lv_aload_n X.1 X.2.1 dL_law_940 rfl (lv_at hl 2 rfl) ?_
  obtain ⟨q, hq, hf⟩ := k_bdE hf
  refine k_backi X hS (k_runV (As := []) (rest := [.int v]) X hS hU sh_5_0 (by decide) rfl vl_L_165 (c_X11_asks X.2.2.2.2.2.2.1 rfl hq) rfl rfl rfl hl.1 ⟨Nat.le_of_ble_eq_true rfl, Nat.le_of_ble_eq_true rfl⟩ (Nat.le_of_ble_eq_true rfl) dL_law_941 ⟨Nat.le_trans (Nat.le_succ cells) hc.1, Nat.le_trans (Nat.le_add_right slots 6) hc.2⟩) (fun H locs hU hS => ?_)
  obtain ⟨hk, hf⟩ := k_ckE hf
  have hz9 := Option.some.inj hf
  subst hz9
  refine lv_icmp_eq (tgt := 2118) X.1 X.2.1 dL_law_944 (by decide) (fun _ => ?_) (fun q9 => absurd hk q9)
  refine W.widen (k := cells + 1) (n := slots + 6) (by omega) (by omega) ?_
  exact K _ _ _ hU hS (lv_sub hl [0, 1, 2, 3, 4] rfl)
set_option maxRecDepth 100000 in
set_option maxHeartbeats 4000000 in
theorem kL_15 {p : Program} {l : Launch} {e : Env} {s : State} {m : MethodId} {args : Array Value} {below : List Frame} {meth : Method} {c : Code} {H : Heap} {locs : List Loc} {cells slots : Nat} {Q : State → Prop} {D : va_G} {G : Nat → ClassId} {ad : Nat → Nat → Nat} {sz : Nat} {u u' : k_U} {b L : Nat} {xs : Nat → Int32} {i : Int32} {ls : Array Slot} (hlT : l.stackTraces = false) (X : k_Cx p s m args c RL cL_law 9 D G ad sz) (hU : k_Uv D G ad u H) (hS : va_S (k_A ad sz) s.heap H locs) (hX : va_X b L xs s s.heap) (hbl : b < s.heap.size) (hbA : ¬ k_A ad sz b) (hl : lv_has ls 9 [(4, .int i), (3, .ref (ad 6 0)), (2, .ref (ad 5 0)), (1, .ref (ad 0 0)), (0, .ref b)]) (h1 : vp_in (i + 1) L) (h2 : vp_in (i + 2) L) (h3 : vp_in (i + 3) L) (h4 : vp_in (i + 4) L) (h5 : vp_in (i + 5) L) (hc : cells + 1 ≤ 601024 ∧ slots + 6 ≤ 7293034) (hf : kLsel 15 u (xs (i + 1).toNatClampNeg) (xs (i + 2).toNatClampNeg) (xs (i + 3).toNatClampNeg) (xs (i + 4).toNatClampNeg) (xs (i + 5).toNatClampNeg) = some u') (K : ∀ (H : Heap) (locs : List Loc) (ls : Array Slot), k_Uv D G ad u' H → va_S (k_A ad sz) s.heap H locs → lv_has ls 9 [(4, .int i), (3, .ref (ad 6 0)), (2, .ref (ad 5 0)), (1, .ref (ad 0 0)), (0, .ref b)] → W p l e room_1 s m args below meth c H locs (cells + 1) (slots + 6) Q (F0 m 2118 ls [])) : W p l e room_1 s m args below meth c H locs cells slots Q (F0 m 949 ls []) := by
  have hf : (k_bd (f_L_why u (xs (i + 1).toNatClampNeg)) fun r => k_bd (f_X11_why (r.1 5) (xs (i + 1).toNatClampNeg)) fun q => kLck r q) = some u' := hf
  refine lv_aload_n X.1 X.2.1 dL_law_949 rfl (lv_at hl 3 rfl) ?_
  refine lv_aload_n X.1 X.2.1 dL_law_950 rfl (lv_at hl 4 rfl) ?_
  refine lv_iload X.1 X.2.1 dL_law_951 (lv_at hl 0 rfl) ?_
  refine lv_iconst (v := 1) X.1 X.2.1 dL_law_953 (by decide) ?_
  refine lv_iadd X.1 X.2.1 dL_law_954 ?_
  refine va_sld X.1 X.2.1 hX hbl hbA hS h1 dL_law_955 ?_
  refine lv_aload_n X.1 X.2.1 dL_law_956 rfl (lv_at hl 1 rfl) ?_
  obtain ⟨r, hr, hf⟩ := k_bdE hf
  refine kL_backi X hS (kL_runSW (As := [.ref (ad 0 0), .int (xs (i + 1).toNatClampNeg), .ref (ad 6 0)]) (rest := []) X hS hU slw_L_166 (c_L_why X.2.2.2.2.2.2.1 hlT hr) rfl rfl rfl hl.1 ⟨Nat.le_of_ble_eq_true rfl, Nat.le_of_ble_eq_true rfl⟩ (Nat.le_of_ble_eq_true rfl) dL_law_957 hc) (fun H locs hU hS => ?_)
  refine lv_istore (lv' := [(5, .int r.2), (4, .int i), (3, .ref (ad 6 0)), (2, .ref (ad 5 0)), (1, .ref (ad 0 0)), (0, .ref b)]) X.1 X.2.1 dL_law_960 hl (by decide) rfl (fun ls hl => ?_)
  refine lv_aload_n X.1 X.2.1 dL_law_962 rfl (lv_at hl 3 rfl) ?_
  refine lv_aload_n X.1 X.2.1 dL_law_963 rfl (lv_at hl 5 rfl) ?_
  refine lv_iload X.1 X.2.1 dL_law_964 (lv_at hl 1 rfl) ?_
  refine lv_iconst (v := 1) X.1 X.2.1 dL_law_966 (by decide) ?_
  refine lv_iadd X.1 X.2.1 dL_law_967 ?_
  refine va_sld X.1 X.2.1 hX hbl hbA hS h1 dL_law_968 ?_
  obtain ⟨q, hq, hf⟩ := k_bdE hf
  refine k_backi X hS (k_runV (As := [.int (xs (i + 1).toNatClampNeg)]) (rest := []) X hS hU sh_5_0 (by decide) rfl vl_L_168 (c_X11_why X.2.2.2.2.2.2.1 rfl hq) rfl rfl rfl hl.1 ⟨Nat.le_of_ble_eq_true rfl, Nat.le_of_ble_eq_true rfl⟩ (Nat.le_of_ble_eq_true rfl) dL_law_969 hc) (fun H locs hU hS => ?_)
  refine lv_istore (lv' := [(6, .int q.2), (5, .int r.2), (4, .int i), (3, .ref (ad 6 0)), (2, .ref (ad 5 0)), (1, .ref (ad 0 0)), (0, .ref b)]) X.1 X.2.1 dL_law_972 hl (by decide) rfl (fun ls hl => ?_)
  obtain ⟨hk, hf⟩ := k_ckE hf
  have hz9 := Option.some.inj hf
  subst hz9
  refine lv_aload_n X.1 X.2.1 dL_law_974 rfl (lv_at hl 4 rfl) ?_
  refine k_backi X hS (k_runV (As := []) (rest := []) X hS hU sh_5_0 (by decide) rfl vl_L_113 (c_X11_thrown (w := q.1) X.2.2.2.2.2.2.1 (k_uc_s _ _ _) (show f_X11_thrown q.1 = some (q.1 0 0) from rfl)) rfl rfl rfl hl.1 ⟨Nat.le_of_ble_eq_true rfl, Nat.le_of_ble_eq_true rfl⟩ (Nat.le_of_ble_eq_true rfl) dL_law_975 hc) (fun H locs hU hS => ?_)
  refine lv_iload X.1 X.2.1 dL_law_978 (lv_at hl 1 rfl) ?_
  refine lv_icmp_eq (tgt := 985) X.1 X.2.1 dL_law_980 (by decide) (fun _ => ?_) (fun q9 => absurd hk.1 q9)
  refine lv_iload X.1 X.2.1 dL_law_985 (lv_at hl 1 rfl) ?_
  refine lv_if_ne (tgt := 1002) X.1 X.2.1 dL_law_987 (by decide) (fun _ => ?_) (fun h0 => ?_)
  · refine lv_goto (tgt := 2118) X.1 X.2.1 dL_law_1002 (by decide) ?_
    exact K _ _ _ hU hS (lv_sub hl [2, 3, 4, 5, 6] rfl)
  · refine lv_aload_n X.1 X.2.1 dL_law_990 rfl (lv_at hl 3 rfl) ?_
    refine lv_iconst (v := 0) X.1 X.2.1 dL_law_991 (by decide) ?_
    refine k_jld sh_6_0 X hU dL_law_992 ?_
    refine lv_iload X.1 X.2.1 dL_law_993 (lv_at hl 0 rfl) ?_
    refine lv_i2l (v := q.2.toInt64) X.1 X.2.1 dL_law_995 rfl ?_
    refine W.lcmp X.1 X.2.1 dL_law_996 ?_
    refine lv_if_eq (tgt := 1002) X.1 X.2.1 dL_law_997 (by decide) (fun _ => ?_) (fun q9 => absurd (kL_cmp0 (hk.2 h0)) q9)
    refine lv_goto (tgt := 2118) X.1 X.2.1 dL_law_1002 (by decide) ?_
    exact K _ _ _ hU hS (lv_sub hl [2, 3, 4, 5, 6] rfl)
set_option maxRecDepth 100000 in
set_option maxHeartbeats 4000000 in
theorem kL_16 {p : Program} {l : Launch} {e : Env} {s : State} {m : MethodId} {args : Array Value} {below : List Frame} {meth : Method} {c : Code} {H : Heap} {locs : List Loc} {cells slots : Nat} {Q : State → Prop} {D : va_G} {G : Nat → ClassId} {ad : Nat → Nat → Nat} {sz : Nat} {u u' : k_U} {b L : Nat} {xs : Nat → Int32} {i : Int32} {ls : Array Slot} (hlT : l.stackTraces = false) (X : k_Cx p s m args c RL cL_law 9 D G ad sz) (hU : k_Uv D G ad u H) (hS : va_S (k_A ad sz) s.heap H locs) (hX : va_X b L xs s s.heap) (hbl : b < s.heap.size) (hbA : ¬ k_A ad sz b) (hl : lv_has ls 9 [(4, .int i), (3, .ref (ad 6 0)), (2, .ref (ad 5 0)), (1, .ref (ad 0 0)), (0, .ref b)]) (h1 : vp_in (i + 1) L) (h2 : vp_in (i + 2) L) (h3 : vp_in (i + 3) L) (h4 : vp_in (i + 4) L) (h5 : vp_in (i + 5) L) (hc : cells + 1 ≤ 601024 ∧ slots + 6 ≤ 7293034) (hf : kLsel 16 u (xs (i + 1).toNatClampNeg) (xs (i + 2).toNatClampNeg) (xs (i + 3).toNatClampNeg) (xs (i + 4).toNatClampNeg) (xs (i + 5).toNatClampNeg) = some u') (K : ∀ (H : Heap) (locs : List Loc) (ls : Array Slot), k_Uv D G ad u' H → va_S (k_A ad sz) s.heap H locs → lv_has ls 9 [(4, .int i), (3, .ref (ad 6 0)), (2, .ref (ad 5 0)), (1, .ref (ad 0 0)), (0, .ref b)] → W p l e room_1 s m args below meth c H locs (cells + 1) (slots + 6) Q (F0 m 2118 ls [])) : W p l e room_1 s m args below meth c H locs cells slots Q (F0 m 1005 ls []) := by
  have hf : (k_bd (f_X10_whyReserve u) fun v => k_bd (f_X11_whyReserve (u 5)) fun q => k_ck (v = q.2) (some (k_uc u 5 q.1))) = some u' := hf
  refine lv_aload_n X.1 X.2.1 dL_law_1005 rfl (lv_at hl 3 rfl) ?_
  obtain ⟨v, hr, hf⟩ := k_bdE hf
  refine k_backi X hS (k_runV (As := []) (rest := []) X hS hU sh_0_0 (by decide) rfl vl_L_169 (c_X10_whyReserve X.2.2.2.2.2.2.1 hr) rfl rfl rfl hl.1 ⟨Nat.le_of_ble_eq_true rfl, Nat.le_of_ble_eq_true rfl⟩ (Nat.le_of_ble_eq_true rfl) dL_law_1006 ⟨Nat.le_trans (Nat.le_succ cells) hc.1, Nat.le_trans (Nat.le_add_right slots 6) hc.2⟩) (fun H locs hU hS => ?_)
  refine lv_aload_n X.1 X.2.1 dL_law_1009 rfl (lv_at hl 2 rfl) ?_
  obtain ⟨q, hq, hf⟩ := k_bdE hf
  refine k_backi X hS (k_runV (As := []) (rest := [.int v]) X hS hU sh_5_0 (by decide) rfl vl_L_172 (c_X11_whyReserve X.2.2.2.2.2.2.1 rfl hq) rfl rfl rfl hl.1 ⟨Nat.le_of_ble_eq_true rfl, Nat.le_of_ble_eq_true rfl⟩ (Nat.le_of_ble_eq_true rfl) dL_law_1010 ⟨Nat.le_trans (Nat.le_succ cells) hc.1, Nat.le_trans (Nat.le_add_right slots 6) hc.2⟩) (fun H locs hU hS => ?_)
  obtain ⟨hk, hf⟩ := k_ckE hf
  have hz9 := Option.some.inj hf
  subst hz9
  refine lv_icmp_eq (tgt := 2118) X.1 X.2.1 dL_law_1013 (by decide) (fun _ => ?_) (fun q9 => absurd hk q9)
  refine W.widen (k := cells + 1) (n := slots + 6) (by omega) (by omega) ?_
  exact K _ _ _ hU hS (lv_sub hl [0, 1, 2, 3, 4] rfl)
set_option maxRecDepth 100000 in
set_option maxHeartbeats 4000000 in
theorem kL_17 {p : Program} {l : Launch} {e : Env} {s : State} {m : MethodId} {args : Array Value} {below : List Frame} {meth : Method} {c : Code} {H : Heap} {locs : List Loc} {cells slots : Nat} {Q : State → Prop} {D : va_G} {G : Nat → ClassId} {ad : Nat → Nat → Nat} {sz : Nat} {u u' : k_U} {b L : Nat} {xs : Nat → Int32} {i : Int32} {ls : Array Slot} (hlT : l.stackTraces = false) (X : k_Cx p s m args c RL cL_law 9 D G ad sz) (hU : k_Uv D G ad u H) (hS : va_S (k_A ad sz) s.heap H locs) (hX : va_X b L xs s s.heap) (hbl : b < s.heap.size) (hbA : ¬ k_A ad sz b) (hl : lv_has ls 9 [(4, .int i), (3, .ref (ad 6 0)), (2, .ref (ad 5 0)), (1, .ref (ad 0 0)), (0, .ref b)]) (h1 : vp_in (i + 1) L) (h2 : vp_in (i + 2) L) (h3 : vp_in (i + 3) L) (h4 : vp_in (i + 4) L) (h5 : vp_in (i + 5) L) (hc : cells + 1 ≤ 601024 ∧ slots + 6 ≤ 7293034) (hf : kLsel 17 u (xs (i + 1).toNatClampNeg) (xs (i + 2).toNatClampNeg) (xs (i + 3).toNatClampNeg) (xs (i + 4).toNatClampNeg) (xs (i + 5).toNatClampNeg) = some u') (K : ∀ (H : Heap) (locs : List Loc) (ls : Array Slot), k_Uv D G ad u' H → va_S (k_A ad sz) s.heap H locs → lv_has ls 9 [(4, .int i), (3, .ref (ad 6 0)), (2, .ref (ad 5 0)), (1, .ref (ad 0 0)), (0, .ref b)] → W p l e room_1 s m args below meth c H locs (cells + 1) (slots + 6) Q (F0 m 2118 ls [])) : W p l e room_1 s m args below meth c H locs cells slots Q (F0 m 1018 ls []) := by
  have hf : (k_bd (f_L_loadOn u (xs (i + 1).toNatClampNeg)) fun r => k_bd (f_X11_loadOn (r.1 5) (xs (i + 1).toNatClampNeg)) fun q => kLck r q) = some u' := hf
  refine lv_aload_n X.1 X.2.1 dL_law_1018 rfl (lv_at hl 3 rfl) ?_
  refine lv_aload_n X.1 X.2.1 dL_law_1019 rfl (lv_at hl 4 rfl) ?_
  refine lv_iload X.1 X.2.1 dL_law_1020 (lv_at hl 0 rfl) ?_
  refine lv_iconst (v := 1) X.1 X.2.1 dL_law_1022 (by decide) ?_
  refine lv_iadd X.1 X.2.1 dL_law_1023 ?_
  refine va_sld X.1 X.2.1 hX hbl hbA hS h1 dL_law_1024 ?_
  refine lv_aload_n X.1 X.2.1 dL_law_1025 rfl (lv_at hl 1 rfl) ?_
  obtain ⟨r, hr, hf⟩ := k_bdE hf
  refine kL_backi X hS (kL_runSW (As := [.ref (ad 0 0), .int (xs (i + 1).toNatClampNeg), .ref (ad 6 0)]) (rest := []) X hS hU slw_L_173 (c_L_loadOn X.2.2.2.2.2.2.1 hlT hr) rfl rfl rfl hl.1 ⟨Nat.le_of_ble_eq_true rfl, Nat.le_of_ble_eq_true rfl⟩ (Nat.le_of_ble_eq_true rfl) dL_law_1026 hc) (fun H locs hU hS => ?_)
  refine lv_istore (lv' := [(5, .int r.2), (4, .int i), (3, .ref (ad 6 0)), (2, .ref (ad 5 0)), (1, .ref (ad 0 0)), (0, .ref b)]) X.1 X.2.1 dL_law_1029 hl (by decide) rfl (fun ls hl => ?_)
  refine lv_aload_n X.1 X.2.1 dL_law_1031 rfl (lv_at hl 3 rfl) ?_
  refine lv_aload_n X.1 X.2.1 dL_law_1032 rfl (lv_at hl 5 rfl) ?_
  refine lv_iload X.1 X.2.1 dL_law_1033 (lv_at hl 1 rfl) ?_
  refine lv_iconst (v := 1) X.1 X.2.1 dL_law_1035 (by decide) ?_
  refine lv_iadd X.1 X.2.1 dL_law_1036 ?_
  refine va_sld X.1 X.2.1 hX hbl hbA hS h1 dL_law_1037 ?_
  obtain ⟨q, hq, hf⟩ := k_bdE hf
  refine k_backi X hS (k_runV (As := [.int (xs (i + 1).toNatClampNeg)]) (rest := []) X hS hU sh_5_0 (by decide) rfl vl_L_175 (c_X11_loadOn X.2.2.2.2.2.2.1 rfl hq) rfl rfl rfl hl.1 ⟨Nat.le_of_ble_eq_true rfl, Nat.le_of_ble_eq_true rfl⟩ (Nat.le_of_ble_eq_true rfl) dL_law_1038 hc) (fun H locs hU hS => ?_)
  refine lv_istore (lv' := [(6, .int q.2), (5, .int r.2), (4, .int i), (3, .ref (ad 6 0)), (2, .ref (ad 5 0)), (1, .ref (ad 0 0)), (0, .ref b)]) X.1 X.2.1 dL_law_1041 hl (by decide) rfl (fun ls hl => ?_)
  obtain ⟨hk, hf⟩ := k_ckE hf
  have hz9 := Option.some.inj hf
  subst hz9
  refine lv_aload_n X.1 X.2.1 dL_law_1043 rfl (lv_at hl 4 rfl) ?_
  refine k_backi X hS (k_runV (As := []) (rest := []) X hS hU sh_5_0 (by decide) rfl vl_L_113 (c_X11_thrown (w := q.1) X.2.2.2.2.2.2.1 (k_uc_s _ _ _) (show f_X11_thrown q.1 = some (q.1 0 0) from rfl)) rfl rfl rfl hl.1 ⟨Nat.le_of_ble_eq_true rfl, Nat.le_of_ble_eq_true rfl⟩ (Nat.le_of_ble_eq_true rfl) dL_law_1044 hc) (fun H locs hU hS => ?_)
  refine lv_iload X.1 X.2.1 dL_law_1047 (lv_at hl 1 rfl) ?_
  refine lv_icmp_eq (tgt := 1054) X.1 X.2.1 dL_law_1049 (by decide) (fun _ => ?_) (fun q9 => absurd hk.1 q9)
  refine lv_iload X.1 X.2.1 dL_law_1054 (lv_at hl 1 rfl) ?_
  refine lv_if_ne (tgt := 1071) X.1 X.2.1 dL_law_1056 (by decide) (fun _ => ?_) (fun h0 => ?_)
  · refine lv_goto (tgt := 2118) X.1 X.2.1 dL_law_1071 (by decide) ?_
    exact K _ _ _ hU hS (lv_sub hl [2, 3, 4, 5, 6] rfl)
  · refine lv_aload_n X.1 X.2.1 dL_law_1059 rfl (lv_at hl 3 rfl) ?_
    refine lv_iconst (v := 0) X.1 X.2.1 dL_law_1060 (by decide) ?_
    refine k_jld sh_6_0 X hU dL_law_1061 ?_
    refine lv_iload X.1 X.2.1 dL_law_1062 (lv_at hl 0 rfl) ?_
    refine lv_i2l (v := q.2.toInt64) X.1 X.2.1 dL_law_1064 rfl ?_
    refine W.lcmp X.1 X.2.1 dL_law_1065 ?_
    refine lv_if_eq (tgt := 1071) X.1 X.2.1 dL_law_1066 (by decide) (fun _ => ?_) (fun q9 => absurd (kL_cmp0 (hk.2 h0)) q9)
    refine lv_goto (tgt := 2118) X.1 X.2.1 dL_law_1071 (by decide) ?_
    exact K _ _ _ hU hS (lv_sub hl [2, 3, 4, 5, 6] rfl)
set_option maxRecDepth 100000 in
set_option maxHeartbeats 4000000 in
theorem kL_18 {p : Program} {l : Launch} {e : Env} {s : State} {m : MethodId} {args : Array Value} {below : List Frame} {meth : Method} {c : Code} {H : Heap} {locs : List Loc} {cells slots : Nat} {Q : State → Prop} {D : va_G} {G : Nat → ClassId} {ad : Nat → Nat → Nat} {sz : Nat} {u u' : k_U} {b L : Nat} {xs : Nat → Int32} {i : Int32} {ls : Array Slot} (hlT : l.stackTraces = false) (X : k_Cx p s m args c RL cL_law 9 D G ad sz) (hU : k_Uv D G ad u H) (hS : va_S (k_A ad sz) s.heap H locs) (hX : va_X b L xs s s.heap) (hbl : b < s.heap.size) (hbA : ¬ k_A ad sz b) (hl : lv_has ls 9 [(4, .int i), (3, .ref (ad 6 0)), (2, .ref (ad 5 0)), (1, .ref (ad 0 0)), (0, .ref b)]) (h1 : vp_in (i + 1) L) (h2 : vp_in (i + 2) L) (h3 : vp_in (i + 3) L) (h4 : vp_in (i + 4) L) (h5 : vp_in (i + 5) L) (hc : cells + 1 ≤ 601024 ∧ slots + 6 ≤ 7293034) (hf : kLsel 18 u (xs (i + 1).toNatClampNeg) (xs (i + 2).toNatClampNeg) (xs (i + 3).toNatClampNeg) (xs (i + 4).toNatClampNeg) (xs (i + 5).toNatClampNeg) = some u') (K : ∀ (H : Heap) (locs : List Loc) (ls : Array Slot), k_Uv D G ad u' H → va_S (k_A ad sz) s.heap H locs → lv_has ls 9 [(4, .int i), (3, .ref (ad 6 0)), (2, .ref (ad 5 0)), (1, .ref (ad 0 0)), (0, .ref b)] → W p l e room_1 s m args below meth c H locs (cells + 1) (slots + 6) Q (F0 m 2118 ls [])) : W p l e room_1 s m args below meth c H locs cells slots Q (F0 m 1074 ls []) := by
  have hf : (k_bd (f_L_wouldTear u (xs (i + 1).toNatClampNeg)) fun r => k_bd (f_X11_wouldTear (r.1 5) (xs (i + 1).toNatClampNeg)) fun q => kLck r q) = some u' := hf
  refine lv_aload_n X.1 X.2.1 dL_law_1074 rfl (lv_at hl 3 rfl) ?_
  refine lv_aload_n X.1 X.2.1 dL_law_1075 rfl (lv_at hl 4 rfl) ?_
  refine lv_iload X.1 X.2.1 dL_law_1076 (lv_at hl 0 rfl) ?_
  refine lv_iconst (v := 1) X.1 X.2.1 dL_law_1078 (by decide) ?_
  refine lv_iadd X.1 X.2.1 dL_law_1079 ?_
  refine va_sld X.1 X.2.1 hX hbl hbA hS h1 dL_law_1080 ?_
  refine lv_aload_n X.1 X.2.1 dL_law_1081 rfl (lv_at hl 1 rfl) ?_
  obtain ⟨r, hr, hf⟩ := k_bdE hf
  refine kL_backi X hS (kL_runSW (As := [.ref (ad 0 0), .int (xs (i + 1).toNatClampNeg), .ref (ad 6 0)]) (rest := []) X hS hU slw_L_176 (c_L_wouldTear X.2.2.2.2.2.2.1 hlT hr) rfl rfl rfl hl.1 ⟨Nat.le_of_ble_eq_true rfl, Nat.le_of_ble_eq_true rfl⟩ (Nat.le_of_ble_eq_true rfl) dL_law_1082 hc) (fun H locs hU hS => ?_)
  refine lv_istore (lv' := [(5, .int r.2), (4, .int i), (3, .ref (ad 6 0)), (2, .ref (ad 5 0)), (1, .ref (ad 0 0)), (0, .ref b)]) X.1 X.2.1 dL_law_1085 hl (by decide) rfl (fun ls hl => ?_)
  refine lv_aload_n X.1 X.2.1 dL_law_1087 rfl (lv_at hl 3 rfl) ?_
  refine lv_aload_n X.1 X.2.1 dL_law_1088 rfl (lv_at hl 5 rfl) ?_
  refine lv_iload X.1 X.2.1 dL_law_1089 (lv_at hl 1 rfl) ?_
  refine lv_iconst (v := 1) X.1 X.2.1 dL_law_1091 (by decide) ?_
  refine lv_iadd X.1 X.2.1 dL_law_1092 ?_
  refine va_sld X.1 X.2.1 hX hbl hbA hS h1 dL_law_1093 ?_
  obtain ⟨q, hq, hf⟩ := k_bdE hf
  refine k_backi X hS (k_runV (As := [.int (xs (i + 1).toNatClampNeg)]) (rest := []) X hS hU sh_5_0 (by decide) rfl vl_L_178 (c_X11_wouldTear X.2.2.2.2.2.2.1 rfl hq) rfl rfl rfl hl.1 ⟨Nat.le_of_ble_eq_true rfl, Nat.le_of_ble_eq_true rfl⟩ (Nat.le_of_ble_eq_true rfl) dL_law_1094 hc) (fun H locs hU hS => ?_)
  refine lv_istore (lv' := [(6, .int q.2), (5, .int r.2), (4, .int i), (3, .ref (ad 6 0)), (2, .ref (ad 5 0)), (1, .ref (ad 0 0)), (0, .ref b)]) X.1 X.2.1 dL_law_1097 hl (by decide) rfl (fun ls hl => ?_)
  obtain ⟨hk, hf⟩ := k_ckE hf
  have hz9 := Option.some.inj hf
  subst hz9
  refine lv_aload_n X.1 X.2.1 dL_law_1099 rfl (lv_at hl 4 rfl) ?_
  refine k_backi X hS (k_runV (As := []) (rest := []) X hS hU sh_5_0 (by decide) rfl vl_L_113 (c_X11_thrown (w := q.1) X.2.2.2.2.2.2.1 (k_uc_s _ _ _) (show f_X11_thrown q.1 = some (q.1 0 0) from rfl)) rfl rfl rfl hl.1 ⟨Nat.le_of_ble_eq_true rfl, Nat.le_of_ble_eq_true rfl⟩ (Nat.le_of_ble_eq_true rfl) dL_law_1100 hc) (fun H locs hU hS => ?_)
  refine lv_iload X.1 X.2.1 dL_law_1103 (lv_at hl 1 rfl) ?_
  refine lv_icmp_eq (tgt := 1110) X.1 X.2.1 dL_law_1105 (by decide) (fun _ => ?_) (fun q9 => absurd hk.1 q9)
  refine lv_iload X.1 X.2.1 dL_law_1110 (lv_at hl 1 rfl) ?_
  refine lv_if_ne (tgt := 1127) X.1 X.2.1 dL_law_1112 (by decide) (fun _ => ?_) (fun h0 => ?_)
  · refine lv_goto (tgt := 2118) X.1 X.2.1 dL_law_1127 (by decide) ?_
    exact K _ _ _ hU hS (lv_sub hl [2, 3, 4, 5, 6] rfl)
  · refine lv_aload_n X.1 X.2.1 dL_law_1115 rfl (lv_at hl 3 rfl) ?_
    refine lv_iconst (v := 0) X.1 X.2.1 dL_law_1116 (by decide) ?_
    refine k_jld sh_6_0 X hU dL_law_1117 ?_
    refine lv_iload X.1 X.2.1 dL_law_1118 (lv_at hl 0 rfl) ?_
    refine lv_i2l (v := q.2.toInt64) X.1 X.2.1 dL_law_1120 rfl ?_
    refine W.lcmp X.1 X.2.1 dL_law_1121 ?_
    refine lv_if_eq (tgt := 1127) X.1 X.2.1 dL_law_1122 (by decide) (fun _ => ?_) (fun q9 => absurd (kL_cmp0 (hk.2 h0)) q9)
    refine lv_goto (tgt := 2118) X.1 X.2.1 dL_law_1127 (by decide) ?_
    exact K _ _ _ hU hS (lv_sub hl [2, 3, 4, 5, 6] rfl)
set_option maxRecDepth 100000 in
set_option maxHeartbeats 4000000 in
theorem kL_19 {p : Program} {l : Launch} {e : Env} {s : State} {m : MethodId} {args : Array Value} {below : List Frame} {meth : Method} {c : Code} {H : Heap} {locs : List Loc} {cells slots : Nat} {Q : State → Prop} {D : va_G} {G : Nat → ClassId} {ad : Nat → Nat → Nat} {sz : Nat} {u u' : k_U} {b L : Nat} {xs : Nat → Int32} {i : Int32} {ls : Array Slot} (hlT : l.stackTraces = false) {d0 : Drawn} (hd0 : s.drawn.sameBut d0 lw_cs) (X0 : k_Cx p s m args c RL cL_law 9 D G ad sz) (hU : k_Uv D G ad u H) (hS : va_S (k_A ad sz) s.heap H locs) (hX : va_X b L xs s s.heap) (hbl : b < s.heap.size) (hbA : ¬ k_A ad sz b) (hl : lv_has ls 9 [(4, .int i), (3, .ref (ad 6 0)), (2, .ref (ad 5 0)), (1, .ref (ad 0 0)), (0, .ref b)]) (h1 : vp_in (i + 1) L) (h2 : vp_in (i + 2) L) (h3 : vp_in (i + 3) L) (h4 : vp_in (i + 4) L) (h5 : vp_in (i + 5) L) (hc : cells + 1 ≤ 601024 ∧ slots + 6 ≤ 7293034) (hf : kLsel 19 u (xs (i + 1).toNatClampNeg) (xs (i + 2).toNatClampNeg) (xs (i + 3).toNatClampNeg) (xs (i + 4).toNatClampNeg) (xs (i + 5).toNatClampNeg) = some u') (K : ∀ (d1 : Drawn), s.drawn.sameBut d1 lw_cs → ∀ (H : Heap) (locs : List Loc) (ls : Array Slot), k_Uv D G ad u' H → va_S (k_A ad sz) s.heap H locs → lv_has ls 9 [(4, .int i), (3, .ref (ad 6 0)), (2, .ref (ad 5 0)), (1, .ref (ad 0 0)), (0, .ref b)] → W p l e room_1 (s.setDrawn d1) m args below meth c H locs (cells + 1) (slots + 6) Q (F0 m 2118 ls [])) : W p l e room_1 (s.setDrawn d0) m args below meth c H locs cells slots Q (F0 m 1130 ls []) := by
  have hf : (k_bd (f_X10_share u) fun a => k_bd (f_X11_share (u 5)) fun q => k_ck (a = q.2) (some (k_uc u 5 q.1))) = some u' := hf
  obtain ⟨a, ha, hf⟩ := k_bdE hf
  obtain ⟨q, hq, hf⟩ := k_bdE hf
  obtain ⟨hk, hf⟩ := k_ckE hf
  have hz9 := Option.some.inj hf
  subst hz9
  refine lv_aload_n X0.1 X0.2.1 dL_law_1130 rfl (lv_at hl 3 rfl) ?_
  have X := k_Cxd X0 d0
  refine va_callfD hd0 (kL_runVD (As := []) (rest := []) X hS hU sh_0_0 (by decide) rfl vl_L_179 (c_X10_share X.2.2.2.2.2.2.1 ha) rfl rfl rfl hl.1 ⟨Nat.le_of_ble_eq_true rfl, Nat.le_of_ble_eq_true rfl⟩ (Nat.le_of_ble_eq_true rfl) dL_law_1131 ⟨Nat.le_trans (Nat.le_succ cells) hc.1, Nat.le_trans (Nat.le_add_right slots 6) hc.2⟩) hS (fun q _ h => k_Amono hS X.2.2.2.2.2.2.2.1 q h) (k_Amono hS X.2.2.2.2.2.2.2.1) (fun x1 v1 t1 H locs ht1 hvm1 hx1 hB1 hz1 hk1 hS d1 hd1 => ?_)
  rw [ht1] at hB1
  have hU : k_Uv D G ad u H := hB1
  have X := k_Cxd X0 d1
  refine lv_f2d_any hd1 lw_bits X0.1 X0.2.1 dL_law_1134 (fun p1 d2 hp1 hd2 => ?_)
  have X := k_Cxd X0 d2
  refine lv_dstore (lv' := [(5, .double p1), (4, .int i), (3, .ref (ad 6 0)), (2, .ref (ad 5 0)), (1, .ref (ad 0 0)), (0, .ref b)]) X0.1 X0.2.1 dL_law_1135 hl (by decide) rfl (fun ls hl => ?_)
  refine lv_aload_n X0.1 X0.2.1 dL_law_1137 rfl (lv_at hl 3 rfl) ?_
  refine va_callfD hd2 (kL_runVD (As := []) (rest := []) X hS hU sh_5_0 (by decide) rfl vl_L_183 (c_X11_share X.2.2.2.2.2.2.1 rfl hq) rfl rfl rfl hl.1 ⟨Nat.le_of_ble_eq_true rfl, Nat.le_of_ble_eq_true rfl⟩ (Nat.le_of_ble_eq_true rfl) dL_law_1138 ⟨Nat.le_trans (Nat.le_succ cells) hc.1, Nat.le_trans (Nat.le_add_right slots 6) hc.2⟩) hS (fun q _ h => k_Amono hS X.2.2.2.2.2.2.2.1 q h) (k_Amono hS X.2.2.2.2.2.2.2.1) (fun x2 v2 t2 H locs ht2 hvm2 hx2 hB2 hz2 hk2 hS d3 hd3 => ?_)
  rw [ht2] at hB2
  have hU : k_Uv D G ad (k_uc u 5 q.1) H := hB2
  refine lv_f2d_any hd3 lw_bits X0.1 X0.2.1 dL_law_1141 (fun p2 d4 hp2 hd4 => ?_)
  refine lv_dstore (lv' := [(7, .double p2), (5, .double p1), (4, .int i), (3, .ref (ad 6 0)), (2, .ref (ad 5 0)), (1, .ref (ad 0 0)), (0, .ref b)]) X0.1 X0.2.1 dL_law_1142 hl (by decide) rfl (fun ls hl => ?_)
  have hcmp := kF_share (q1 := a.1) (q2 := a.2) hx1 (by rw [hk]; exact hx2) hp1 hp2
  refine lv_dload X0.1 X0.2.1 dL_law_1144 (lv_at hl 1 rfl) ?_
  refine lv_dload X0.1 X0.2.1 dL_law_1146 (lv_at hl 0 rfl) ?_
  refine lv_dcmp X0.1 X0.2.1 dL_law_1148 ?_
  refine lv_if_eq (tgt := 1170) X0.1 X0.2.1 dL_law_1149 (by decide) (fun _ => ?_) (fun h0 => ?_)
  · refine lv_goto (tgt := 2118) X0.1 X0.2.1 dL_law_1170 (by decide) ?_
    refine W.widen (k := cells + 1) (n := slots + 6) (by omega) (by omega) ?_
    exact K _ hd4 _ _ _ hU hS (lv_sub hl [2, 3, 4, 5, 6] rfl)
  · have hcmp := hcmp.resolve_left h0
    refine lv_dload X0.1 X0.2.1 dL_law_1152 (lv_at hl 1 rfl) ?_
    refine lv_dload X0.1 X0.2.1 dL_law_1154 (lv_at hl 1 rfl) ?_
    refine lv_dcmp X0.1 X0.2.1 dL_law_1156 ?_
    refine lv_if_eq (tgt := 1168) X0.1 X0.2.1 dL_law_1157 (by decide) (fun q9 => absurd q9 hcmp.1) (fun _ => ?_)
    refine lv_dload X0.1 X0.2.1 dL_law_1160 (lv_at hl 0 rfl) ?_
    refine lv_dload X0.1 X0.2.1 dL_law_1162 (lv_at hl 0 rfl) ?_
    refine lv_dcmp X0.1 X0.2.1 dL_law_1164 ?_
    refine lv_if_ne (tgt := 1170) X0.1 X0.2.1 dL_law_1165 (by decide) (fun _ => ?_) (fun q9 => absurd q9 hcmp.2)
    refine lv_goto (tgt := 2118) X0.1 X0.2.1 dL_law_1170 (by decide) ?_
    refine W.widen (k := cells + 1) (n := slots + 6) (by omega) (by omega) ?_
    exact K _ hd4 _ _ _ hU hS (lv_sub hl [2, 3, 4, 5, 6] rfl)
set_option maxRecDepth 100000 in
set_option maxHeartbeats 4000000 in
theorem kL_20 {p : Program} {l : Launch} {e : Env} {s : State} {m : MethodId} {args : Array Value} {below : List Frame} {meth : Method} {c : Code} {H : Heap} {locs : List Loc} {cells slots : Nat} {Q : State → Prop} {D : va_G} {G : Nat → ClassId} {ad : Nat → Nat → Nat} {sz : Nat} {u u' : k_U} {b L : Nat} {xs : Nat → Int32} {i : Int32} {ls : Array Slot} (hlT : l.stackTraces = false) {d0 : Drawn} (hd0 : s.drawn.sameBut d0 lw_cs) (X0 : k_Cx p s m args c RL cL_law 9 D G ad sz) (hU : k_Uv D G ad u H) (hS : va_S (k_A ad sz) s.heap H locs) (hX : va_X b L xs s s.heap) (hbl : b < s.heap.size) (hbA : ¬ k_A ad sz b) (hl : lv_has ls 9 [(4, .int i), (3, .ref (ad 6 0)), (2, .ref (ad 5 0)), (1, .ref (ad 0 0)), (0, .ref b)]) (h1 : vp_in (i + 1) L) (h2 : vp_in (i + 2) L) (h3 : vp_in (i + 3) L) (h4 : vp_in (i + 4) L) (h5 : vp_in (i + 5) L) (hc : cells + 1 ≤ 601024 ∧ slots + 6 ≤ 7293034) (hf : kLsel 20 u (xs (i + 1).toNatClampNeg) (xs (i + 2).toNatClampNeg) (xs (i + 3).toNatClampNeg) (xs (i + 4).toNatClampNeg) (xs (i + 5).toNatClampNeg) = some u') (K : ∀ (d1 : Drawn), s.drawn.sameBut d1 lw_cs → ∀ (H : Heap) (locs : List Loc) (ls : Array Slot), k_Uv D G ad u' H → va_S (k_A ad sz) s.heap H locs → lv_has ls 9 [(4, .int i), (3, .ref (ad 6 0)), (2, .ref (ad 5 0)), (1, .ref (ad 0 0)), (0, .ref b)] → W p l e room_1 (s.setDrawn d1) m args below meth c H locs (cells + 1) (slots + 6) Q (F0 m 2118 ls [])) : W p l e room_1 (s.setDrawn d0) m args below meth c H locs cells slots Q (F0 m 1173 ls []) := by
  have hf : (k_bd (f_X10_meanSpeed u) fun a => k_bd (f_X11_meanSpeed (u 5)) fun q => k_ck (a = q.2) (some (k_uc u 5 q.1))) = some u' := hf
  obtain ⟨a, ha, hf⟩ := k_bdE hf
  obtain ⟨q, hq, hf⟩ := k_bdE hf
  obtain ⟨hk, hf⟩ := k_ckE hf
  have hz9 := Option.some.inj hf
  subst hz9
  refine lv_aload_n X0.1 X0.2.1 dL_law_1173 rfl (lv_at hl 3 rfl) ?_
  have X := k_Cxd X0 d0
  refine va_calldD hd0 (kL_runVD (As := []) (rest := []) X hS hU sh_0_0 (by decide) rfl vl_L_184 (c_X10_meanSpeed X.2.2.2.2.2.2.1 ha) rfl rfl rfl hl.1 ⟨Nat.le_of_ble_eq_true rfl, Nat.le_of_ble_eq_true rfl⟩ (Nat.le_of_ble_eq_true rfl) dL_law_1174 ⟨Nat.le_trans (Nat.le_succ cells) hc.1, Nat.le_trans (Nat.le_add_right slots 6) hc.2⟩) hS (fun q _ h => k_Amono hS X.2.2.2.2.2.2.2.1 q h) (k_Amono hS X.2.2.2.2.2.2.2.1) (fun x1 v1 t1 H locs ht1 hvm1 hx1 hB1 hz1 hk1 hS d1 hd1 => ?_)
  rw [ht1] at hB1
  have hU : k_Uv D G ad u H := hB1
  have X := k_Cxd X0 d1
  refine lv_dstore (lv' := [(5, .double x1), (4, .int i), (3, .ref (ad 6 0)), (2, .ref (ad 5 0)), (1, .ref (ad 0 0)), (0, .ref b)]) X0.1 X0.2.1 dL_law_1177 hl (by decide) rfl (fun ls hl => ?_)
  refine lv_aload_n X0.1 X0.2.1 dL_law_1179 rfl (lv_at hl 3 rfl) ?_
  refine va_calldD hd1 (kL_runVD (As := []) (rest := []) X hS hU sh_5_0 (by decide) rfl vl_L_188 (c_X11_meanSpeed X.2.2.2.2.2.2.1 rfl hq) rfl rfl rfl hl.1 ⟨Nat.le_of_ble_eq_true rfl, Nat.le_of_ble_eq_true rfl⟩ (Nat.le_of_ble_eq_true rfl) dL_law_1180 ⟨Nat.le_trans (Nat.le_succ cells) hc.1, Nat.le_trans (Nat.le_add_right slots 6) hc.2⟩) hS (fun q _ h => k_Amono hS X.2.2.2.2.2.2.2.1 q h) (k_Amono hS X.2.2.2.2.2.2.2.1) (fun x2 v2 t2 H locs ht2 hvm2 hx2 hB2 hz2 hk2 hS d3 hd3 => ?_)
  rw [ht2] at hB2
  have hU : k_Uv D G ad (k_uc u 5 q.1) H := hB2
  refine lv_dstore (lv' := [(7, .double x2), (5, .double x1), (4, .int i), (3, .ref (ad 6 0)), (2, .ref (ad 5 0)), (1, .ref (ad 0 0)), (0, .ref b)]) X0.1 X0.2.1 dL_law_1183 hl (by decide) rfl (fun ls hl => ?_)
  have hcmp := kF_mean (q1 := a.1) (q2 := a.2) hx1 (by rw [hk]; exact hx2)
  refine lv_dload X0.1 X0.2.1 dL_law_1185 (lv_at hl 1 rfl) ?_
  refine lv_dload X0.1 X0.2.1 dL_law_1187 (lv_at hl 0 rfl) ?_
  refine lv_dcmp X0.1 X0.2.1 dL_law_1189 ?_
  refine lv_if_eq (tgt := 1211) X0.1 X0.2.1 dL_law_1190 (by decide) (fun _ => ?_) (fun h0 => ?_)
  · refine lv_goto (tgt := 2118) X0.1 X0.2.1 dL_law_1211 (by decide) ?_
    refine W.widen (k := cells + 1) (n := slots + 6) (by omega) (by omega) ?_
    exact K _ hd3 _ _ _ hU hS (lv_sub hl [2, 3, 4, 5, 6] rfl)
  · have hcmp := hcmp.resolve_left h0
    refine lv_dload X0.1 X0.2.1 dL_law_1193 (lv_at hl 1 rfl) ?_
    refine lv_dload X0.1 X0.2.1 dL_law_1195 (lv_at hl 1 rfl) ?_
    refine lv_dcmp X0.1 X0.2.1 dL_law_1197 ?_
    refine lv_if_eq (tgt := 1209) X0.1 X0.2.1 dL_law_1198 (by decide) (fun q9 => absurd q9 hcmp.1) (fun _ => ?_)
    refine lv_dload X0.1 X0.2.1 dL_law_1201 (lv_at hl 0 rfl) ?_
    refine lv_dload X0.1 X0.2.1 dL_law_1203 (lv_at hl 0 rfl) ?_
    refine lv_dcmp X0.1 X0.2.1 dL_law_1205 ?_
    refine lv_if_ne (tgt := 1211) X0.1 X0.2.1 dL_law_1206 (by decide) (fun _ => ?_) (fun q9 => absurd q9 hcmp.2)
    refine lv_goto (tgt := 2118) X0.1 X0.2.1 dL_law_1211 (by decide) ?_
    refine W.widen (k := cells + 1) (n := slots + 6) (by omega) (by omega) ?_
    exact K _ hd3 _ _ _ hU hS (lv_sub hl [2, 3, 4, 5, 6] rfl)
set_option maxRecDepth 100000 in
set_option maxHeartbeats 4000000 in
theorem kL_21 {p : Program} {l : Launch} {e : Env} {s : State} {m : MethodId} {args : Array Value} {below : List Frame} {meth : Method} {c : Code} {H : Heap} {locs : List Loc} {cells slots : Nat} {Q : State → Prop} {D : va_G} {G : Nat → ClassId} {ad : Nat → Nat → Nat} {sz : Nat} {u u' : k_U} {b L : Nat} {xs : Nat → Int32} {i : Int32} {ls : Array Slot} (hlT : l.stackTraces = false) (X : k_Cx p s m args c RL cL_law 9 D G ad sz) (hU : k_Uv D G ad u H) (hS : va_S (k_A ad sz) s.heap H locs) (hX : va_X b L xs s s.heap) (hbl : b < s.heap.size) (hbA : ¬ k_A ad sz b) (hl : lv_has ls 9 [(4, .int i), (3, .ref (ad 6 0)), (2, .ref (ad 5 0)), (1, .ref (ad 0 0)), (0, .ref b)]) (h1 : vp_in (i + 1) L) (h2 : vp_in (i + 2) L) (h3 : vp_in (i + 3) L) (h4 : vp_in (i + 4) L) (h5 : vp_in (i + 5) L) (hc : cells + 1 ≤ 601024 ∧ slots + 6 ≤ 7293034) (hf : kLsel 21 u (xs (i + 1).toNatClampNeg) (xs (i + 2).toNatClampNeg) (xs (i + 3).toNatClampNeg) (xs (i + 4).toNatClampNeg) (xs (i + 5).toNatClampNeg) = some u') (K : ∀ (H : Heap) (locs : List Loc) (ls : Array Slot), k_Uv D G ad u' H → va_S (k_A ad sz) s.heap H locs → lv_has ls 9 [(4, .int i), (3, .ref (ad 6 0)), (2, .ref (ad 5 0)), (1, .ref (ad 0 0)), (0, .ref b)] → W p l e room_1 s m args below meth c H locs (cells + 1) (slots + 6) Q (F0 m 2118 ls [])) : W p l e room_1 s m args below meth c H locs cells slots Q (F0 m 1214 ls []) := by
  have hf : (k_bd (f_X10_landIn u) fun r => k_bd (f_X11_landIn (r.1 5)) fun q => k_ck (r.2 = q.2) (some (k_uc r.1 5 q.1))) = some u' := hf
  refine lv_aload_n X.1 X.2.1 dL_law_1214 rfl (lv_at hl 3 rfl) ?_
  obtain ⟨r, hr, hf⟩ := k_bdE hf
  refine k_backi X hS (k_runV (As := []) (rest := []) X hS hU sh_0_0 (by decide) rfl vl_L_189 (c_X10_landIn X.2.2.2.2.2.2.1 hr) rfl rfl rfl hl.1 ⟨Nat.le_of_ble_eq_true rfl, Nat.le_of_ble_eq_true rfl⟩ (Nat.le_of_ble_eq_true rfl) dL_law_1215 ⟨Nat.le_trans (Nat.le_succ cells) hc.1, Nat.le_trans (Nat.le_add_right slots 6) hc.2⟩) (fun H locs hU hS => ?_)
  refine lv_aload_n X.1 X.2.1 dL_law_1218 rfl (lv_at hl 2 rfl) ?_
  obtain ⟨q, hq, hf⟩ := k_bdE hf
  refine k_backi X hS (k_runV (As := []) (rest := [.int r.2]) X hS hU sh_5_0 (by decide) rfl vl_L_192 (c_X11_landIn X.2.2.2.2.2.2.1 rfl hq) rfl rfl rfl hl.1 ⟨Nat.le_of_ble_eq_true rfl, Nat.le_of_ble_eq_true rfl⟩ (Nat.le_of_ble_eq_true rfl) dL_law_1219 ⟨Nat.le_trans (Nat.le_succ cells) hc.1, Nat.le_trans (Nat.le_add_right slots 6) hc.2⟩) (fun H locs hU hS => ?_)
  obtain ⟨hk, hf⟩ := k_ckE hf
  have hz9 := Option.some.inj hf
  subst hz9
  refine lv_icmp_eq (tgt := 2118) X.1 X.2.1 dL_law_1222 (by decide) (fun _ => ?_) (fun q9 => absurd hk q9)
  refine W.widen (k := cells + 1) (n := slots + 6) (by omega) (by omega) ?_
  exact K _ _ _ hU hS (lv_sub hl [0, 1, 2, 3, 4] rfl)
set_option maxRecDepth 100000 in
set_option maxHeartbeats 4000000 in
theorem kL_22 {p : Program} {l : Launch} {e : Env} {s : State} {m : MethodId} {args : Array Value} {below : List Frame} {meth : Method} {c : Code} {H : Heap} {locs : List Loc} {cells slots : Nat} {Q : State → Prop} {D : va_G} {G : Nat → ClassId} {ad : Nat → Nat → Nat} {sz : Nat} {u u' : k_U} {b L : Nat} {xs : Nat → Int32} {i : Int32} {ls : Array Slot} (hlT : l.stackTraces = false) (X : k_Cx p s m args c RL cL_law 9 D G ad sz) (hU : k_Uv D G ad u H) (hS : va_S (k_A ad sz) s.heap H locs) (hX : va_X b L xs s s.heap) (hbl : b < s.heap.size) (hbA : ¬ k_A ad sz b) (hl : lv_has ls 9 [(4, .int i), (3, .ref (ad 6 0)), (2, .ref (ad 5 0)), (1, .ref (ad 0 0)), (0, .ref b)]) (h1 : vp_in (i + 1) L) (h2 : vp_in (i + 2) L) (h3 : vp_in (i + 3) L) (h4 : vp_in (i + 4) L) (h5 : vp_in (i + 5) L) (hc : cells + 1 ≤ 601024 ∧ slots + 6 ≤ 7293034) (hf : kLsel 22 u (xs (i + 1).toNatClampNeg) (xs (i + 2).toNatClampNeg) (xs (i + 3).toNatClampNeg) (xs (i + 4).toNatClampNeg) (xs (i + 5).toNatClampNeg) = some u') (K : ∀ (H : Heap) (locs : List Loc) (ls : Array Slot), k_Uv D G ad u' H → va_S (k_A ad sz) s.heap H locs → lv_has ls 9 [(4, .int i), (3, .ref (ad 6 0)), (2, .ref (ad 5 0)), (1, .ref (ad 0 0)), (0, .ref b)] → W p l e room_1 s m args below meth c H locs (cells + 1) (slots + 6) Q (F0 m 2118 ls [])) : W p l e room_1 s m args below meth c H locs cells slots Q (F0 m 1227 ls []) := by
  have hf : (k_bd (f_L_landAt u ) fun r => k_bd (f_X11_landAt (r.1 5) ) fun q => kLck r q) = some u' := hf
  refine lv_aload_n X.1 X.2.1 dL_law_1227 rfl (lv_at hl 3 rfl) ?_
  refine lv_aload_n X.1 X.2.1 dL_law_1228 rfl (lv_at hl 1 rfl) ?_
  obtain ⟨r, hr, hf⟩ := k_bdE hf
  refine kL_backi X hS (kL_runSW (As := [.ref (ad 0 0), .ref (ad 6 0)]) (rest := []) X hS hU slw_L_193 (c_L_landAt X.2.2.2.2.2.2.1 hlT hr) rfl rfl rfl hl.1 ⟨Nat.le_of_ble_eq_true rfl, Nat.le_of_ble_eq_true rfl⟩ (Nat.le_of_ble_eq_true rfl) dL_law_1229 hc) (fun H locs hU hS => ?_)
  refine lv_istore (lv' := [(5, .int r.2), (4, .int i), (3, .ref (ad 6 0)), (2, .ref (ad 5 0)), (1, .ref (ad 0 0)), (0, .ref b)]) X.1 X.2.1 dL_law_1232 hl (by decide) rfl (fun ls hl => ?_)
  refine lv_aload_n X.1 X.2.1 dL_law_1234 rfl (lv_at hl 3 rfl) ?_
  obtain ⟨q, hq, hf⟩ := k_bdE hf
  refine k_backi X hS (k_runV (As := []) (rest := []) X hS hU sh_5_0 (by decide) rfl vl_L_196 (c_X11_landAt X.2.2.2.2.2.2.1 rfl hq) rfl rfl rfl hl.1 ⟨Nat.le_of_ble_eq_true rfl, Nat.le_of_ble_eq_true rfl⟩ (Nat.le_of_ble_eq_true rfl) dL_law_1235 hc) (fun H locs hU hS => ?_)
  refine lv_istore (lv' := [(6, .int q.2), (5, .int r.2), (4, .int i), (3, .ref (ad 6 0)), (2, .ref (ad 5 0)), (1, .ref (ad 0 0)), (0, .ref b)]) X.1 X.2.1 dL_law_1238 hl (by decide) rfl (fun ls hl => ?_)
  obtain ⟨hk, hf⟩ := k_ckE hf
  have hz9 := Option.some.inj hf
  subst hz9
  refine lv_aload_n X.1 X.2.1 dL_law_1240 rfl (lv_at hl 4 rfl) ?_
  refine k_backi X hS (k_runV (As := []) (rest := []) X hS hU sh_5_0 (by decide) rfl vl_L_113 (c_X11_thrown (w := q.1) X.2.2.2.2.2.2.1 (k_uc_s _ _ _) (show f_X11_thrown q.1 = some (q.1 0 0) from rfl)) rfl rfl rfl hl.1 ⟨Nat.le_of_ble_eq_true rfl, Nat.le_of_ble_eq_true rfl⟩ (Nat.le_of_ble_eq_true rfl) dL_law_1241 hc) (fun H locs hU hS => ?_)
  refine lv_iload X.1 X.2.1 dL_law_1244 (lv_at hl 1 rfl) ?_
  refine lv_icmp_eq (tgt := 1251) X.1 X.2.1 dL_law_1246 (by decide) (fun _ => ?_) (fun q9 => absurd hk.1 q9)
  refine lv_iload X.1 X.2.1 dL_law_1251 (lv_at hl 1 rfl) ?_
  refine lv_if_ne (tgt := 1268) X.1 X.2.1 dL_law_1253 (by decide) (fun _ => ?_) (fun h0 => ?_)
  · refine lv_goto (tgt := 2118) X.1 X.2.1 dL_law_1268 (by decide) ?_
    exact K _ _ _ hU hS (lv_sub hl [2, 3, 4, 5, 6] rfl)
  · refine lv_aload_n X.1 X.2.1 dL_law_1256 rfl (lv_at hl 3 rfl) ?_
    refine lv_iconst (v := 0) X.1 X.2.1 dL_law_1257 (by decide) ?_
    refine k_jld sh_6_0 X hU dL_law_1258 ?_
    refine lv_iload X.1 X.2.1 dL_law_1259 (lv_at hl 0 rfl) ?_
    refine lv_i2l (v := q.2.toInt64) X.1 X.2.1 dL_law_1261 rfl ?_
    refine W.lcmp X.1 X.2.1 dL_law_1262 ?_
    refine lv_if_eq (tgt := 1268) X.1 X.2.1 dL_law_1263 (by decide) (fun _ => ?_) (fun q9 => absurd (kL_cmp0 (hk.2 h0)) q9)
    refine lv_goto (tgt := 2118) X.1 X.2.1 dL_law_1268 (by decide) ?_
    exact K _ _ _ hU hS (lv_sub hl [2, 3, 4, 5, 6] rfl)
set_option maxRecDepth 100000 in
set_option maxHeartbeats 4000000 in
theorem kL_23 {p : Program} {l : Launch} {e : Env} {s : State} {m : MethodId} {args : Array Value} {below : List Frame} {meth : Method} {c : Code} {H : Heap} {locs : List Loc} {cells slots : Nat} {Q : State → Prop} {D : va_G} {G : Nat → ClassId} {ad : Nat → Nat → Nat} {sz : Nat} {u u' : k_U} {b L : Nat} {xs : Nat → Int32} {i : Int32} {ls : Array Slot} (hlT : l.stackTraces = false) (X : k_Cx p s m args c RL cL_law 9 D G ad sz) (hU : k_Uv D G ad u H) (hS : va_S (k_A ad sz) s.heap H locs) (hX : va_X b L xs s s.heap) (hbl : b < s.heap.size) (hbA : ¬ k_A ad sz b) (hl : lv_has ls 9 [(4, .int i), (3, .ref (ad 6 0)), (2, .ref (ad 5 0)), (1, .ref (ad 0 0)), (0, .ref b)]) (h1 : vp_in (i + 1) L) (h2 : vp_in (i + 2) L) (h3 : vp_in (i + 3) L) (h4 : vp_in (i + 4) L) (h5 : vp_in (i + 5) L) (hc : cells + 1 ≤ 601024 ∧ slots + 6 ≤ 7293034) (hf : kLsel 23 u (xs (i + 1).toNatClampNeg) (xs (i + 2).toNatClampNeg) (xs (i + 3).toNatClampNeg) (xs (i + 4).toNatClampNeg) (xs (i + 5).toNatClampNeg) = some u') (K : ∀ (H : Heap) (locs : List Loc) (ls : Array Slot), k_Uv D G ad u' H → va_S (k_A ad sz) s.heap H locs → lv_has ls 9 [(4, .int i), (3, .ref (ad 6 0)), (2, .ref (ad 5 0)), (1, .ref (ad 0 0)), (0, .ref b)] → W p l e room_1 s m args below meth c H locs (cells + 1) (slots + 6) Q (F0 m 2118 ls [])) : W p l e room_1 s m args below meth c H locs cells slots Q (F0 m 1271 ls []) := by
  have hf : (k_bd (f_X10_landSpeed u) fun r => k_bd (f_X11_landSpeed (r.1 5)) fun q => k_ck (r.2 = q.2) (some (k_uc r.1 5 q.1))) = some u' := hf
  refine lv_aload_n X.1 X.2.1 dL_law_1271 rfl (lv_at hl 3 rfl) ?_
  obtain ⟨r, hr, hf⟩ := k_bdE hf
  refine k_backi X hS (k_runV (As := []) (rest := []) X hS hU sh_0_0 (by decide) rfl vl_L_197 (c_X10_landSpeed X.2.2.2.2.2.2.1 hr) rfl rfl rfl hl.1 ⟨Nat.le_of_ble_eq_true rfl, Nat.le_of_ble_eq_true rfl⟩ (Nat.le_of_ble_eq_true rfl) dL_law_1272 ⟨Nat.le_trans (Nat.le_succ cells) hc.1, Nat.le_trans (Nat.le_add_right slots 6) hc.2⟩) (fun H locs hU hS => ?_)
  refine lv_aload_n X.1 X.2.1 dL_law_1275 rfl (lv_at hl 2 rfl) ?_
  obtain ⟨q, hq, hf⟩ := k_bdE hf
  refine k_backi X hS (k_runV (As := []) (rest := [.int r.2]) X hS hU sh_5_0 (by decide) rfl vl_L_200 (c_X11_landSpeed X.2.2.2.2.2.2.1 rfl hq) rfl rfl rfl hl.1 ⟨Nat.le_of_ble_eq_true rfl, Nat.le_of_ble_eq_true rfl⟩ (Nat.le_of_ble_eq_true rfl) dL_law_1276 ⟨Nat.le_trans (Nat.le_succ cells) hc.1, Nat.le_trans (Nat.le_add_right slots 6) hc.2⟩) (fun H locs hU hS => ?_)
  obtain ⟨hk, hf⟩ := k_ckE hf
  have hz9 := Option.some.inj hf
  subst hz9
  refine lv_icmp_eq (tgt := 2118) X.1 X.2.1 dL_law_1279 (by decide) (fun _ => ?_) (fun q9 => absurd hk q9)
  refine W.widen (k := cells + 1) (n := slots + 6) (by omega) (by omega) ?_
  exact K _ _ _ hU hS (lv_sub hl [0, 1, 2, 3, 4] rfl)
set_option maxRecDepth 100000 in
set_option maxHeartbeats 4000000 in
theorem kL_24 {p : Program} {l : Launch} {e : Env} {s : State} {m : MethodId} {args : Array Value} {below : List Frame} {meth : Method} {c : Code} {H : Heap} {locs : List Loc} {cells slots : Nat} {Q : State → Prop} {D : va_G} {G : Nat → ClassId} {ad : Nat → Nat → Nat} {sz : Nat} {u u' : k_U} {b L : Nat} {xs : Nat → Int32} {i : Int32} {ls : Array Slot} (hlT : l.stackTraces = false) (X : k_Cx p s m args c RL cL_law 9 D G ad sz) (hU : k_Uv D G ad u H) (hS : va_S (k_A ad sz) s.heap H locs) (hX : va_X b L xs s s.heap) (hbl : b < s.heap.size) (hbA : ¬ k_A ad sz b) (hl : lv_has ls 9 [(4, .int i), (3, .ref (ad 6 0)), (2, .ref (ad 5 0)), (1, .ref (ad 0 0)), (0, .ref b)]) (h1 : vp_in (i + 1) L) (h2 : vp_in (i + 2) L) (h3 : vp_in (i + 3) L) (h4 : vp_in (i + 4) L) (h5 : vp_in (i + 5) L) (hc : cells + 1 ≤ 601024 ∧ slots + 6 ≤ 7293034) (hf : kLsel 24 u (xs (i + 1).toNatClampNeg) (xs (i + 2).toNatClampNeg) (xs (i + 3).toNatClampNeg) (xs (i + 4).toNatClampNeg) (xs (i + 5).toNatClampNeg) = some u') (K : ∀ (H : Heap) (locs : List Loc) (ls : Array Slot), k_Uv D G ad u' H → va_S (k_A ad sz) s.heap H locs → lv_has ls 9 [(4, .int i), (3, .ref (ad 6 0)), (2, .ref (ad 5 0)), (1, .ref (ad 0 0)), (0, .ref b)] → W p l e room_1 s m args below meth c H locs (cells + 1) (slots + 6) Q (F0 m 2118 ls [])) : W p l e room_1 s m args below meth c H locs cells slots Q (F0 m 1284 ls []) := by
  have hf : (k_bd (f_X10_landResult u) fun r => k_bd (f_X11_landResult (r.1 5)) fun q => k_ck (r.2 = q.2) (some (k_uc r.1 5 q.1))) = some u' := hf
  refine lv_aload_n X.1 X.2.1 dL_law_1284 rfl (lv_at hl 3 rfl) ?_
  obtain ⟨r, hr, hf⟩ := k_bdE hf
  refine k_backi X hS (k_runV (As := []) (rest := []) X hS hU sh_0_0 (by decide) rfl vl_L_201 (c_X10_landResult X.2.2.2.2.2.2.1 hr) rfl rfl rfl hl.1 ⟨Nat.le_of_ble_eq_true rfl, Nat.le_of_ble_eq_true rfl⟩ (Nat.le_of_ble_eq_true rfl) dL_law_1285 ⟨Nat.le_trans (Nat.le_succ cells) hc.1, Nat.le_trans (Nat.le_add_right slots 6) hc.2⟩) (fun H locs hU hS => ?_)
  refine lv_aload_n X.1 X.2.1 dL_law_1288 rfl (lv_at hl 2 rfl) ?_
  obtain ⟨q, hq, hf⟩ := k_bdE hf
  refine k_backi X hS (k_runV (As := []) (rest := [.int r.2]) X hS hU sh_5_0 (by decide) rfl vl_L_204 (c_X11_landResult X.2.2.2.2.2.2.1 rfl hq) rfl rfl rfl hl.1 ⟨Nat.le_of_ble_eq_true rfl, Nat.le_of_ble_eq_true rfl⟩ (Nat.le_of_ble_eq_true rfl) dL_law_1289 ⟨Nat.le_trans (Nat.le_succ cells) hc.1, Nat.le_trans (Nat.le_add_right slots 6) hc.2⟩) (fun H locs hU hS => ?_)
  obtain ⟨hk, hf⟩ := k_ckE hf
  have hz9 := Option.some.inj hf
  subst hz9
  refine lv_icmp_eq (tgt := 2118) X.1 X.2.1 dL_law_1292 (by decide) (fun _ => ?_) (fun q9 => absurd hk q9)
  refine W.widen (k := cells + 1) (n := slots + 6) (by omega) (by omega) ?_
  exact K _ _ _ hU hS (lv_sub hl [0, 1, 2, 3, 4] rfl)
set_option maxRecDepth 100000 in
set_option maxHeartbeats 4000000 in
theorem kL_25 {p : Program} {l : Launch} {e : Env} {s : State} {m : MethodId} {args : Array Value} {below : List Frame} {meth : Method} {c : Code} {H : Heap} {locs : List Loc} {cells slots : Nat} {Q : State → Prop} {D : va_G} {G : Nat → ClassId} {ad : Nat → Nat → Nat} {sz : Nat} {u u' : k_U} {b L : Nat} {xs : Nat → Int32} {i : Int32} {ls : Array Slot} (hlT : l.stackTraces = false) (X : k_Cx p s m args c RL cL_law 9 D G ad sz) (hU : k_Uv D G ad u H) (hS : va_S (k_A ad sz) s.heap H locs) (hX : va_X b L xs s s.heap) (hbl : b < s.heap.size) (hbA : ¬ k_A ad sz b) (hl : lv_has ls 9 [(4, .int i), (3, .ref (ad 6 0)), (2, .ref (ad 5 0)), (1, .ref (ad 0 0)), (0, .ref b)]) (h1 : vp_in (i + 1) L) (h2 : vp_in (i + 2) L) (h3 : vp_in (i + 3) L) (h4 : vp_in (i + 4) L) (h5 : vp_in (i + 5) L) (hc : cells + 1 ≤ 601024 ∧ slots + 6 ≤ 7293034) (hf : kLsel 25 u (xs (i + 1).toNatClampNeg) (xs (i + 2).toNatClampNeg) (xs (i + 3).toNatClampNeg) (xs (i + 4).toNatClampNeg) (xs (i + 5).toNatClampNeg) = some u') (K : ∀ (H : Heap) (locs : List Loc) (ls : Array Slot), k_Uv D G ad u' H → va_S (k_A ad sz) s.heap H locs → lv_has ls 9 [(4, .int i), (3, .ref (ad 6 0)), (2, .ref (ad 5 0)), (1, .ref (ad 0 0)), (0, .ref b)] → W p l e room_1 s m args below meth c H locs (cells + 1) (slots + 6) Q (F0 m 2118 ls [])) : W p l e room_1 s m args below meth c H locs cells slots Q (F0 m 1297 ls []) := by
  have hf : (k_bd (f_L_failsIn u (xs (i + 1).toNatClampNeg)) fun r => k_bd (f_X11_failsIn (r.1 5) (xs (i + 1).toNatClampNeg)) fun q => kLck r q) = some u' := hf
  refine lv_aload_n X.1 X.2.1 dL_law_1297 rfl (lv_at hl 3 rfl) ?_
  refine lv_aload_n X.1 X.2.1 dL_law_1298 rfl (lv_at hl 4 rfl) ?_
  refine lv_iload X.1 X.2.1 dL_law_1299 (lv_at hl 0 rfl) ?_
  refine lv_iconst (v := 1) X.1 X.2.1 dL_law_1301 (by decide) ?_
  refine lv_iadd X.1 X.2.1 dL_law_1302 ?_
  refine va_sld X.1 X.2.1 hX hbl hbA hS h1 dL_law_1303 ?_
  refine lv_aload_n X.1 X.2.1 dL_law_1304 rfl (lv_at hl 1 rfl) ?_
  obtain ⟨r, hr, hf⟩ := k_bdE hf
  refine kL_backi X hS (kL_runSW (As := [.ref (ad 0 0), .int (xs (i + 1).toNatClampNeg), .ref (ad 6 0)]) (rest := []) X hS hU slw_L_205 (c_L_failsIn X.2.2.2.2.2.2.1 hlT hr) rfl rfl rfl hl.1 ⟨Nat.le_of_ble_eq_true rfl, Nat.le_of_ble_eq_true rfl⟩ (Nat.le_of_ble_eq_true rfl) dL_law_1305 hc) (fun H locs hU hS => ?_)
  refine lv_istore (lv' := [(5, .int r.2), (4, .int i), (3, .ref (ad 6 0)), (2, .ref (ad 5 0)), (1, .ref (ad 0 0)), (0, .ref b)]) X.1 X.2.1 dL_law_1308 hl (by decide) rfl (fun ls hl => ?_)
  refine lv_aload_n X.1 X.2.1 dL_law_1310 rfl (lv_at hl 3 rfl) ?_
  refine lv_aload_n X.1 X.2.1 dL_law_1311 rfl (lv_at hl 5 rfl) ?_
  refine lv_iload X.1 X.2.1 dL_law_1312 (lv_at hl 1 rfl) ?_
  refine lv_iconst (v := 1) X.1 X.2.1 dL_law_1314 (by decide) ?_
  refine lv_iadd X.1 X.2.1 dL_law_1315 ?_
  refine va_sld X.1 X.2.1 hX hbl hbA hS h1 dL_law_1316 ?_
  obtain ⟨q, hq, hf⟩ := k_bdE hf
  refine k_backi X hS (k_runV (As := [.int (xs (i + 1).toNatClampNeg)]) (rest := []) X hS hU sh_5_0 (by decide) rfl vl_L_207 (c_X11_failsIn X.2.2.2.2.2.2.1 rfl hq) rfl rfl rfl hl.1 ⟨Nat.le_of_ble_eq_true rfl, Nat.le_of_ble_eq_true rfl⟩ (Nat.le_of_ble_eq_true rfl) dL_law_1317 hc) (fun H locs hU hS => ?_)
  refine lv_istore (lv' := [(6, .int q.2), (5, .int r.2), (4, .int i), (3, .ref (ad 6 0)), (2, .ref (ad 5 0)), (1, .ref (ad 0 0)), (0, .ref b)]) X.1 X.2.1 dL_law_1320 hl (by decide) rfl (fun ls hl => ?_)
  obtain ⟨hk, hf⟩ := k_ckE hf
  have hz9 := Option.some.inj hf
  subst hz9
  refine lv_aload_n X.1 X.2.1 dL_law_1322 rfl (lv_at hl 4 rfl) ?_
  refine k_backi X hS (k_runV (As := []) (rest := []) X hS hU sh_5_0 (by decide) rfl vl_L_113 (c_X11_thrown (w := q.1) X.2.2.2.2.2.2.1 (k_uc_s _ _ _) (show f_X11_thrown q.1 = some (q.1 0 0) from rfl)) rfl rfl rfl hl.1 ⟨Nat.le_of_ble_eq_true rfl, Nat.le_of_ble_eq_true rfl⟩ (Nat.le_of_ble_eq_true rfl) dL_law_1323 hc) (fun H locs hU hS => ?_)
  refine lv_iload X.1 X.2.1 dL_law_1326 (lv_at hl 1 rfl) ?_
  refine lv_icmp_eq (tgt := 1333) X.1 X.2.1 dL_law_1328 (by decide) (fun _ => ?_) (fun q9 => absurd hk.1 q9)
  refine lv_iload X.1 X.2.1 dL_law_1333 (lv_at hl 1 rfl) ?_
  refine lv_if_ne (tgt := 1350) X.1 X.2.1 dL_law_1335 (by decide) (fun _ => ?_) (fun h0 => ?_)
  · refine lv_goto (tgt := 2118) X.1 X.2.1 dL_law_1350 (by decide) ?_
    exact K _ _ _ hU hS (lv_sub hl [2, 3, 4, 5, 6] rfl)
  · refine lv_aload_n X.1 X.2.1 dL_law_1338 rfl (lv_at hl 3 rfl) ?_
    refine lv_iconst (v := 0) X.1 X.2.1 dL_law_1339 (by decide) ?_
    refine k_jld sh_6_0 X hU dL_law_1340 ?_
    refine lv_iload X.1 X.2.1 dL_law_1341 (lv_at hl 0 rfl) ?_
    refine lv_i2l (v := q.2.toInt64) X.1 X.2.1 dL_law_1343 rfl ?_
    refine W.lcmp X.1 X.2.1 dL_law_1344 ?_
    refine lv_if_eq (tgt := 1350) X.1 X.2.1 dL_law_1345 (by decide) (fun _ => ?_) (fun q9 => absurd (kL_cmp0 (hk.2 h0)) q9)
    refine lv_goto (tgt := 2118) X.1 X.2.1 dL_law_1350 (by decide) ?_
    exact K _ _ _ hU hS (lv_sub hl [2, 3, 4, 5, 6] rfl)
set_option maxRecDepth 100000 in
set_option maxHeartbeats 4000000 in
theorem kL_26 {p : Program} {l : Launch} {e : Env} {s : State} {m : MethodId} {args : Array Value} {below : List Frame} {meth : Method} {c : Code} {H : Heap} {locs : List Loc} {cells slots : Nat} {Q : State → Prop} {D : va_G} {G : Nat → ClassId} {ad : Nat → Nat → Nat} {sz : Nat} {u u' : k_U} {b L : Nat} {xs : Nat → Int32} {i : Int32} {ls : Array Slot} (hlT : l.stackTraces = false) (X : k_Cx p s m args c RL cL_law 9 D G ad sz) (hU : k_Uv D G ad u H) (hS : va_S (k_A ad sz) s.heap H locs) (hX : va_X b L xs s s.heap) (hbl : b < s.heap.size) (hbA : ¬ k_A ad sz b) (hl : lv_has ls 9 [(4, .int i), (3, .ref (ad 6 0)), (2, .ref (ad 5 0)), (1, .ref (ad 0 0)), (0, .ref b)]) (h1 : vp_in (i + 1) L) (h2 : vp_in (i + 2) L) (h3 : vp_in (i + 3) L) (h4 : vp_in (i + 4) L) (h5 : vp_in (i + 5) L) (hc : cells + 1 ≤ 601024 ∧ slots + 6 ≤ 7293034) (hf : kLsel 26 u (xs (i + 1).toNatClampNeg) (xs (i + 2).toNatClampNeg) (xs (i + 3).toNatClampNeg) (xs (i + 4).toNatClampNeg) (xs (i + 5).toNatClampNeg) = some u') (K : ∀ (H : Heap) (locs : List Loc) (ls : Array Slot), k_Uv D G ad u' H → va_S (k_A ad sz) s.heap H locs → lv_has ls 9 [(4, .int i), (3, .ref (ad 6 0)), (2, .ref (ad 5 0)), (1, .ref (ad 0 0)), (0, .ref b)] → W p l e room_1 s m args below meth c H locs (cells + 1) (slots + 6) Q (F0 m 2118 ls [])) : W p l e room_1 s m args below meth c H locs cells slots Q (F0 m 1353 ls []) := by
  have hf : (k_bd (f_X10_reserveIn u) fun r => k_bd (f_X11_reserveIn (r.1 5)) fun q => k_ck (r.2 = q.2) (some (k_uc r.1 5 q.1))) = some u' := hf
  refine lv_aload_n X.1 X.2.1 dL_law_1353 rfl (lv_at hl 3 rfl) ?_
  obtain ⟨r, hr, hf⟩ := k_bdE hf
  refine k_backi X hS (k_runV (As := []) (rest := []) X hS hU sh_0_0 (by decide) rfl vl_L_208 (c_X10_reserveIn X.2.2.2.2.2.2.1 hr) rfl rfl rfl hl.1 ⟨Nat.le_of_ble_eq_true rfl, Nat.le_of_ble_eq_true rfl⟩ (Nat.le_of_ble_eq_true rfl) dL_law_1354 ⟨Nat.le_trans (Nat.le_succ cells) hc.1, Nat.le_trans (Nat.le_add_right slots 6) hc.2⟩) (fun H locs hU hS => ?_)
  refine lv_aload_n X.1 X.2.1 dL_law_1357 rfl (lv_at hl 2 rfl) ?_
  obtain ⟨q, hq, hf⟩ := k_bdE hf
  refine k_backi X hS (k_runV (As := []) (rest := [.int r.2]) X hS hU sh_5_0 (by decide) rfl vl_L_211 (c_X11_reserveIn X.2.2.2.2.2.2.1 rfl hq) rfl rfl rfl hl.1 ⟨Nat.le_of_ble_eq_true rfl, Nat.le_of_ble_eq_true rfl⟩ (Nat.le_of_ble_eq_true rfl) dL_law_1358 ⟨Nat.le_trans (Nat.le_succ cells) hc.1, Nat.le_trans (Nat.le_add_right slots 6) hc.2⟩) (fun H locs hU hS => ?_)
  obtain ⟨hk, hf⟩ := k_ckE hf
  have hz9 := Option.some.inj hf
  subst hz9
  refine lv_icmp_eq (tgt := 2118) X.1 X.2.1 dL_law_1361 (by decide) (fun _ => ?_) (fun q9 => absurd hk q9)
  refine W.widen (k := cells + 1) (n := slots + 6) (by omega) (by omega) ?_
  exact K _ _ _ hU hS (lv_sub hl [0, 1, 2, 3, 4] rfl)
set_option maxRecDepth 100000 in
set_option maxHeartbeats 4000000 in
theorem kL_27 {p : Program} {l : Launch} {e : Env} {s : State} {m : MethodId} {args : Array Value} {below : List Frame} {meth : Method} {c : Code} {H : Heap} {locs : List Loc} {cells slots : Nat} {Q : State → Prop} {D : va_G} {G : Nat → ClassId} {ad : Nat → Nat → Nat} {sz : Nat} {u u' : k_U} {b L : Nat} {xs : Nat → Int32} {i : Int32} {ls : Array Slot} (hlT : l.stackTraces = false) (X : k_Cx p s m args c RL cL_law 9 D G ad sz) (hU : k_Uv D G ad u H) (hS : va_S (k_A ad sz) s.heap H locs) (hX : va_X b L xs s s.heap) (hbl : b < s.heap.size) (hbA : ¬ k_A ad sz b) (hl : lv_has ls 9 [(4, .int i), (3, .ref (ad 6 0)), (2, .ref (ad 5 0)), (1, .ref (ad 0 0)), (0, .ref b)]) (h1 : vp_in (i + 1) L) (h2 : vp_in (i + 2) L) (h3 : vp_in (i + 3) L) (h4 : vp_in (i + 4) L) (h5 : vp_in (i + 5) L) (hc : cells + 1 ≤ 601024 ∧ slots + 6 ≤ 7293034) (hf : kLsel 27 u (xs (i + 1).toNatClampNeg) (xs (i + 2).toNatClampNeg) (xs (i + 3).toNatClampNeg) (xs (i + 4).toNatClampNeg) (xs (i + 5).toNatClampNeg) = some u') (K : ∀ (H : Heap) (locs : List Loc) (ls : Array Slot), k_Uv D G ad u' H → va_S (k_A ad sz) s.heap H locs → lv_has ls 9 [(4, .int i), (3, .ref (ad 6 0)), (2, .ref (ad 5 0)), (1, .ref (ad 0 0)), (0, .ref b)] → W p l e room_1 s m args below meth c H locs (cells + 1) (slots + 6) Q (F0 m 2118 ls [])) : W p l e room_1 s m args below meth c H locs cells slots Q (F0 m 1366 ls []) := by
  have hf : (k_bd (f_X10_hottest u) fun r => k_bd (f_X11_hottest (r.1 5)) fun q => k_ck (r.2 = q.2) (some (k_uc r.1 5 q.1))) = some u' := hf
  refine lv_aload_n X.1 X.2.1 dL_law_1366 rfl (lv_at hl 3 rfl) ?_
  obtain ⟨r, hr, hf⟩ := k_bdE hf
  refine k_backi X hS (k_runV (As := []) (rest := []) X hS hU sh_0_0 (by decide) rfl vl_L_212 (c_X10_hottest X.2.2.2.2.2.2.1 hr) rfl rfl rfl hl.1 ⟨Nat.le_of_ble_eq_true rfl, Nat.le_of_ble_eq_true rfl⟩ (Nat.le_of_ble_eq_true rfl) dL_law_1367 ⟨Nat.le_trans (Nat.le_succ cells) hc.1, Nat.le_trans (Nat.le_add_right slots 6) hc.2⟩) (fun H locs hU hS => ?_)
  refine lv_aload_n X.1 X.2.1 dL_law_1370 rfl (lv_at hl 2 rfl) ?_
  obtain ⟨q, hq, hf⟩ := k_bdE hf
  refine k_backi X hS (k_runV (As := []) (rest := [.int r.2]) X hS hU sh_5_0 (by decide) rfl vl_L_215 (c_X11_hottest X.2.2.2.2.2.2.1 rfl hq) rfl rfl rfl hl.1 ⟨Nat.le_of_ble_eq_true rfl, Nat.le_of_ble_eq_true rfl⟩ (Nat.le_of_ble_eq_true rfl) dL_law_1371 ⟨Nat.le_trans (Nat.le_succ cells) hc.1, Nat.le_trans (Nat.le_add_right slots 6) hc.2⟩) (fun H locs hU hS => ?_)
  obtain ⟨hk, hf⟩ := k_ckE hf
  have hz9 := Option.some.inj hf
  subst hz9
  refine lv_icmp_eq (tgt := 2118) X.1 X.2.1 dL_law_1374 (by decide) (fun _ => ?_) (fun q9 => absurd hk q9)
  refine W.widen (k := cells + 1) (n := slots + 6) (by omega) (by omega) ?_
  exact K _ _ _ hU hS (lv_sub hl [0, 1, 2, 3, 4] rfl)
set_option maxRecDepth 100000 in
set_option maxHeartbeats 4000000 in
theorem kL_28 {p : Program} {l : Launch} {e : Env} {s : State} {m : MethodId} {args : Array Value} {below : List Frame} {meth : Method} {c : Code} {H : Heap} {locs : List Loc} {cells slots : Nat} {Q : State → Prop} {D : va_G} {G : Nat → ClassId} {ad : Nat → Nat → Nat} {sz : Nat} {u u' : k_U} {b L : Nat} {xs : Nat → Int32} {i : Int32} {ls : Array Slot} (hlT : l.stackTraces = false) (X : k_Cx p s m args c RL cL_law 9 D G ad sz) (hU : k_Uv D G ad u H) (hS : va_S (k_A ad sz) s.heap H locs) (hX : va_X b L xs s s.heap) (hbl : b < s.heap.size) (hbA : ¬ k_A ad sz b) (hl : lv_has ls 9 [(4, .int i), (3, .ref (ad 6 0)), (2, .ref (ad 5 0)), (1, .ref (ad 0 0)), (0, .ref b)]) (h1 : vp_in (i + 1) L) (h2 : vp_in (i + 2) L) (h3 : vp_in (i + 3) L) (h4 : vp_in (i + 4) L) (h5 : vp_in (i + 5) L) (hc : cells + 1 ≤ 601024 ∧ slots + 6 ≤ 7293034) (hf : kLsel 28 u (xs (i + 1).toNatClampNeg) (xs (i + 2).toNatClampNeg) (xs (i + 3).toNatClampNeg) (xs (i + 4).toNatClampNeg) (xs (i + 5).toNatClampNeg) = some u') (K : ∀ (H : Heap) (locs : List Loc) (ls : Array Slot), k_Uv D G ad u' H → va_S (k_A ad sz) s.heap H locs → lv_has ls 9 [(4, .int i), (3, .ref (ad 6 0)), (2, .ref (ad 5 0)), (1, .ref (ad 0 0)), (0, .ref b)] → W p l e room_1 s m args below meth c H locs (cells + 1) (slots + 6) Q (F0 m 2118 ls [])) : W p l e room_1 s m args below meth c H locs cells slots Q (F0 m 1379 ls []) := by
  have hf : (k_bd (f_L_bestSlip u (xs (i + 1).toNatClampNeg)) fun r => k_bd (f_X11_bestSlip (r.1 5) (xs (i + 1).toNatClampNeg)) fun q => kLck r q) = some u' := hf
  refine lv_aload_n X.1 X.2.1 dL_law_1379 rfl (lv_at hl 3 rfl) ?_
  refine lv_aload_n X.1 X.2.1 dL_law_1380 rfl (lv_at hl 4 rfl) ?_
  refine lv_iload X.1 X.2.1 dL_law_1381 (lv_at hl 0 rfl) ?_
  refine lv_iconst (v := 1) X.1 X.2.1 dL_law_1383 (by decide) ?_
  refine lv_iadd X.1 X.2.1 dL_law_1384 ?_
  refine va_sld X.1 X.2.1 hX hbl hbA hS h1 dL_law_1385 ?_
  refine lv_aload_n X.1 X.2.1 dL_law_1386 rfl (lv_at hl 1 rfl) ?_
  obtain ⟨r, hr, hf⟩ := k_bdE hf
  refine kL_backi X hS (kL_runSW (As := [.ref (ad 0 0), .int (xs (i + 1).toNatClampNeg), .ref (ad 6 0)]) (rest := []) X hS hU slw_L_216 (c_L_bestSlip X.2.2.2.2.2.2.1 hlT hr) rfl rfl rfl hl.1 ⟨Nat.le_of_ble_eq_true rfl, Nat.le_of_ble_eq_true rfl⟩ (Nat.le_of_ble_eq_true rfl) dL_law_1387 hc) (fun H locs hU hS => ?_)
  refine lv_istore (lv' := [(5, .int r.2), (4, .int i), (3, .ref (ad 6 0)), (2, .ref (ad 5 0)), (1, .ref (ad 0 0)), (0, .ref b)]) X.1 X.2.1 dL_law_1390 hl (by decide) rfl (fun ls hl => ?_)
  refine lv_aload_n X.1 X.2.1 dL_law_1392 rfl (lv_at hl 3 rfl) ?_
  refine lv_aload_n X.1 X.2.1 dL_law_1393 rfl (lv_at hl 5 rfl) ?_
  refine lv_iload X.1 X.2.1 dL_law_1394 (lv_at hl 1 rfl) ?_
  refine lv_iconst (v := 1) X.1 X.2.1 dL_law_1396 (by decide) ?_
  refine lv_iadd X.1 X.2.1 dL_law_1397 ?_
  refine va_sld X.1 X.2.1 hX hbl hbA hS h1 dL_law_1398 ?_
  obtain ⟨q, hq, hf⟩ := k_bdE hf
  refine k_backi X hS (k_runV (As := [.int (xs (i + 1).toNatClampNeg)]) (rest := []) X hS hU sh_5_0 (by decide) rfl vl_L_218 (c_X11_bestSlip X.2.2.2.2.2.2.1 rfl hq) rfl rfl rfl hl.1 ⟨Nat.le_of_ble_eq_true rfl, Nat.le_of_ble_eq_true rfl⟩ (Nat.le_of_ble_eq_true rfl) dL_law_1399 hc) (fun H locs hU hS => ?_)
  refine lv_istore (lv' := [(6, .int q.2), (5, .int r.2), (4, .int i), (3, .ref (ad 6 0)), (2, .ref (ad 5 0)), (1, .ref (ad 0 0)), (0, .ref b)]) X.1 X.2.1 dL_law_1402 hl (by decide) rfl (fun ls hl => ?_)
  obtain ⟨hk, hf⟩ := k_ckE hf
  have hz9 := Option.some.inj hf
  subst hz9
  refine lv_aload_n X.1 X.2.1 dL_law_1404 rfl (lv_at hl 4 rfl) ?_
  refine k_backi X hS (k_runV (As := []) (rest := []) X hS hU sh_5_0 (by decide) rfl vl_L_113 (c_X11_thrown (w := q.1) X.2.2.2.2.2.2.1 (k_uc_s _ _ _) (show f_X11_thrown q.1 = some (q.1 0 0) from rfl)) rfl rfl rfl hl.1 ⟨Nat.le_of_ble_eq_true rfl, Nat.le_of_ble_eq_true rfl⟩ (Nat.le_of_ble_eq_true rfl) dL_law_1405 hc) (fun H locs hU hS => ?_)
  refine lv_iload X.1 X.2.1 dL_law_1408 (lv_at hl 1 rfl) ?_
  refine lv_icmp_eq (tgt := 1415) X.1 X.2.1 dL_law_1410 (by decide) (fun _ => ?_) (fun q9 => absurd hk.1 q9)
  refine lv_iload X.1 X.2.1 dL_law_1415 (lv_at hl 1 rfl) ?_
  refine lv_if_ne (tgt := 1432) X.1 X.2.1 dL_law_1417 (by decide) (fun _ => ?_) (fun h0 => ?_)
  · refine lv_goto (tgt := 2118) X.1 X.2.1 dL_law_1432 (by decide) ?_
    exact K _ _ _ hU hS (lv_sub hl [2, 3, 4, 5, 6] rfl)
  · refine lv_aload_n X.1 X.2.1 dL_law_1420 rfl (lv_at hl 3 rfl) ?_
    refine lv_iconst (v := 0) X.1 X.2.1 dL_law_1421 (by decide) ?_
    refine k_jld sh_6_0 X hU dL_law_1422 ?_
    refine lv_iload X.1 X.2.1 dL_law_1423 (lv_at hl 0 rfl) ?_
    refine lv_i2l (v := q.2.toInt64) X.1 X.2.1 dL_law_1425 rfl ?_
    refine W.lcmp X.1 X.2.1 dL_law_1426 ?_
    refine lv_if_eq (tgt := 1432) X.1 X.2.1 dL_law_1427 (by decide) (fun _ => ?_) (fun q9 => absurd (kL_cmp0 (hk.2 h0)) q9)
    refine lv_goto (tgt := 2118) X.1 X.2.1 dL_law_1432 (by decide) ?_
    exact K _ _ _ hU hS (lv_sub hl [2, 3, 4, 5, 6] rfl)
set_option maxRecDepth 100000 in
set_option maxHeartbeats 4000000 in
theorem kL_29 {p : Program} {l : Launch} {e : Env} {s : State} {m : MethodId} {args : Array Value} {below : List Frame} {meth : Method} {c : Code} {H : Heap} {locs : List Loc} {cells slots : Nat} {Q : State → Prop} {D : va_G} {G : Nat → ClassId} {ad : Nat → Nat → Nat} {sz : Nat} {u u' : k_U} {b L : Nat} {xs : Nat → Int32} {i : Int32} {ls : Array Slot} (hlT : l.stackTraces = false) (X : k_Cx p s m args c RL cL_law 9 D G ad sz) (hU : k_Uv D G ad u H) (hS : va_S (k_A ad sz) s.heap H locs) (hX : va_X b L xs s s.heap) (hbl : b < s.heap.size) (hbA : ¬ k_A ad sz b) (hl : lv_has ls 9 [(4, .int i), (3, .ref (ad 6 0)), (2, .ref (ad 5 0)), (1, .ref (ad 0 0)), (0, .ref b)]) (h1 : vp_in (i + 1) L) (h2 : vp_in (i + 2) L) (h3 : vp_in (i + 3) L) (h4 : vp_in (i + 4) L) (h5 : vp_in (i + 5) L) (hc : cells + 1 ≤ 601024 ∧ slots + 6 ≤ 7293034) (hf : kLsel 29 u (xs (i + 1).toNatClampNeg) (xs (i + 2).toNatClampNeg) (xs (i + 3).toNatClampNeg) (xs (i + 4).toNatClampNeg) (xs (i + 5).toNatClampNeg) = some u') (K : ∀ (H : Heap) (locs : List Loc) (ls : Array Slot), k_Uv D G ad u' H → va_S (k_A ad sz) s.heap H locs → lv_has ls 9 [(4, .int i), (3, .ref (ad 6 0)), (2, .ref (ad 5 0)), (1, .ref (ad 0 0)), (0, .ref b)] → W p l e room_1 s m args below meth c H locs (cells + 1) (slots + 6) Q (F0 m 2118 ls [])) : W p l e room_1 s m args below meth c H locs cells slots Q (F0 m 1435 ls []) := by
  have hf : (k_bd (f_X10_reachable u) fun r => k_bd (f_X11_reachable (r.1 5)) fun q => k_ck (r.2 = q.2) (some (k_uc r.1 5 q.1))) = some u' := hf
  refine lv_aload_n X.1 X.2.1 dL_law_1435 rfl (lv_at hl 3 rfl) ?_
  obtain ⟨r, hr, hf⟩ := k_bdE hf
  refine k_backi X hS (k_runV (As := []) (rest := []) X hS hU sh_0_0 (by decide) rfl vl_L_219 (c_X10_reachable X.2.2.2.2.2.2.1 hr) rfl rfl rfl hl.1 ⟨Nat.le_of_ble_eq_true rfl, Nat.le_of_ble_eq_true rfl⟩ (Nat.le_of_ble_eq_true rfl) dL_law_1436 ⟨Nat.le_trans (Nat.le_succ cells) hc.1, Nat.le_trans (Nat.le_add_right slots 6) hc.2⟩) (fun H locs hU hS => ?_)
  refine lv_aload_n X.1 X.2.1 dL_law_1439 rfl (lv_at hl 2 rfl) ?_
  obtain ⟨q, hq, hf⟩ := k_bdE hf
  refine k_backi X hS (k_runV (As := []) (rest := [.int r.2]) X hS hU sh_5_0 (by decide) rfl vl_L_222 (c_X11_reachable X.2.2.2.2.2.2.1 rfl hq) rfl rfl rfl hl.1 ⟨Nat.le_of_ble_eq_true rfl, Nat.le_of_ble_eq_true rfl⟩ (Nat.le_of_ble_eq_true rfl) dL_law_1440 ⟨Nat.le_trans (Nat.le_succ cells) hc.1, Nat.le_trans (Nat.le_add_right slots 6) hc.2⟩) (fun H locs hU hS => ?_)
  obtain ⟨hk, hf⟩ := k_ckE hf
  have hz9 := Option.some.inj hf
  subst hz9
  refine lv_icmp_eq (tgt := 2118) X.1 X.2.1 dL_law_1443 (by decide) (fun _ => ?_) (fun q9 => absurd hk q9)
  refine W.widen (k := cells + 1) (n := slots + 6) (by omega) (by omega) ?_
  exact K _ _ _ hU hS (lv_sub hl [0, 1, 2, 3, 4] rfl)
set_option maxRecDepth 100000 in
set_option maxHeartbeats 4000000 in
theorem kL_30 {p : Program} {l : Launch} {e : Env} {s : State} {m : MethodId} {args : Array Value} {below : List Frame} {meth : Method} {c : Code} {H : Heap} {locs : List Loc} {cells slots : Nat} {Q : State → Prop} {D : va_G} {G : Nat → ClassId} {ad : Nat → Nat → Nat} {sz : Nat} {u u' : k_U} {b L : Nat} {xs : Nat → Int32} {i : Int32} {ls : Array Slot} (hlT : l.stackTraces = false) (X : k_Cx p s m args c RL cL_law 9 D G ad sz) (hU : k_Uv D G ad u H) (hS : va_S (k_A ad sz) s.heap H locs) (hX : va_X b L xs s s.heap) (hbl : b < s.heap.size) (hbA : ¬ k_A ad sz b) (hl : lv_has ls 9 [(4, .int i), (3, .ref (ad 6 0)), (2, .ref (ad 5 0)), (1, .ref (ad 0 0)), (0, .ref b)]) (h1 : vp_in (i + 1) L) (h2 : vp_in (i + 2) L) (h3 : vp_in (i + 3) L) (h4 : vp_in (i + 4) L) (h5 : vp_in (i + 5) L) (hc : cells + 1 ≤ 601024 ∧ slots + 6 ≤ 7293034) (hf : kLsel 30 u (xs (i + 1).toNatClampNeg) (xs (i + 2).toNatClampNeg) (xs (i + 3).toNatClampNeg) (xs (i + 4).toNatClampNeg) (xs (i + 5).toNatClampNeg) = some u') (K : ∀ (H : Heap) (locs : List Loc) (ls : Array Slot), k_Uv D G ad u' H → va_S (k_A ad sz) s.heap H locs → lv_has ls 9 [(4, .int i), (3, .ref (ad 6 0)), (2, .ref (ad 5 0)), (1, .ref (ad 0 0)), (0, .ref b)] → W p l e room_1 s m args below meth c H locs (cells + 1) (slots + 6) Q (F0 m 2118 ls [])) : W p l e room_1 s m args below meth c H locs cells slots Q (F0 m 1448 ls []) := by
  have hf : (k_bd (f_L_tick u (xs (i + 1).toNatClampNeg)) fun r => k_bd (f_X11_tick (r.1 5) (xs (i + 1).toNatClampNeg)) fun q => kLck r q) = some u' := hf
  refine lv_aload_n X.1 X.2.1 dL_law_1448 rfl (lv_at hl 3 rfl) ?_
  refine lv_aload_n X.1 X.2.1 dL_law_1449 rfl (lv_at hl 4 rfl) ?_
  refine lv_iload X.1 X.2.1 dL_law_1450 (lv_at hl 0 rfl) ?_
  refine lv_iconst (v := 1) X.1 X.2.1 dL_law_1452 (by decide) ?_
  refine lv_iadd X.1 X.2.1 dL_law_1453 ?_
  refine va_sld X.1 X.2.1 hX hbl hbA hS h1 dL_law_1454 ?_
  refine lv_aload_n X.1 X.2.1 dL_law_1455 rfl (lv_at hl 1 rfl) ?_
  obtain ⟨r, hr, hf⟩ := k_bdE hf
  refine kL_backi X hS (kL_runSW (As := [.ref (ad 0 0), .int (xs (i + 1).toNatClampNeg), .ref (ad 6 0)]) (rest := []) X hS hU slw_L_223 (c_L_tick X.2.2.2.2.2.2.1 hlT hr) rfl rfl rfl hl.1 ⟨Nat.le_of_ble_eq_true rfl, Nat.le_of_ble_eq_true rfl⟩ (Nat.le_of_ble_eq_true rfl) dL_law_1456 hc) (fun H locs hU hS => ?_)
  refine lv_istore (lv' := [(5, .int r.2), (4, .int i), (3, .ref (ad 6 0)), (2, .ref (ad 5 0)), (1, .ref (ad 0 0)), (0, .ref b)]) X.1 X.2.1 dL_law_1459 hl (by decide) rfl (fun ls hl => ?_)
  refine lv_aload_n X.1 X.2.1 dL_law_1461 rfl (lv_at hl 3 rfl) ?_
  refine lv_aload_n X.1 X.2.1 dL_law_1462 rfl (lv_at hl 5 rfl) ?_
  refine lv_iload X.1 X.2.1 dL_law_1463 (lv_at hl 1 rfl) ?_
  refine lv_iconst (v := 1) X.1 X.2.1 dL_law_1465 (by decide) ?_
  refine lv_iadd X.1 X.2.1 dL_law_1466 ?_
  refine va_sld X.1 X.2.1 hX hbl hbA hS h1 dL_law_1467 ?_
  obtain ⟨q, hq, hf⟩ := k_bdE hf
  refine k_backi X hS (k_runV (As := [.int (xs (i + 1).toNatClampNeg)]) (rest := []) X hS hU sh_5_0 (by decide) rfl vl_L_225 (c_X11_tick X.2.2.2.2.2.2.1 rfl hq) rfl rfl rfl hl.1 ⟨Nat.le_of_ble_eq_true rfl, Nat.le_of_ble_eq_true rfl⟩ (Nat.le_of_ble_eq_true rfl) dL_law_1468 hc) (fun H locs hU hS => ?_)
  refine lv_istore (lv' := [(6, .int q.2), (5, .int r.2), (4, .int i), (3, .ref (ad 6 0)), (2, .ref (ad 5 0)), (1, .ref (ad 0 0)), (0, .ref b)]) X.1 X.2.1 dL_law_1471 hl (by decide) rfl (fun ls hl => ?_)
  obtain ⟨hk, hf⟩ := k_ckE hf
  have hz9 := Option.some.inj hf
  subst hz9
  refine lv_aload_n X.1 X.2.1 dL_law_1473 rfl (lv_at hl 4 rfl) ?_
  refine k_backi X hS (k_runV (As := []) (rest := []) X hS hU sh_5_0 (by decide) rfl vl_L_113 (c_X11_thrown (w := q.1) X.2.2.2.2.2.2.1 (k_uc_s _ _ _) (show f_X11_thrown q.1 = some (q.1 0 0) from rfl)) rfl rfl rfl hl.1 ⟨Nat.le_of_ble_eq_true rfl, Nat.le_of_ble_eq_true rfl⟩ (Nat.le_of_ble_eq_true rfl) dL_law_1474 hc) (fun H locs hU hS => ?_)
  refine lv_iload X.1 X.2.1 dL_law_1477 (lv_at hl 1 rfl) ?_
  refine lv_icmp_eq (tgt := 1484) X.1 X.2.1 dL_law_1479 (by decide) (fun _ => ?_) (fun q9 => absurd hk.1 q9)
  refine lv_iload X.1 X.2.1 dL_law_1484 (lv_at hl 1 rfl) ?_
  refine lv_if_ne (tgt := 1501) X.1 X.2.1 dL_law_1486 (by decide) (fun _ => ?_) (fun h0 => ?_)
  · refine lv_goto (tgt := 2118) X.1 X.2.1 dL_law_1501 (by decide) ?_
    exact K _ _ _ hU hS (lv_sub hl [2, 3, 4, 5, 6] rfl)
  · refine lv_aload_n X.1 X.2.1 dL_law_1489 rfl (lv_at hl 3 rfl) ?_
    refine lv_iconst (v := 0) X.1 X.2.1 dL_law_1490 (by decide) ?_
    refine k_jld sh_6_0 X hU dL_law_1491 ?_
    refine lv_iload X.1 X.2.1 dL_law_1492 (lv_at hl 0 rfl) ?_
    refine lv_i2l (v := q.2.toInt64) X.1 X.2.1 dL_law_1494 rfl ?_
    refine W.lcmp X.1 X.2.1 dL_law_1495 ?_
    refine lv_if_eq (tgt := 1501) X.1 X.2.1 dL_law_1496 (by decide) (fun _ => ?_) (fun q9 => absurd (kL_cmp0 (hk.2 h0)) q9)
    refine lv_goto (tgt := 2118) X.1 X.2.1 dL_law_1501 (by decide) ?_
    exact K _ _ _ hU hS (lv_sub hl [2, 3, 4, 5, 6] rfl)
set_option maxRecDepth 100000 in
set_option maxHeartbeats 4000000 in
theorem kL_31 {p : Program} {l : Launch} {e : Env} {s : State} {m : MethodId} {args : Array Value} {below : List Frame} {meth : Method} {c : Code} {H : Heap} {locs : List Loc} {cells slots : Nat} {Q : State → Prop} {D : va_G} {G : Nat → ClassId} {ad : Nat → Nat → Nat} {sz : Nat} {u u' : k_U} {b L : Nat} {xs : Nat → Int32} {i : Int32} {ls : Array Slot} (hlT : l.stackTraces = false) (X : k_Cx p s m args c RL cL_law 9 D G ad sz) (hU : k_Uv D G ad u H) (hS : va_S (k_A ad sz) s.heap H locs) (hX : va_X b L xs s s.heap) (hbl : b < s.heap.size) (hbA : ¬ k_A ad sz b) (hl : lv_has ls 9 [(4, .int i), (3, .ref (ad 6 0)), (2, .ref (ad 5 0)), (1, .ref (ad 0 0)), (0, .ref b)]) (h1 : vp_in (i + 1) L) (h2 : vp_in (i + 2) L) (h3 : vp_in (i + 3) L) (h4 : vp_in (i + 4) L) (h5 : vp_in (i + 5) L) (hc : cells + 1 ≤ 601024 ∧ slots + 6 ≤ 7293034) (hf : kLsel 31 u (xs (i + 1).toNatClampNeg) (xs (i + 2).toNatClampNeg) (xs (i + 3).toNatClampNeg) (xs (i + 4).toNatClampNeg) (xs (i + 5).toNatClampNeg) = some u') (K : ∀ (H : Heap) (locs : List Loc) (ls : Array Slot), k_Uv D G ad u' H → va_S (k_A ad sz) s.heap H locs → lv_has ls 9 [(4, .int i), (3, .ref (ad 6 0)), (2, .ref (ad 5 0)), (1, .ref (ad 0 0)), (0, .ref b)] → W p l e room_1 s m args below meth c H locs (cells + 1) (slots + 6) Q (F0 m 2118 ls [])) : W p l e room_1 s m args below meth c H locs cells slots Q (F0 m 1504 ls []) := by
  have hf : (k_bd (f_L_fallTo u (xs (i + 1).toNatClampNeg)) fun r => k_bd (f_X11_fallTo (r.1 5) (xs (i + 1).toNatClampNeg)) fun q => kLck r q) = some u' := hf
  refine lv_aload_n X.1 X.2.1 dL_law_1504 rfl (lv_at hl 3 rfl) ?_
  refine lv_aload_n X.1 X.2.1 dL_law_1505 rfl (lv_at hl 4 rfl) ?_
  refine lv_iload X.1 X.2.1 dL_law_1506 (lv_at hl 0 rfl) ?_
  refine lv_iconst (v := 1) X.1 X.2.1 dL_law_1508 (by decide) ?_
  refine lv_iadd X.1 X.2.1 dL_law_1509 ?_
  refine va_sld X.1 X.2.1 hX hbl hbA hS h1 dL_law_1510 ?_
  refine lv_aload_n X.1 X.2.1 dL_law_1511 rfl (lv_at hl 1 rfl) ?_
  obtain ⟨r, hr, hf⟩ := k_bdE hf
  refine kL_backi X hS (kL_runSW (As := [.ref (ad 0 0), .int (xs (i + 1).toNatClampNeg), .ref (ad 6 0)]) (rest := []) X hS hU slw_L_226 (c_L_fallTo X.2.2.2.2.2.2.1 hlT hr) rfl rfl rfl hl.1 ⟨Nat.le_of_ble_eq_true rfl, Nat.le_of_ble_eq_true rfl⟩ (Nat.le_of_ble_eq_true rfl) dL_law_1512 hc) (fun H locs hU hS => ?_)
  refine lv_istore (lv' := [(5, .int r.2), (4, .int i), (3, .ref (ad 6 0)), (2, .ref (ad 5 0)), (1, .ref (ad 0 0)), (0, .ref b)]) X.1 X.2.1 dL_law_1515 hl (by decide) rfl (fun ls hl => ?_)
  refine lv_aload_n X.1 X.2.1 dL_law_1517 rfl (lv_at hl 3 rfl) ?_
  refine lv_aload_n X.1 X.2.1 dL_law_1518 rfl (lv_at hl 5 rfl) ?_
  refine lv_iload X.1 X.2.1 dL_law_1519 (lv_at hl 1 rfl) ?_
  refine lv_iconst (v := 1) X.1 X.2.1 dL_law_1521 (by decide) ?_
  refine lv_iadd X.1 X.2.1 dL_law_1522 ?_
  refine va_sld X.1 X.2.1 hX hbl hbA hS h1 dL_law_1523 ?_
  obtain ⟨q, hq, hf⟩ := k_bdE hf
  refine k_backi X hS (k_runV (As := [.int (xs (i + 1).toNatClampNeg)]) (rest := []) X hS hU sh_5_0 (by decide) rfl vl_L_228 (c_X11_fallTo X.2.2.2.2.2.2.1 rfl hq) rfl rfl rfl hl.1 ⟨Nat.le_of_ble_eq_true rfl, Nat.le_of_ble_eq_true rfl⟩ (Nat.le_of_ble_eq_true rfl) dL_law_1524 hc) (fun H locs hU hS => ?_)
  refine lv_istore (lv' := [(6, .int q.2), (5, .int r.2), (4, .int i), (3, .ref (ad 6 0)), (2, .ref (ad 5 0)), (1, .ref (ad 0 0)), (0, .ref b)]) X.1 X.2.1 dL_law_1527 hl (by decide) rfl (fun ls hl => ?_)
  obtain ⟨hk, hf⟩ := k_ckE hf
  have hz9 := Option.some.inj hf
  subst hz9
  refine lv_aload_n X.1 X.2.1 dL_law_1529 rfl (lv_at hl 4 rfl) ?_
  refine k_backi X hS (k_runV (As := []) (rest := []) X hS hU sh_5_0 (by decide) rfl vl_L_113 (c_X11_thrown (w := q.1) X.2.2.2.2.2.2.1 (k_uc_s _ _ _) (show f_X11_thrown q.1 = some (q.1 0 0) from rfl)) rfl rfl rfl hl.1 ⟨Nat.le_of_ble_eq_true rfl, Nat.le_of_ble_eq_true rfl⟩ (Nat.le_of_ble_eq_true rfl) dL_law_1530 hc) (fun H locs hU hS => ?_)
  refine lv_iload X.1 X.2.1 dL_law_1533 (lv_at hl 1 rfl) ?_
  refine lv_icmp_eq (tgt := 1540) X.1 X.2.1 dL_law_1535 (by decide) (fun _ => ?_) (fun q9 => absurd hk.1 q9)
  refine lv_iload X.1 X.2.1 dL_law_1540 (lv_at hl 1 rfl) ?_
  refine lv_if_ne (tgt := 1557) X.1 X.2.1 dL_law_1542 (by decide) (fun _ => ?_) (fun h0 => ?_)
  · refine lv_goto (tgt := 2118) X.1 X.2.1 dL_law_1557 (by decide) ?_
    exact K _ _ _ hU hS (lv_sub hl [2, 3, 4, 5, 6] rfl)
  · refine lv_aload_n X.1 X.2.1 dL_law_1545 rfl (lv_at hl 3 rfl) ?_
    refine lv_iconst (v := 0) X.1 X.2.1 dL_law_1546 (by decide) ?_
    refine k_jld sh_6_0 X hU dL_law_1547 ?_
    refine lv_iload X.1 X.2.1 dL_law_1548 (lv_at hl 0 rfl) ?_
    refine lv_i2l (v := q.2.toInt64) X.1 X.2.1 dL_law_1550 rfl ?_
    refine W.lcmp X.1 X.2.1 dL_law_1551 ?_
    refine lv_if_eq (tgt := 1557) X.1 X.2.1 dL_law_1552 (by decide) (fun _ => ?_) (fun q9 => absurd (kL_cmp0 (hk.2 h0)) q9)
    refine lv_goto (tgt := 2118) X.1 X.2.1 dL_law_1557 (by decide) ?_
    exact K _ _ _ hU hS (lv_sub hl [2, 3, 4, 5, 6] rfl)
set_option maxRecDepth 100000 in
set_option maxHeartbeats 4000000 in
theorem kL_32 {p : Program} {l : Launch} {e : Env} {s : State} {m : MethodId} {args : Array Value} {below : List Frame} {meth : Method} {c : Code} {H : Heap} {locs : List Loc} {cells slots : Nat} {Q : State → Prop} {D : va_G} {G : Nat → ClassId} {ad : Nat → Nat → Nat} {sz : Nat} {u u' : k_U} {b L : Nat} {xs : Nat → Int32} {i : Int32} {ls : Array Slot} (hlT : l.stackTraces = false) (X : k_Cx p s m args c RL cL_law 9 D G ad sz) (hU : k_Uv D G ad u H) (hS : va_S (k_A ad sz) s.heap H locs) (hX : va_X b L xs s s.heap) (hbl : b < s.heap.size) (hbA : ¬ k_A ad sz b) (hl : lv_has ls 9 [(4, .int i), (3, .ref (ad 6 0)), (2, .ref (ad 5 0)), (1, .ref (ad 0 0)), (0, .ref b)]) (h1 : vp_in (i + 1) L) (h2 : vp_in (i + 2) L) (h3 : vp_in (i + 3) L) (h4 : vp_in (i + 4) L) (h5 : vp_in (i + 5) L) (hc : cells + 1 ≤ 601024 ∧ slots + 6 ≤ 7293034) (hf : kLsel 32 u (xs (i + 1).toNatClampNeg) (xs (i + 2).toNatClampNeg) (xs (i + 3).toNatClampNeg) (xs (i + 4).toNatClampNeg) (xs (i + 5).toNatClampNeg) = some u') (K : ∀ (H : Heap) (locs : List Loc) (ls : Array Slot), k_Uv D G ad u' H → va_S (k_A ad sz) s.heap H locs → lv_has ls 9 [(4, .int i), (3, .ref (ad 6 0)), (2, .ref (ad 5 0)), (1, .ref (ad 0 0)), (0, .ref b)] → W p l e room_1 s m args below meth c H locs (cells + 1) (slots + 6) Q (F0 m 2118 ls [])) : W p l e room_1 s m args below meth c H locs cells slots Q (F0 m 1560 ls []) := by
  have hf : (k_bd (f_L_open u (xs (i + 1).toNatClampNeg)) fun r => k_bd (f_X11_open (r.1 5) (xs (i + 1).toNatClampNeg)) fun q => kLck r q) = some u' := hf
  refine lv_aload_n X.1 X.2.1 dL_law_1560 rfl (lv_at hl 3 rfl) ?_
  refine lv_aload_n X.1 X.2.1 dL_law_1561 rfl (lv_at hl 4 rfl) ?_
  refine lv_iload X.1 X.2.1 dL_law_1562 (lv_at hl 0 rfl) ?_
  refine lv_iconst (v := 1) X.1 X.2.1 dL_law_1564 (by decide) ?_
  refine lv_iadd X.1 X.2.1 dL_law_1565 ?_
  refine va_sld X.1 X.2.1 hX hbl hbA hS h1 dL_law_1566 ?_
  refine lv_aload_n X.1 X.2.1 dL_law_1567 rfl (lv_at hl 1 rfl) ?_
  obtain ⟨r, hr, hf⟩ := k_bdE hf
  refine kL_backi X hS (kL_runSW (As := [.ref (ad 0 0), .int (xs (i + 1).toNatClampNeg), .ref (ad 6 0)]) (rest := []) X hS hU slw_L_229 (c_L_open X.2.2.2.2.2.2.1 hlT hr) rfl rfl rfl hl.1 ⟨Nat.le_of_ble_eq_true rfl, Nat.le_of_ble_eq_true rfl⟩ (Nat.le_of_ble_eq_true rfl) dL_law_1568 hc) (fun H locs hU hS => ?_)
  refine lv_istore (lv' := [(5, .int r.2), (4, .int i), (3, .ref (ad 6 0)), (2, .ref (ad 5 0)), (1, .ref (ad 0 0)), (0, .ref b)]) X.1 X.2.1 dL_law_1571 hl (by decide) rfl (fun ls hl => ?_)
  refine lv_aload_n X.1 X.2.1 dL_law_1573 rfl (lv_at hl 3 rfl) ?_
  refine lv_aload_n X.1 X.2.1 dL_law_1574 rfl (lv_at hl 5 rfl) ?_
  refine lv_iload X.1 X.2.1 dL_law_1575 (lv_at hl 1 rfl) ?_
  refine lv_iconst (v := 1) X.1 X.2.1 dL_law_1577 (by decide) ?_
  refine lv_iadd X.1 X.2.1 dL_law_1578 ?_
  refine va_sld X.1 X.2.1 hX hbl hbA hS h1 dL_law_1579 ?_
  obtain ⟨q, hq, hf⟩ := k_bdE hf
  refine k_backi X hS (k_runV (As := [.int (xs (i + 1).toNatClampNeg)]) (rest := []) X hS hU sh_5_0 (by decide) rfl vl_L_231 (c_X11_open X.2.2.2.2.2.2.1 rfl hq) rfl rfl rfl hl.1 ⟨Nat.le_of_ble_eq_true rfl, Nat.le_of_ble_eq_true rfl⟩ (Nat.le_of_ble_eq_true rfl) dL_law_1580 hc) (fun H locs hU hS => ?_)
  refine lv_istore (lv' := [(6, .int q.2), (5, .int r.2), (4, .int i), (3, .ref (ad 6 0)), (2, .ref (ad 5 0)), (1, .ref (ad 0 0)), (0, .ref b)]) X.1 X.2.1 dL_law_1583 hl (by decide) rfl (fun ls hl => ?_)
  obtain ⟨hk, hf⟩ := k_ckE hf
  have hz9 := Option.some.inj hf
  subst hz9
  refine lv_aload_n X.1 X.2.1 dL_law_1585 rfl (lv_at hl 4 rfl) ?_
  refine k_backi X hS (k_runV (As := []) (rest := []) X hS hU sh_5_0 (by decide) rfl vl_L_113 (c_X11_thrown (w := q.1) X.2.2.2.2.2.2.1 (k_uc_s _ _ _) (show f_X11_thrown q.1 = some (q.1 0 0) from rfl)) rfl rfl rfl hl.1 ⟨Nat.le_of_ble_eq_true rfl, Nat.le_of_ble_eq_true rfl⟩ (Nat.le_of_ble_eq_true rfl) dL_law_1586 hc) (fun H locs hU hS => ?_)
  refine lv_iload X.1 X.2.1 dL_law_1589 (lv_at hl 1 rfl) ?_
  refine lv_icmp_eq (tgt := 1596) X.1 X.2.1 dL_law_1591 (by decide) (fun _ => ?_) (fun q9 => absurd hk.1 q9)
  refine lv_iload X.1 X.2.1 dL_law_1596 (lv_at hl 1 rfl) ?_
  refine lv_if_ne (tgt := 1613) X.1 X.2.1 dL_law_1598 (by decide) (fun _ => ?_) (fun h0 => ?_)
  · refine lv_goto (tgt := 2118) X.1 X.2.1 dL_law_1613 (by decide) ?_
    exact K _ _ _ hU hS (lv_sub hl [2, 3, 4, 5, 6] rfl)
  · refine lv_aload_n X.1 X.2.1 dL_law_1601 rfl (lv_at hl 3 rfl) ?_
    refine lv_iconst (v := 0) X.1 X.2.1 dL_law_1602 (by decide) ?_
    refine k_jld sh_6_0 X hU dL_law_1603 ?_
    refine lv_iload X.1 X.2.1 dL_law_1604 (lv_at hl 0 rfl) ?_
    refine lv_i2l (v := q.2.toInt64) X.1 X.2.1 dL_law_1606 rfl ?_
    refine W.lcmp X.1 X.2.1 dL_law_1607 ?_
    refine lv_if_eq (tgt := 1613) X.1 X.2.1 dL_law_1608 (by decide) (fun _ => ?_) (fun q9 => absurd (kL_cmp0 (hk.2 h0)) q9)
    refine lv_goto (tgt := 2118) X.1 X.2.1 dL_law_1613 (by decide) ?_
    exact K _ _ _ hU hS (lv_sub hl [2, 3, 4, 5, 6] rfl)
set_option maxRecDepth 100000 in
set_option maxHeartbeats 4000000 in
theorem kL_33 {p : Program} {l : Launch} {e : Env} {s : State} {m : MethodId} {args : Array Value} {below : List Frame} {meth : Method} {c : Code} {H : Heap} {locs : List Loc} {cells slots : Nat} {Q : State → Prop} {D : va_G} {G : Nat → ClassId} {ad : Nat → Nat → Nat} {sz : Nat} {u u' : k_U} {b L : Nat} {xs : Nat → Int32} {i : Int32} {ls : Array Slot} (hlT : l.stackTraces = false) (X : k_Cx p s m args c RL cL_law 9 D G ad sz) (hU : k_Uv D G ad u H) (hS : va_S (k_A ad sz) s.heap H locs) (hX : va_X b L xs s s.heap) (hbl : b < s.heap.size) (hbA : ¬ k_A ad sz b) (hl : lv_has ls 9 [(4, .int i), (3, .ref (ad 6 0)), (2, .ref (ad 5 0)), (1, .ref (ad 0 0)), (0, .ref b)]) (h1 : vp_in (i + 1) L) (h2 : vp_in (i + 2) L) (h3 : vp_in (i + 3) L) (h4 : vp_in (i + 4) L) (h5 : vp_in (i + 5) L) (hc : cells + 1 ≤ 601024 ∧ slots + 6 ≤ 7293034) (hf : kLsel 33 u (xs (i + 1).toNatClampNeg) (xs (i + 2).toNatClampNeg) (xs (i + 3).toNatClampNeg) (xs (i + 4).toNatClampNeg) (xs (i + 5).toNatClampNeg) = some u') (K : ∀ (H : Heap) (locs : List Loc) (ls : Array Slot), k_Uv D G ad u' H → va_S (k_A ad sz) s.heap H locs → lv_has ls 9 [(4, .int i), (3, .ref (ad 6 0)), (2, .ref (ad 5 0)), (1, .ref (ad 0 0)), (0, .ref b)] → W p l e room_1 s m args below meth c H locs (cells + 1) (slots + 6) Q (F0 m 2118 ls [])) : W p l e room_1 s m args below meth c H locs cells slots Q (F0 m 1616 ls []) := by
  have hf : (k_bd (f_X10_openReserve u) fun r => k_bd (f_X11_openReserve (r.1 5)) fun q => k_ck (r.2 = q.2) (some (k_uc r.1 5 q.1))) = some u' := hf
  refine lv_aload_n X.1 X.2.1 dL_law_1616 rfl (lv_at hl 3 rfl) ?_
  obtain ⟨r, hr, hf⟩ := k_bdE hf
  refine k_backi X hS (k_runV (As := []) (rest := []) X hS hU sh_0_0 (by decide) rfl vl_L_232 (c_X10_openReserve X.2.2.2.2.2.2.1 hr) rfl rfl rfl hl.1 ⟨Nat.le_of_ble_eq_true rfl, Nat.le_of_ble_eq_true rfl⟩ (Nat.le_of_ble_eq_true rfl) dL_law_1617 ⟨Nat.le_trans (Nat.le_succ cells) hc.1, Nat.le_trans (Nat.le_add_right slots 6) hc.2⟩) (fun H locs hU hS => ?_)
  refine lv_aload_n X.1 X.2.1 dL_law_1620 rfl (lv_at hl 2 rfl) ?_
  obtain ⟨q, hq, hf⟩ := k_bdE hf
  refine k_backi X hS (k_runV (As := []) (rest := [.int r.2]) X hS hU sh_5_0 (by decide) rfl vl_L_235 (c_X11_openReserve X.2.2.2.2.2.2.1 rfl hq) rfl rfl rfl hl.1 ⟨Nat.le_of_ble_eq_true rfl, Nat.le_of_ble_eq_true rfl⟩ (Nat.le_of_ble_eq_true rfl) dL_law_1621 ⟨Nat.le_trans (Nat.le_succ cells) hc.1, Nat.le_trans (Nat.le_add_right slots 6) hc.2⟩) (fun H locs hU hS => ?_)
  obtain ⟨hk, hf⟩ := k_ckE hf
  have hz9 := Option.some.inj hf
  subst hz9
  refine lv_icmp_eq (tgt := 2118) X.1 X.2.1 dL_law_1624 (by decide) (fun _ => ?_) (fun q9 => absurd hk q9)
  refine W.widen (k := cells + 1) (n := slots + 6) (by omega) (by omega) ?_
  exact K _ _ _ hU hS (lv_sub hl [0, 1, 2, 3, 4] rfl)
set_option maxRecDepth 100000 in
set_option maxHeartbeats 4000000 in
theorem kL_34 {p : Program} {l : Launch} {e : Env} {s : State} {m : MethodId} {args : Array Value} {below : List Frame} {meth : Method} {c : Code} {H : Heap} {locs : List Loc} {cells slots : Nat} {Q : State → Prop} {D : va_G} {G : Nat → ClassId} {ad : Nat → Nat → Nat} {sz : Nat} {u u' : k_U} {b L : Nat} {xs : Nat → Int32} {i : Int32} {ls : Array Slot} (hlT : l.stackTraces = false) (X : k_Cx p s m args c RL cL_law 9 D G ad sz) (hU : k_Uv D G ad u H) (hS : va_S (k_A ad sz) s.heap H locs) (hX : va_X b L xs s s.heap) (hbl : b < s.heap.size) (hbA : ¬ k_A ad sz b) (hl : lv_has ls 9 [(4, .int i), (3, .ref (ad 6 0)), (2, .ref (ad 5 0)), (1, .ref (ad 0 0)), (0, .ref b)]) (h1 : vp_in (i + 1) L) (h2 : vp_in (i + 2) L) (h3 : vp_in (i + 3) L) (h4 : vp_in (i + 4) L) (h5 : vp_in (i + 5) L) (hc : cells + 1 ≤ 601024 ∧ slots + 6 ≤ 7293034) (hf : kLsel 34 u (xs (i + 1).toNatClampNeg) (xs (i + 2).toNatClampNeg) (xs (i + 3).toNatClampNeg) (xs (i + 4).toNatClampNeg) (xs (i + 5).toNatClampNeg) = some u') (K : ∀ (H : Heap) (locs : List Loc) (ls : Array Slot), k_Uv D G ad u' H → va_S (k_A ad sz) s.heap H locs → lv_has ls 9 [(4, .int i), (3, .ref (ad 6 0)), (2, .ref (ad 5 0)), (1, .ref (ad 0 0)), (0, .ref b)] → W p l e room_1 s m args below meth c H locs (cells + 1) (slots + 6) Q (F0 m 2118 ls [])) : W p l e room_1 s m args below meth c H locs cells slots Q (F0 m 1629 ls []) := by
  have hf : (k_bd (f_L_cut u (xs (i + 1).toNatClampNeg)) fun r => k_bd (f_X11_cut (r.1 5) (xs (i + 1).toNatClampNeg)) fun q => kLck r q) = some u' := hf
  refine lv_aload_n X.1 X.2.1 dL_law_1629 rfl (lv_at hl 3 rfl) ?_
  refine lv_aload_n X.1 X.2.1 dL_law_1630 rfl (lv_at hl 4 rfl) ?_
  refine lv_iload X.1 X.2.1 dL_law_1631 (lv_at hl 0 rfl) ?_
  refine lv_iconst (v := 1) X.1 X.2.1 dL_law_1633 (by decide) ?_
  refine lv_iadd X.1 X.2.1 dL_law_1634 ?_
  refine va_sld X.1 X.2.1 hX hbl hbA hS h1 dL_law_1635 ?_
  refine lv_aload_n X.1 X.2.1 dL_law_1636 rfl (lv_at hl 1 rfl) ?_
  obtain ⟨r, hr, hf⟩ := k_bdE hf
  refine kL_backi X hS (kL_runSW (As := [.ref (ad 0 0), .int (xs (i + 1).toNatClampNeg), .ref (ad 6 0)]) (rest := []) X hS hU slw_L_236 (c_L_cut X.2.2.2.2.2.2.1 hlT hr) rfl rfl rfl hl.1 ⟨Nat.le_of_ble_eq_true rfl, Nat.le_of_ble_eq_true rfl⟩ (Nat.le_of_ble_eq_true rfl) dL_law_1637 hc) (fun H locs hU hS => ?_)
  refine lv_istore (lv' := [(5, .int r.2), (4, .int i), (3, .ref (ad 6 0)), (2, .ref (ad 5 0)), (1, .ref (ad 0 0)), (0, .ref b)]) X.1 X.2.1 dL_law_1640 hl (by decide) rfl (fun ls hl => ?_)
  refine lv_aload_n X.1 X.2.1 dL_law_1642 rfl (lv_at hl 3 rfl) ?_
  refine lv_aload_n X.1 X.2.1 dL_law_1643 rfl (lv_at hl 5 rfl) ?_
  refine lv_iload X.1 X.2.1 dL_law_1644 (lv_at hl 1 rfl) ?_
  refine lv_iconst (v := 1) X.1 X.2.1 dL_law_1646 (by decide) ?_
  refine lv_iadd X.1 X.2.1 dL_law_1647 ?_
  refine va_sld X.1 X.2.1 hX hbl hbA hS h1 dL_law_1648 ?_
  obtain ⟨q, hq, hf⟩ := k_bdE hf
  refine k_backi X hS (k_runV (As := [.int (xs (i + 1).toNatClampNeg)]) (rest := []) X hS hU sh_5_0 (by decide) rfl vl_L_238 (c_X11_cut X.2.2.2.2.2.2.1 rfl hq) rfl rfl rfl hl.1 ⟨Nat.le_of_ble_eq_true rfl, Nat.le_of_ble_eq_true rfl⟩ (Nat.le_of_ble_eq_true rfl) dL_law_1649 hc) (fun H locs hU hS => ?_)
  refine lv_istore (lv' := [(6, .int q.2), (5, .int r.2), (4, .int i), (3, .ref (ad 6 0)), (2, .ref (ad 5 0)), (1, .ref (ad 0 0)), (0, .ref b)]) X.1 X.2.1 dL_law_1652 hl (by decide) rfl (fun ls hl => ?_)
  obtain ⟨hk, hf⟩ := k_ckE hf
  have hz9 := Option.some.inj hf
  subst hz9
  refine lv_aload_n X.1 X.2.1 dL_law_1654 rfl (lv_at hl 4 rfl) ?_
  refine k_backi X hS (k_runV (As := []) (rest := []) X hS hU sh_5_0 (by decide) rfl vl_L_113 (c_X11_thrown (w := q.1) X.2.2.2.2.2.2.1 (k_uc_s _ _ _) (show f_X11_thrown q.1 = some (q.1 0 0) from rfl)) rfl rfl rfl hl.1 ⟨Nat.le_of_ble_eq_true rfl, Nat.le_of_ble_eq_true rfl⟩ (Nat.le_of_ble_eq_true rfl) dL_law_1655 hc) (fun H locs hU hS => ?_)
  refine lv_iload X.1 X.2.1 dL_law_1658 (lv_at hl 1 rfl) ?_
  refine lv_icmp_eq (tgt := 1665) X.1 X.2.1 dL_law_1660 (by decide) (fun _ => ?_) (fun q9 => absurd hk.1 q9)
  refine lv_iload X.1 X.2.1 dL_law_1665 (lv_at hl 1 rfl) ?_
  refine lv_if_ne (tgt := 1682) X.1 X.2.1 dL_law_1667 (by decide) (fun _ => ?_) (fun h0 => ?_)
  · refine lv_goto (tgt := 2118) X.1 X.2.1 dL_law_1682 (by decide) ?_
    exact K _ _ _ hU hS (lv_sub hl [2, 3, 4, 5, 6] rfl)
  · refine lv_aload_n X.1 X.2.1 dL_law_1670 rfl (lv_at hl 3 rfl) ?_
    refine lv_iconst (v := 0) X.1 X.2.1 dL_law_1671 (by decide) ?_
    refine k_jld sh_6_0 X hU dL_law_1672 ?_
    refine lv_iload X.1 X.2.1 dL_law_1673 (lv_at hl 0 rfl) ?_
    refine lv_i2l (v := q.2.toInt64) X.1 X.2.1 dL_law_1675 rfl ?_
    refine W.lcmp X.1 X.2.1 dL_law_1676 ?_
    refine lv_if_eq (tgt := 1682) X.1 X.2.1 dL_law_1677 (by decide) (fun _ => ?_) (fun q9 => absurd (kL_cmp0 (hk.2 h0)) q9)
    refine lv_goto (tgt := 2118) X.1 X.2.1 dL_law_1682 (by decide) ?_
    exact K _ _ _ hU hS (lv_sub hl [2, 3, 4, 5, 6] rfl)
set_option maxRecDepth 100000 in
set_option maxHeartbeats 4000000 in
theorem kL_35 {p : Program} {l : Launch} {e : Env} {s : State} {m : MethodId} {args : Array Value} {below : List Frame} {meth : Method} {c : Code} {H : Heap} {locs : List Loc} {cells slots : Nat} {Q : State → Prop} {D : va_G} {G : Nat → ClassId} {ad : Nat → Nat → Nat} {sz : Nat} {u u' : k_U} {b L : Nat} {xs : Nat → Int32} {i : Int32} {ls : Array Slot} (hlT : l.stackTraces = false) (X : k_Cx p s m args c RL cL_law 9 D G ad sz) (hU : k_Uv D G ad u H) (hS : va_S (k_A ad sz) s.heap H locs) (hX : va_X b L xs s s.heap) (hbl : b < s.heap.size) (hbA : ¬ k_A ad sz b) (hl : lv_has ls 9 [(4, .int i), (3, .ref (ad 6 0)), (2, .ref (ad 5 0)), (1, .ref (ad 0 0)), (0, .ref b)]) (h1 : vp_in (i + 1) L) (h2 : vp_in (i + 2) L) (h3 : vp_in (i + 3) L) (h4 : vp_in (i + 4) L) (h5 : vp_in (i + 5) L) (hc : cells + 1 ≤ 601024 ∧ slots + 6 ≤ 7293034) (hf : kLsel 35 u (xs (i + 1).toNatClampNeg) (xs (i + 2).toNatClampNeg) (xs (i + 3).toNatClampNeg) (xs (i + 4).toNatClampNeg) (xs (i + 5).toNatClampNeg) = some u') (K : ∀ (H : Heap) (locs : List Loc) (ls : Array Slot), k_Uv D G ad u' H → va_S (k_A ad sz) s.heap H locs → lv_has ls 9 [(4, .int i), (3, .ref (ad 6 0)), (2, .ref (ad 5 0)), (1, .ref (ad 0 0)), (0, .ref b)] → W p l e room_1 s m args below meth c H locs (cells + 1) (slots + 6) Q (F0 m 2118 ls [])) : W p l e room_1 s m args below meth c H locs cells slots Q (F0 m 1685 ls []) := by
  have hf : (k_bd (f_L_steer u (xs (i + 1).toNatClampNeg)) fun r => k_bd (f_X11_steer (r.1 5) (xs (i + 1).toNatClampNeg)) fun q => kLck r q) = some u' := hf
  refine lv_aload_n X.1 X.2.1 dL_law_1685 rfl (lv_at hl 3 rfl) ?_
  refine lv_aload_n X.1 X.2.1 dL_law_1686 rfl (lv_at hl 4 rfl) ?_
  refine lv_iload X.1 X.2.1 dL_law_1687 (lv_at hl 0 rfl) ?_
  refine lv_iconst (v := 1) X.1 X.2.1 dL_law_1689 (by decide) ?_
  refine lv_iadd X.1 X.2.1 dL_law_1690 ?_
  refine va_sld X.1 X.2.1 hX hbl hbA hS h1 dL_law_1691 ?_
  refine lv_aload_n X.1 X.2.1 dL_law_1692 rfl (lv_at hl 1 rfl) ?_
  obtain ⟨r, hr, hf⟩ := k_bdE hf
  refine kL_backi X hS (kL_runSW (As := [.ref (ad 0 0), .int (xs (i + 1).toNatClampNeg), .ref (ad 6 0)]) (rest := []) X hS hU slw_L_239 (c_L_steer X.2.2.2.2.2.2.1 hlT hr) rfl rfl rfl hl.1 ⟨Nat.le_of_ble_eq_true rfl, Nat.le_of_ble_eq_true rfl⟩ (Nat.le_of_ble_eq_true rfl) dL_law_1693 hc) (fun H locs hU hS => ?_)
  refine lv_istore (lv' := [(5, .int r.2), (4, .int i), (3, .ref (ad 6 0)), (2, .ref (ad 5 0)), (1, .ref (ad 0 0)), (0, .ref b)]) X.1 X.2.1 dL_law_1696 hl (by decide) rfl (fun ls hl => ?_)
  refine lv_aload_n X.1 X.2.1 dL_law_1698 rfl (lv_at hl 3 rfl) ?_
  refine lv_aload_n X.1 X.2.1 dL_law_1699 rfl (lv_at hl 5 rfl) ?_
  refine lv_iload X.1 X.2.1 dL_law_1700 (lv_at hl 1 rfl) ?_
  refine lv_iconst (v := 1) X.1 X.2.1 dL_law_1702 (by decide) ?_
  refine lv_iadd X.1 X.2.1 dL_law_1703 ?_
  refine va_sld X.1 X.2.1 hX hbl hbA hS h1 dL_law_1704 ?_
  obtain ⟨q, hq, hf⟩ := k_bdE hf
  refine k_backi X hS (k_runV (As := [.int (xs (i + 1).toNatClampNeg)]) (rest := []) X hS hU sh_5_0 (by decide) rfl vl_L_241 (c_X11_steer X.2.2.2.2.2.2.1 rfl hq) rfl rfl rfl hl.1 ⟨Nat.le_of_ble_eq_true rfl, Nat.le_of_ble_eq_true rfl⟩ (Nat.le_of_ble_eq_true rfl) dL_law_1705 hc) (fun H locs hU hS => ?_)
  refine lv_istore (lv' := [(6, .int q.2), (5, .int r.2), (4, .int i), (3, .ref (ad 6 0)), (2, .ref (ad 5 0)), (1, .ref (ad 0 0)), (0, .ref b)]) X.1 X.2.1 dL_law_1708 hl (by decide) rfl (fun ls hl => ?_)
  obtain ⟨hk, hf⟩ := k_ckE hf
  have hz9 := Option.some.inj hf
  subst hz9
  refine lv_aload_n X.1 X.2.1 dL_law_1710 rfl (lv_at hl 4 rfl) ?_
  refine k_backi X hS (k_runV (As := []) (rest := []) X hS hU sh_5_0 (by decide) rfl vl_L_113 (c_X11_thrown (w := q.1) X.2.2.2.2.2.2.1 (k_uc_s _ _ _) (show f_X11_thrown q.1 = some (q.1 0 0) from rfl)) rfl rfl rfl hl.1 ⟨Nat.le_of_ble_eq_true rfl, Nat.le_of_ble_eq_true rfl⟩ (Nat.le_of_ble_eq_true rfl) dL_law_1711 hc) (fun H locs hU hS => ?_)
  refine lv_iload X.1 X.2.1 dL_law_1714 (lv_at hl 1 rfl) ?_
  refine lv_icmp_eq (tgt := 1721) X.1 X.2.1 dL_law_1716 (by decide) (fun _ => ?_) (fun q9 => absurd hk.1 q9)
  refine lv_iload X.1 X.2.1 dL_law_1721 (lv_at hl 1 rfl) ?_
  refine lv_if_ne (tgt := 1738) X.1 X.2.1 dL_law_1723 (by decide) (fun _ => ?_) (fun h0 => ?_)
  · refine lv_goto (tgt := 2118) X.1 X.2.1 dL_law_1738 (by decide) ?_
    exact K _ _ _ hU hS (lv_sub hl [2, 3, 4, 5, 6] rfl)
  · refine lv_aload_n X.1 X.2.1 dL_law_1726 rfl (lv_at hl 3 rfl) ?_
    refine lv_iconst (v := 0) X.1 X.2.1 dL_law_1727 (by decide) ?_
    refine k_jld sh_6_0 X hU dL_law_1728 ?_
    refine lv_iload X.1 X.2.1 dL_law_1729 (lv_at hl 0 rfl) ?_
    refine lv_i2l (v := q.2.toInt64) X.1 X.2.1 dL_law_1731 rfl ?_
    refine W.lcmp X.1 X.2.1 dL_law_1732 ?_
    refine lv_if_eq (tgt := 1738) X.1 X.2.1 dL_law_1733 (by decide) (fun _ => ?_) (fun q9 => absurd (kL_cmp0 (hk.2 h0)) q9)
    refine lv_goto (tgt := 2118) X.1 X.2.1 dL_law_1738 (by decide) ?_
    exact K _ _ _ hU hS (lv_sub hl [2, 3, 4, 5, 6] rfl)
set_option maxRecDepth 100000 in
set_option maxHeartbeats 4000000 in
theorem kL_36 {p : Program} {l : Launch} {e : Env} {s : State} {m : MethodId} {args : Array Value} {below : List Frame} {meth : Method} {c : Code} {H : Heap} {locs : List Loc} {cells slots : Nat} {Q : State → Prop} {D : va_G} {G : Nat → ClassId} {ad : Nat → Nat → Nat} {sz : Nat} {u u' : k_U} {b L : Nat} {xs : Nat → Int32} {i : Int32} {ls : Array Slot} (hlT : l.stackTraces = false) (X : k_Cx p s m args c RL cL_law 9 D G ad sz) (hU : k_Uv D G ad u H) (hS : va_S (k_A ad sz) s.heap H locs) (hX : va_X b L xs s s.heap) (hbl : b < s.heap.size) (hbA : ¬ k_A ad sz b) (hl : lv_has ls 9 [(4, .int i), (3, .ref (ad 6 0)), (2, .ref (ad 5 0)), (1, .ref (ad 0 0)), (0, .ref b)]) (h1 : vp_in (i + 1) L) (h2 : vp_in (i + 2) L) (h3 : vp_in (i + 3) L) (h4 : vp_in (i + 4) L) (h5 : vp_in (i + 5) L) (hc : cells + 1 ≤ 601024 ∧ slots + 6 ≤ 7293034) (hf : kLsel 36 u (xs (i + 1).toNatClampNeg) (xs (i + 2).toNatClampNeg) (xs (i + 3).toNatClampNeg) (xs (i + 4).toNatClampNeg) (xs (i + 5).toNatClampNeg) = some u') (K : ∀ (H : Heap) (locs : List Loc) (ls : Array Slot), k_Uv D G ad u' H → va_S (k_A ad sz) s.heap H locs → lv_has ls 9 [(4, .int i), (3, .ref (ad 6 0)), (2, .ref (ad 5 0)), (1, .ref (ad 0 0)), (0, .ref b)] → W p l e room_1 s m args below meth c H locs (cells + 1) (slots + 6) Q (F0 m 2118 ls [])) : W p l e room_1 s m args below meth c H locs cells slots Q (F0 m 1741 ls []) := by
  have hf : (k_bd (f_L_setTarget u (xs (i + 1).toNatClampNeg) (xs (i + 2).toNatClampNeg)) fun r => k_bd (f_X11_setTarget (r.1 5) (xs (i + 1).toNatClampNeg) (xs (i + 2).toNatClampNeg)) fun q => kLck r q) = some u' := hf
  refine lv_aload_n X.1 X.2.1 dL_law_1741 rfl (lv_at hl 3 rfl) ?_
  refine lv_aload_n X.1 X.2.1 dL_law_1742 rfl (lv_at hl 4 rfl) ?_
  refine lv_iload X.1 X.2.1 dL_law_1743 (lv_at hl 0 rfl) ?_
  refine lv_iconst (v := 1) X.1 X.2.1 dL_law_1745 (by decide) ?_
  refine lv_iadd X.1 X.2.1 dL_law_1746 ?_
  refine va_sld X.1 X.2.1 hX hbl hbA hS h1 dL_law_1747 ?_
  refine lv_aload_n X.1 X.2.1 dL_law_1748 rfl (lv_at hl 4 rfl) ?_
  refine lv_iload X.1 X.2.1 dL_law_1749 (lv_at hl 0 rfl) ?_
  refine lv_iconst (v := 2) X.1 X.2.1 dL_law_1751 (by decide) ?_
  refine lv_iadd X.1 X.2.1 dL_law_1752 ?_
  refine va_sld X.1 X.2.1 hX hbl hbA hS h2 dL_law_1753 ?_
  refine lv_aload_n X.1 X.2.1 dL_law_1754 rfl (lv_at hl 1 rfl) ?_
  obtain ⟨r, hr, hf⟩ := k_bdE hf
  refine kL_backi X hS (kL_runSW (As := [.ref (ad 0 0), .int (xs (i + 1).toNatClampNeg), .int (xs (i + 2).toNatClampNeg), .ref (ad 6 0)]) (rest := []) X hS hU slw_L_242 (c_L_setTarget X.2.2.2.2.2.2.1 hlT hr) rfl rfl rfl hl.1 ⟨Nat.le_of_ble_eq_true rfl, Nat.le_of_ble_eq_true rfl⟩ (Nat.le_of_ble_eq_true rfl) dL_law_1755 hc) (fun H locs hU hS => ?_)
  refine lv_istore (lv' := [(5, .int r.2), (4, .int i), (3, .ref (ad 6 0)), (2, .ref (ad 5 0)), (1, .ref (ad 0 0)), (0, .ref b)]) X.1 X.2.1 dL_law_1758 hl (by decide) rfl (fun ls hl => ?_)
  refine lv_aload_n X.1 X.2.1 dL_law_1760 rfl (lv_at hl 3 rfl) ?_
  refine lv_aload_n X.1 X.2.1 dL_law_1761 rfl (lv_at hl 5 rfl) ?_
  refine lv_iload X.1 X.2.1 dL_law_1762 (lv_at hl 1 rfl) ?_
  refine lv_iconst (v := 1) X.1 X.2.1 dL_law_1764 (by decide) ?_
  refine lv_iadd X.1 X.2.1 dL_law_1765 ?_
  refine va_sld X.1 X.2.1 hX hbl hbA hS h1 dL_law_1766 ?_
  refine lv_aload_n X.1 X.2.1 dL_law_1767 rfl (lv_at hl 5 rfl) ?_
  refine lv_iload X.1 X.2.1 dL_law_1768 (lv_at hl 1 rfl) ?_
  refine lv_iconst (v := 2) X.1 X.2.1 dL_law_1770 (by decide) ?_
  refine lv_iadd X.1 X.2.1 dL_law_1771 ?_
  refine va_sld X.1 X.2.1 hX hbl hbA hS h2 dL_law_1772 ?_
  obtain ⟨q, hq, hf⟩ := k_bdE hf
  refine k_backi X hS (k_runV (As := [.int (xs (i + 1).toNatClampNeg), .int (xs (i + 2).toNatClampNeg)]) (rest := []) X hS hU sh_5_0 (by decide) rfl vl_L_244 (c_X11_setTarget X.2.2.2.2.2.2.1 rfl hq) rfl rfl rfl hl.1 ⟨Nat.le_of_ble_eq_true rfl, Nat.le_of_ble_eq_true rfl⟩ (Nat.le_of_ble_eq_true rfl) dL_law_1773 hc) (fun H locs hU hS => ?_)
  refine lv_istore (lv' := [(6, .int q.2), (5, .int r.2), (4, .int i), (3, .ref (ad 6 0)), (2, .ref (ad 5 0)), (1, .ref (ad 0 0)), (0, .ref b)]) X.1 X.2.1 dL_law_1776 hl (by decide) rfl (fun ls hl => ?_)
  obtain ⟨hk, hf⟩ := k_ckE hf
  have hz9 := Option.some.inj hf
  subst hz9
  refine lv_aload_n X.1 X.2.1 dL_law_1778 rfl (lv_at hl 4 rfl) ?_
  refine k_backi X hS (k_runV (As := []) (rest := []) X hS hU sh_5_0 (by decide) rfl vl_L_113 (c_X11_thrown (w := q.1) X.2.2.2.2.2.2.1 (k_uc_s _ _ _) (show f_X11_thrown q.1 = some (q.1 0 0) from rfl)) rfl rfl rfl hl.1 ⟨Nat.le_of_ble_eq_true rfl, Nat.le_of_ble_eq_true rfl⟩ (Nat.le_of_ble_eq_true rfl) dL_law_1779 hc) (fun H locs hU hS => ?_)
  refine lv_iload X.1 X.2.1 dL_law_1782 (lv_at hl 1 rfl) ?_
  refine lv_icmp_eq (tgt := 1789) X.1 X.2.1 dL_law_1784 (by decide) (fun _ => ?_) (fun q9 => absurd hk.1 q9)
  refine lv_iload X.1 X.2.1 dL_law_1789 (lv_at hl 1 rfl) ?_
  refine lv_if_ne (tgt := 1806) X.1 X.2.1 dL_law_1791 (by decide) (fun _ => ?_) (fun h0 => ?_)
  · refine lv_goto (tgt := 2118) X.1 X.2.1 dL_law_1806 (by decide) ?_
    exact K _ _ _ hU hS (lv_sub hl [2, 3, 4, 5, 6] rfl)
  · refine lv_aload_n X.1 X.2.1 dL_law_1794 rfl (lv_at hl 3 rfl) ?_
    refine lv_iconst (v := 0) X.1 X.2.1 dL_law_1795 (by decide) ?_
    refine k_jld sh_6_0 X hU dL_law_1796 ?_
    refine lv_iload X.1 X.2.1 dL_law_1797 (lv_at hl 0 rfl) ?_
    refine lv_i2l (v := q.2.toInt64) X.1 X.2.1 dL_law_1799 rfl ?_
    refine W.lcmp X.1 X.2.1 dL_law_1800 ?_
    refine lv_if_eq (tgt := 1806) X.1 X.2.1 dL_law_1801 (by decide) (fun _ => ?_) (fun q9 => absurd (kL_cmp0 (hk.2 h0)) q9)
    refine lv_goto (tgt := 2118) X.1 X.2.1 dL_law_1806 (by decide) ?_
    exact K _ _ _ hU hS (lv_sub hl [2, 3, 4, 5, 6] rfl)
set_option maxRecDepth 100000 in
set_option maxHeartbeats 4000000 in
theorem kL_37 {p : Program} {l : Launch} {e : Env} {s : State} {m : MethodId} {args : Array Value} {below : List Frame} {meth : Method} {c : Code} {H : Heap} {locs : List Loc} {cells slots : Nat} {Q : State → Prop} {D : va_G} {G : Nat → ClassId} {ad : Nat → Nat → Nat} {sz : Nat} {u u' : k_U} {b L : Nat} {xs : Nat → Int32} {i : Int32} {ls : Array Slot} (hlT : l.stackTraces = false) (X : k_Cx p s m args c RL cL_law 9 D G ad sz) (hU : k_Uv D G ad u H) (hS : va_S (k_A ad sz) s.heap H locs) (hX : va_X b L xs s s.heap) (hbl : b < s.heap.size) (hbA : ¬ k_A ad sz b) (hl : lv_has ls 9 [(4, .int i), (3, .ref (ad 6 0)), (2, .ref (ad 5 0)), (1, .ref (ad 0 0)), (0, .ref b)]) (h1 : vp_in (i + 1) L) (h2 : vp_in (i + 2) L) (h3 : vp_in (i + 3) L) (h4 : vp_in (i + 4) L) (h5 : vp_in (i + 5) L) (hc : cells + 1 ≤ 601024 ∧ slots + 6 ≤ 7293034) (hf : kLsel 37 u (xs (i + 1).toNatClampNeg) (xs (i + 2).toNatClampNeg) (xs (i + 3).toNatClampNeg) (xs (i + 4).toNatClampNeg) (xs (i + 5).toNatClampNeg) = some u') (K : ∀ (H : Heap) (locs : List Loc) (ls : Array Slot), k_Uv D G ad u' H → va_S (k_A ad sz) s.heap H locs → lv_has ls 9 [(4, .int i), (3, .ref (ad 6 0)), (2, .ref (ad 5 0)), (1, .ref (ad 0 0)), (0, .ref b)] → W p l e room_1 s m args below meth c H locs (cells + 1) (slots + 6) Q (F0 m 2118 ls [])) : W p l e room_1 s m args below meth c H locs cells slots Q (F0 m 1809 ls []) := by
  by_cases hz : (xs (i + 2).toNatClampNeg) = 0
  · have hf : (k_bd (f_L_jam u (xs (i + 1).toNatClampNeg) (if (xs (i + 2).toNatClampNeg) = 0 then 0 else 1)) fun r => k_bd (f_X11_jam (r.1 5) (xs (i + 1).toNatClampNeg) (if (xs (i + 2).toNatClampNeg) = 0 then 0 else 1)) fun q => kLck r q) = some u' := hf
    rw [if_pos hz] at hf
    refine lv_aload_n X.1 X.2.1 dL_law_1809 rfl (lv_at hl 3 rfl) ?_
    refine lv_aload_n X.1 X.2.1 dL_law_1810 rfl (lv_at hl 4 rfl) ?_
    refine lv_iload X.1 X.2.1 dL_law_1811 (lv_at hl 0 rfl) ?_
    refine lv_iconst (v := 1) X.1 X.2.1 dL_law_1813 (by decide) ?_
    refine lv_iadd X.1 X.2.1 dL_law_1814 ?_
    refine va_sld X.1 X.2.1 hX hbl hbA hS h1 dL_law_1815 ?_
    refine lv_aload_n X.1 X.2.1 dL_law_1816 rfl (lv_at hl 4 rfl) ?_
    refine lv_iload X.1 X.2.1 dL_law_1817 (lv_at hl 0 rfl) ?_
    refine lv_iconst (v := 2) X.1 X.2.1 dL_law_1819 (by decide) ?_
    refine lv_iadd X.1 X.2.1 dL_law_1820 ?_
    refine va_sld X.1 X.2.1 hX hbl hbA hS h2 dL_law_1821 ?_
    refine lv_if_eq (tgt := 1829) X.1 X.2.1 dL_law_1822 (by decide) (fun _ => ?_) (fun q9 => absurd hz q9)
    refine lv_iconst (v := 0) X.1 X.2.1 dL_law_1829 (by decide) ?_
    refine lv_aload_n X.1 X.2.1 dL_law_1830 rfl (lv_at hl 1 rfl) ?_
    obtain ⟨r, hr, hf⟩ := k_bdE hf
    refine kL_backi X hS (kL_runSW (As := [.ref (ad 0 0), .int (xs (i + 1).toNatClampNeg), .int 0, .ref (ad 6 0)]) (rest := []) X hS hU slw_L_245 (c_L_jam X.2.2.2.2.2.2.1 hlT hr) rfl rfl rfl hl.1 ⟨Nat.le_of_ble_eq_true rfl, Nat.le_of_ble_eq_true rfl⟩ (Nat.le_of_ble_eq_true rfl) dL_law_1831 hc) (fun H locs hU hS => ?_)
    refine lv_istore (lv' := [(5, .int r.2), (4, .int i), (3, .ref (ad 6 0)), (2, .ref (ad 5 0)), (1, .ref (ad 0 0)), (0, .ref b)]) X.1 X.2.1 dL_law_1834 hl (by decide) rfl (fun ls hl => ?_)
    refine lv_aload_n X.1 X.2.1 dL_law_1836 rfl (lv_at hl 3 rfl) ?_
    refine lv_aload_n X.1 X.2.1 dL_law_1837 rfl (lv_at hl 5 rfl) ?_
    refine lv_iload X.1 X.2.1 dL_law_1838 (lv_at hl 1 rfl) ?_
    refine lv_iconst (v := 1) X.1 X.2.1 dL_law_1840 (by decide) ?_
    refine lv_iadd X.1 X.2.1 dL_law_1841 ?_
    refine va_sld X.1 X.2.1 hX hbl hbA hS h1 dL_law_1842 ?_
    refine lv_aload_n X.1 X.2.1 dL_law_1843 rfl (lv_at hl 5 rfl) ?_
    refine lv_iload X.1 X.2.1 dL_law_1844 (lv_at hl 1 rfl) ?_
    refine lv_iconst (v := 2) X.1 X.2.1 dL_law_1846 (by decide) ?_
    refine lv_iadd X.1 X.2.1 dL_law_1847 ?_
    refine va_sld X.1 X.2.1 hX hbl hbA hS h2 dL_law_1848 ?_
    refine lv_if_eq (tgt := 1856) X.1 X.2.1 dL_law_1849 (by decide) (fun _ => ?_) (fun q9 => absurd hz q9)
    refine lv_iconst (v := 0) X.1 X.2.1 dL_law_1856 (by decide) ?_
    obtain ⟨q, hq, hf⟩ := k_bdE hf
    refine k_backi X hS (k_runV (As := [.int (xs (i + 1).toNatClampNeg), .int 0]) (rest := []) X hS hU sh_5_0 (by decide) rfl vl_L_248 (c_X11_jam X.2.2.2.2.2.2.1 rfl hq) rfl rfl rfl hl.1 ⟨Nat.le_of_ble_eq_true rfl, Nat.le_of_ble_eq_true rfl⟩ (Nat.le_of_ble_eq_true rfl) dL_law_1857 hc) (fun H locs hU hS => ?_)
    refine lv_istore (lv' := [(6, .int q.2), (5, .int r.2), (4, .int i), (3, .ref (ad 6 0)), (2, .ref (ad 5 0)), (1, .ref (ad 0 0)), (0, .ref b)]) X.1 X.2.1 dL_law_1860 hl (by decide) rfl (fun ls hl => ?_)
    obtain ⟨hk, hf⟩ := k_ckE hf
    have hz9 := Option.some.inj hf
    subst hz9
    refine lv_aload_n X.1 X.2.1 dL_law_1862 rfl (lv_at hl 4 rfl) ?_
    refine k_backi X hS (k_runV (As := []) (rest := []) X hS hU sh_5_0 (by decide) rfl vl_L_113 (c_X11_thrown (w := q.1) X.2.2.2.2.2.2.1 (k_uc_s _ _ _) (show f_X11_thrown q.1 = some (q.1 0 0) from rfl)) rfl rfl rfl hl.1 ⟨Nat.le_of_ble_eq_true rfl, Nat.le_of_ble_eq_true rfl⟩ (Nat.le_of_ble_eq_true rfl) dL_law_1863 hc) (fun H locs hU hS => ?_)
    refine lv_iload X.1 X.2.1 dL_law_1866 (lv_at hl 1 rfl) ?_
    refine lv_icmp_eq (tgt := 1873) X.1 X.2.1 dL_law_1868 (by decide) (fun _ => ?_) (fun q9 => absurd hk.1 q9)
    refine lv_iload X.1 X.2.1 dL_law_1873 (lv_at hl 1 rfl) ?_
    refine lv_if_ne (tgt := 1890) X.1 X.2.1 dL_law_1875 (by decide) (fun _ => ?_) (fun h0 => ?_)
    · refine lv_goto (tgt := 2118) X.1 X.2.1 dL_law_1890 (by decide) ?_
      exact K _ _ _ hU hS (lv_sub hl [2, 3, 4, 5, 6] rfl)
    · refine lv_aload_n X.1 X.2.1 dL_law_1878 rfl (lv_at hl 3 rfl) ?_
      refine lv_iconst (v := 0) X.1 X.2.1 dL_law_1879 (by decide) ?_
      refine k_jld sh_6_0 X hU dL_law_1880 ?_
      refine lv_iload X.1 X.2.1 dL_law_1881 (lv_at hl 0 rfl) ?_
      refine lv_i2l (v := q.2.toInt64) X.1 X.2.1 dL_law_1883 rfl ?_
      refine W.lcmp X.1 X.2.1 dL_law_1884 ?_
      refine lv_if_eq (tgt := 1890) X.1 X.2.1 dL_law_1885 (by decide) (fun _ => ?_) (fun q9 => absurd (kL_cmp0 (hk.2 h0)) q9)
      refine lv_goto (tgt := 2118) X.1 X.2.1 dL_law_1890 (by decide) ?_
      exact K _ _ _ hU hS (lv_sub hl [2, 3, 4, 5, 6] rfl)
  · have hf : (k_bd (f_L_jam u (xs (i + 1).toNatClampNeg) (if (xs (i + 2).toNatClampNeg) = 0 then 0 else 1)) fun r => k_bd (f_X11_jam (r.1 5) (xs (i + 1).toNatClampNeg) (if (xs (i + 2).toNatClampNeg) = 0 then 0 else 1)) fun q => kLck r q) = some u' := hf
    rw [if_neg hz] at hf
    refine lv_aload_n X.1 X.2.1 dL_law_1809 rfl (lv_at hl 3 rfl) ?_
    refine lv_aload_n X.1 X.2.1 dL_law_1810 rfl (lv_at hl 4 rfl) ?_
    refine lv_iload X.1 X.2.1 dL_law_1811 (lv_at hl 0 rfl) ?_
    refine lv_iconst (v := 1) X.1 X.2.1 dL_law_1813 (by decide) ?_
    refine lv_iadd X.1 X.2.1 dL_law_1814 ?_
    refine va_sld X.1 X.2.1 hX hbl hbA hS h1 dL_law_1815 ?_
    refine lv_aload_n X.1 X.2.1 dL_law_1816 rfl (lv_at hl 4 rfl) ?_
    refine lv_iload X.1 X.2.1 dL_law_1817 (lv_at hl 0 rfl) ?_
    refine lv_iconst (v := 2) X.1 X.2.1 dL_law_1819 (by decide) ?_
    refine lv_iadd X.1 X.2.1 dL_law_1820 ?_
    refine va_sld X.1 X.2.1 hX hbl hbA hS h2 dL_law_1821 ?_
    refine lv_if_eq (tgt := 1829) X.1 X.2.1 dL_law_1822 (by decide) (fun q9 => absurd q9 hz) (fun _ => ?_)
    refine lv_iconst (v := 1) X.1 X.2.1 dL_law_1825 (by decide) ?_
    refine lv_goto (tgt := 1830) X.1 X.2.1 dL_law_1826 (by decide) ?_
    refine lv_aload_n X.1 X.2.1 dL_law_1830 rfl (lv_at hl 1 rfl) ?_
    obtain ⟨r, hr, hf⟩ := k_bdE hf
    refine kL_backi X hS (kL_runSW (As := [.ref (ad 0 0), .int (xs (i + 1).toNatClampNeg), .int 1, .ref (ad 6 0)]) (rest := []) X hS hU slw_L_245 (c_L_jam X.2.2.2.2.2.2.1 hlT hr) rfl rfl rfl hl.1 ⟨Nat.le_of_ble_eq_true rfl, Nat.le_of_ble_eq_true rfl⟩ (Nat.le_of_ble_eq_true rfl) dL_law_1831 hc) (fun H locs hU hS => ?_)
    refine lv_istore (lv' := [(5, .int r.2), (4, .int i), (3, .ref (ad 6 0)), (2, .ref (ad 5 0)), (1, .ref (ad 0 0)), (0, .ref b)]) X.1 X.2.1 dL_law_1834 hl (by decide) rfl (fun ls hl => ?_)
    refine lv_aload_n X.1 X.2.1 dL_law_1836 rfl (lv_at hl 3 rfl) ?_
    refine lv_aload_n X.1 X.2.1 dL_law_1837 rfl (lv_at hl 5 rfl) ?_
    refine lv_iload X.1 X.2.1 dL_law_1838 (lv_at hl 1 rfl) ?_
    refine lv_iconst (v := 1) X.1 X.2.1 dL_law_1840 (by decide) ?_
    refine lv_iadd X.1 X.2.1 dL_law_1841 ?_
    refine va_sld X.1 X.2.1 hX hbl hbA hS h1 dL_law_1842 ?_
    refine lv_aload_n X.1 X.2.1 dL_law_1843 rfl (lv_at hl 5 rfl) ?_
    refine lv_iload X.1 X.2.1 dL_law_1844 (lv_at hl 1 rfl) ?_
    refine lv_iconst (v := 2) X.1 X.2.1 dL_law_1846 (by decide) ?_
    refine lv_iadd X.1 X.2.1 dL_law_1847 ?_
    refine va_sld X.1 X.2.1 hX hbl hbA hS h2 dL_law_1848 ?_
    refine lv_if_eq (tgt := 1856) X.1 X.2.1 dL_law_1849 (by decide) (fun q9 => absurd q9 hz) (fun _ => ?_)
    refine lv_iconst (v := 1) X.1 X.2.1 dL_law_1852 (by decide) ?_
    refine lv_goto (tgt := 1857) X.1 X.2.1 dL_law_1853 (by decide) ?_
    obtain ⟨q, hq, hf⟩ := k_bdE hf
    refine k_backi X hS (k_runV (As := [.int (xs (i + 1).toNatClampNeg), .int 1]) (rest := []) X hS hU sh_5_0 (by decide) rfl vl_L_248 (c_X11_jam X.2.2.2.2.2.2.1 rfl hq) rfl rfl rfl hl.1 ⟨Nat.le_of_ble_eq_true rfl, Nat.le_of_ble_eq_true rfl⟩ (Nat.le_of_ble_eq_true rfl) dL_law_1857 hc) (fun H locs hU hS => ?_)
    refine lv_istore (lv' := [(6, .int q.2), (5, .int r.2), (4, .int i), (3, .ref (ad 6 0)), (2, .ref (ad 5 0)), (1, .ref (ad 0 0)), (0, .ref b)]) X.1 X.2.1 dL_law_1860 hl (by decide) rfl (fun ls hl => ?_)
    obtain ⟨hk, hf⟩ := k_ckE hf
    have hz9 := Option.some.inj hf
    subst hz9
    refine lv_aload_n X.1 X.2.1 dL_law_1862 rfl (lv_at hl 4 rfl) ?_
    refine k_backi X hS (k_runV (As := []) (rest := []) X hS hU sh_5_0 (by decide) rfl vl_L_113 (c_X11_thrown (w := q.1) X.2.2.2.2.2.2.1 (k_uc_s _ _ _) (show f_X11_thrown q.1 = some (q.1 0 0) from rfl)) rfl rfl rfl hl.1 ⟨Nat.le_of_ble_eq_true rfl, Nat.le_of_ble_eq_true rfl⟩ (Nat.le_of_ble_eq_true rfl) dL_law_1863 hc) (fun H locs hU hS => ?_)
    refine lv_iload X.1 X.2.1 dL_law_1866 (lv_at hl 1 rfl) ?_
    refine lv_icmp_eq (tgt := 1873) X.1 X.2.1 dL_law_1868 (by decide) (fun _ => ?_) (fun q9 => absurd hk.1 q9)
    refine lv_iload X.1 X.2.1 dL_law_1873 (lv_at hl 1 rfl) ?_
    refine lv_if_ne (tgt := 1890) X.1 X.2.1 dL_law_1875 (by decide) (fun _ => ?_) (fun h0 => ?_)
    · refine lv_goto (tgt := 2118) X.1 X.2.1 dL_law_1890 (by decide) ?_
      exact K _ _ _ hU hS (lv_sub hl [2, 3, 4, 5, 6] rfl)
    · refine lv_aload_n X.1 X.2.1 dL_law_1878 rfl (lv_at hl 3 rfl) ?_
      refine lv_iconst (v := 0) X.1 X.2.1 dL_law_1879 (by decide) ?_
      refine k_jld sh_6_0 X hU dL_law_1880 ?_
      refine lv_iload X.1 X.2.1 dL_law_1881 (lv_at hl 0 rfl) ?_
      refine lv_i2l (v := q.2.toInt64) X.1 X.2.1 dL_law_1883 rfl ?_
      refine W.lcmp X.1 X.2.1 dL_law_1884 ?_
      refine lv_if_eq (tgt := 1890) X.1 X.2.1 dL_law_1885 (by decide) (fun _ => ?_) (fun q9 => absurd (kL_cmp0 (hk.2 h0)) q9)
      refine lv_goto (tgt := 2118) X.1 X.2.1 dL_law_1890 (by decide) ?_
      exact K _ _ _ hU hS (lv_sub hl [2, 3, 4, 5, 6] rfl)
set_option maxRecDepth 100000 in
set_option maxHeartbeats 4000000 in
theorem kL_38 {p : Program} {l : Launch} {e : Env} {s : State} {m : MethodId} {args : Array Value} {below : List Frame} {meth : Method} {c : Code} {H : Heap} {locs : List Loc} {cells slots : Nat} {Q : State → Prop} {D : va_G} {G : Nat → ClassId} {ad : Nat → Nat → Nat} {sz : Nat} {u u' : k_U} {b L : Nat} {xs : Nat → Int32} {i : Int32} {ls : Array Slot} (hlT : l.stackTraces = false) (X : k_Cx p s m args c RL cL_law 9 D G ad sz) (hU : k_Uv D G ad u H) (hS : va_S (k_A ad sz) s.heap H locs) (hX : va_X b L xs s s.heap) (hbl : b < s.heap.size) (hbA : ¬ k_A ad sz b) (hl : lv_has ls 9 [(4, .int i), (3, .ref (ad 6 0)), (2, .ref (ad 5 0)), (1, .ref (ad 0 0)), (0, .ref b)]) (h1 : vp_in (i + 1) L) (h2 : vp_in (i + 2) L) (h3 : vp_in (i + 3) L) (h4 : vp_in (i + 4) L) (h5 : vp_in (i + 5) L) (hc : cells + 1 ≤ 601024 ∧ slots + 6 ≤ 7293034) (hf : kLsel 38 u (xs (i + 1).toNatClampNeg) (xs (i + 2).toNatClampNeg) (xs (i + 3).toNatClampNeg) (xs (i + 4).toNatClampNeg) (xs (i + 5).toNatClampNeg) = some u') (K : ∀ (H : Heap) (locs : List Loc) (ls : Array Slot), k_Uv D G ad u' H → va_S (k_A ad sz) s.heap H locs → lv_has ls 9 [(4, .int i), (3, .ref (ad 6 0)), (2, .ref (ad 5 0)), (1, .ref (ad 0 0)), (0, .ref b)] → W p l e room_1 s m args below meth c H locs (cells + 1) (slots + 6) Q (F0 m 2118 ls [])) : W p l e room_1 s m args below meth c H locs cells slots Q (F0 m 1893 ls []) := by
  have hf : (k_bd (f_X10_write u) fun r => k_bd (f_X11_write (r.1 5)) fun q => k_ck (r.2 = q.2) (some (k_uc r.1 5 q.1))) = some u' := hf
  refine lv_aload_n X.1 X.2.1 dL_law_1893 rfl (lv_at hl 3 rfl) ?_
  obtain ⟨r, hr, hf⟩ := k_bdE hf
  refine k_backi X hS (k_runV (As := []) (rest := []) X hS hU sh_0_0 (by decide) rfl vl_L_249 (c_X10_write X.2.2.2.2.2.2.1 hr) rfl rfl rfl hl.1 ⟨Nat.le_of_ble_eq_true rfl, Nat.le_of_ble_eq_true rfl⟩ (Nat.le_of_ble_eq_true rfl) dL_law_1894 ⟨Nat.le_trans (Nat.le_succ cells) hc.1, Nat.le_trans (Nat.le_add_right slots 6) hc.2⟩) (fun H locs hU hS => ?_)
  refine lv_aload_n X.1 X.2.1 dL_law_1897 rfl (lv_at hl 2 rfl) ?_
  obtain ⟨q, hq, hf⟩ := k_bdE hf
  refine k_backi X hS (k_runV (As := []) (rest := [.int r.2]) X hS hU sh_5_0 (by decide) rfl vl_L_252 (c_X11_write X.2.2.2.2.2.2.1 rfl hq) rfl rfl rfl hl.1 ⟨Nat.le_of_ble_eq_true rfl, Nat.le_of_ble_eq_true rfl⟩ (Nat.le_of_ble_eq_true rfl) dL_law_1898 ⟨Nat.le_trans (Nat.le_succ cells) hc.1, Nat.le_trans (Nat.le_add_right slots 6) hc.2⟩) (fun H locs hU hS => ?_)
  obtain ⟨hk, hf⟩ := k_ckE hf
  have hz9 := Option.some.inj hf
  subst hz9
  refine lv_icmp_eq (tgt := 2118) X.1 X.2.1 dL_law_1901 (by decide) (fun _ => ?_) (fun q9 => absurd hk q9)
  refine W.widen (k := cells + 1) (n := slots + 6) (by omega) (by omega) ?_
  exact K _ _ _ hU hS (lv_sub hl [0, 1, 2, 3, 4] rfl)
set_option maxRecDepth 100000 in
set_option maxHeartbeats 4000000 in
theorem kL_39 {p : Program} {l : Launch} {e : Env} {s : State} {m : MethodId} {args : Array Value} {below : List Frame} {meth : Method} {c : Code} {H : Heap} {locs : List Loc} {cells slots : Nat} {Q : State → Prop} {D : va_G} {G : Nat → ClassId} {ad : Nat → Nat → Nat} {sz : Nat} {u u' : k_U} {b L : Nat} {xs : Nat → Int32} {i : Int32} {ls : Array Slot} (hlT : l.stackTraces = false) (X : k_Cx p s m args c RL cL_law 9 D G ad sz) (hU : k_Uv D G ad u H) (hS : va_S (k_A ad sz) s.heap H locs) (hX : va_X b L xs s s.heap) (hbl : b < s.heap.size) (hbA : ¬ k_A ad sz b) (hl : lv_has ls 9 [(4, .int i), (3, .ref (ad 6 0)), (2, .ref (ad 5 0)), (1, .ref (ad 0 0)), (0, .ref b)]) (h1 : vp_in (i + 1) L) (h2 : vp_in (i + 2) L) (h3 : vp_in (i + 3) L) (h4 : vp_in (i + 4) L) (h5 : vp_in (i + 5) L) (hc : cells + 1 ≤ 601024 ∧ slots + 6 ≤ 7293034) (hf : kLsel 39 u (xs (i + 1).toNatClampNeg) (xs (i + 2).toNatClampNeg) (xs (i + 3).toNatClampNeg) (xs (i + 4).toNatClampNeg) (xs (i + 5).toNatClampNeg) = some u') (K : ∀ (H : Heap) (locs : List Loc) (ls : Array Slot), k_Uv D G ad u' H → va_S (k_A ad sz) s.heap H locs → lv_has ls 9 [(4, .int i), (3, .ref (ad 6 0)), (2, .ref (ad 5 0)), (1, .ref (ad 0 0)), (0, .ref b)] → W p l e room_1 s m args below meth c H locs (cells + 1) (slots + 6) Q (F0 m 2118 ls [])) : W p l e room_1 s m args below meth c H locs cells slots Q (F0 m 1906 ls []) := by
  have hf : (k_bd (f_L_output u (xs (i + 1).toNatClampNeg)) fun r => k_bd (f_X11_output (r.1 5) (xs (i + 1).toNatClampNeg)) fun q => kLck r q) = some u' := hf
  refine lv_aload_n X.1 X.2.1 dL_law_1906 rfl (lv_at hl 3 rfl) ?_
  refine lv_aload_n X.1 X.2.1 dL_law_1907 rfl (lv_at hl 4 rfl) ?_
  refine lv_iload X.1 X.2.1 dL_law_1908 (lv_at hl 0 rfl) ?_
  refine lv_iconst (v := 1) X.1 X.2.1 dL_law_1910 (by decide) ?_
  refine lv_iadd X.1 X.2.1 dL_law_1911 ?_
  refine va_sld X.1 X.2.1 hX hbl hbA hS h1 dL_law_1912 ?_
  refine lv_aload_n X.1 X.2.1 dL_law_1913 rfl (lv_at hl 1 rfl) ?_
  obtain ⟨r, hr, hf⟩ := k_bdE hf
  refine kL_backi X hS (kL_runSW (As := [.ref (ad 0 0), .int (xs (i + 1).toNatClampNeg), .ref (ad 6 0)]) (rest := []) X hS hU slw_L_253 (c_L_output X.2.2.2.2.2.2.1 hlT hr) rfl rfl rfl hl.1 ⟨Nat.le_of_ble_eq_true rfl, Nat.le_of_ble_eq_true rfl⟩ (Nat.le_of_ble_eq_true rfl) dL_law_1914 hc) (fun H locs hU hS => ?_)
  refine lv_istore (lv' := [(5, .int r.2), (4, .int i), (3, .ref (ad 6 0)), (2, .ref (ad 5 0)), (1, .ref (ad 0 0)), (0, .ref b)]) X.1 X.2.1 dL_law_1917 hl (by decide) rfl (fun ls hl => ?_)
  refine lv_aload_n X.1 X.2.1 dL_law_1919 rfl (lv_at hl 3 rfl) ?_
  refine lv_aload_n X.1 X.2.1 dL_law_1920 rfl (lv_at hl 5 rfl) ?_
  refine lv_iload X.1 X.2.1 dL_law_1921 (lv_at hl 1 rfl) ?_
  refine lv_iconst (v := 1) X.1 X.2.1 dL_law_1923 (by decide) ?_
  refine lv_iadd X.1 X.2.1 dL_law_1924 ?_
  refine va_sld X.1 X.2.1 hX hbl hbA hS h1 dL_law_1925 ?_
  obtain ⟨q, hq, hf⟩ := k_bdE hf
  refine k_backi X hS (k_runV (As := [.int (xs (i + 1).toNatClampNeg)]) (rest := []) X hS hU sh_5_0 (by decide) rfl vl_L_255 (c_X11_output X.2.2.2.2.2.2.1 rfl hq) rfl rfl rfl hl.1 ⟨Nat.le_of_ble_eq_true rfl, Nat.le_of_ble_eq_true rfl⟩ (Nat.le_of_ble_eq_true rfl) dL_law_1926 hc) (fun H locs hU hS => ?_)
  refine lv_istore (lv' := [(6, .int q.2), (5, .int r.2), (4, .int i), (3, .ref (ad 6 0)), (2, .ref (ad 5 0)), (1, .ref (ad 0 0)), (0, .ref b)]) X.1 X.2.1 dL_law_1929 hl (by decide) rfl (fun ls hl => ?_)
  obtain ⟨hk, hf⟩ := k_ckE hf
  have hz9 := Option.some.inj hf
  subst hz9
  refine lv_aload_n X.1 X.2.1 dL_law_1931 rfl (lv_at hl 4 rfl) ?_
  refine k_backi X hS (k_runV (As := []) (rest := []) X hS hU sh_5_0 (by decide) rfl vl_L_113 (c_X11_thrown (w := q.1) X.2.2.2.2.2.2.1 (k_uc_s _ _ _) (show f_X11_thrown q.1 = some (q.1 0 0) from rfl)) rfl rfl rfl hl.1 ⟨Nat.le_of_ble_eq_true rfl, Nat.le_of_ble_eq_true rfl⟩ (Nat.le_of_ble_eq_true rfl) dL_law_1932 hc) (fun H locs hU hS => ?_)
  refine lv_iload X.1 X.2.1 dL_law_1935 (lv_at hl 1 rfl) ?_
  refine lv_icmp_eq (tgt := 1942) X.1 X.2.1 dL_law_1937 (by decide) (fun _ => ?_) (fun q9 => absurd hk.1 q9)
  refine lv_iload X.1 X.2.1 dL_law_1942 (lv_at hl 1 rfl) ?_
  refine lv_if_ne (tgt := 1959) X.1 X.2.1 dL_law_1944 (by decide) (fun _ => ?_) (fun h0 => ?_)
  · refine lv_goto (tgt := 2118) X.1 X.2.1 dL_law_1959 (by decide) ?_
    exact K _ _ _ hU hS (lv_sub hl [2, 3, 4, 5, 6] rfl)
  · refine lv_aload_n X.1 X.2.1 dL_law_1947 rfl (lv_at hl 3 rfl) ?_
    refine lv_iconst (v := 0) X.1 X.2.1 dL_law_1948 (by decide) ?_
    refine k_jld sh_6_0 X hU dL_law_1949 ?_
    refine lv_iload X.1 X.2.1 dL_law_1950 (lv_at hl 0 rfl) ?_
    refine lv_i2l (v := q.2.toInt64) X.1 X.2.1 dL_law_1952 rfl ?_
    refine W.lcmp X.1 X.2.1 dL_law_1953 ?_
    refine lv_if_eq (tgt := 1959) X.1 X.2.1 dL_law_1954 (by decide) (fun _ => ?_) (fun q9 => absurd (kL_cmp0 (hk.2 h0)) q9)
    refine lv_goto (tgt := 2118) X.1 X.2.1 dL_law_1959 (by decide) ?_
    exact K _ _ _ hU hS (lv_sub hl [2, 3, 4, 5, 6] rfl)
set_option maxRecDepth 100000 in
set_option maxHeartbeats 4000000 in
theorem kL_40 {p : Program} {l : Launch} {e : Env} {s : State} {m : MethodId} {args : Array Value} {below : List Frame} {meth : Method} {c : Code} {H : Heap} {locs : List Loc} {cells slots : Nat} {Q : State → Prop} {D : va_G} {G : Nat → ClassId} {ad : Nat → Nat → Nat} {sz : Nat} {u u' : k_U} {b L : Nat} {xs : Nat → Int32} {i : Int32} {ls : Array Slot} (hlT : l.stackTraces = false) (X : k_Cx p s m args c RL cL_law 9 D G ad sz) (hU : k_Uv D G ad u H) (hS : va_S (k_A ad sz) s.heap H locs) (hX : va_X b L xs s s.heap) (hbl : b < s.heap.size) (hbA : ¬ k_A ad sz b) (hl : lv_has ls 9 [(4, .int i), (3, .ref (ad 6 0)), (2, .ref (ad 5 0)), (1, .ref (ad 0 0)), (0, .ref b)]) (h1 : vp_in (i + 1) L) (h2 : vp_in (i + 2) L) (h3 : vp_in (i + 3) L) (h4 : vp_in (i + 4) L) (h5 : vp_in (i + 5) L) (hc : cells + 1 ≤ 601024 ∧ slots + 6 ≤ 7293034) (hf : kLsel 40 u (xs (i + 1).toNatClampNeg) (xs (i + 2).toNatClampNeg) (xs (i + 3).toNatClampNeg) (xs (i + 4).toNatClampNeg) (xs (i + 5).toNatClampNeg) = some u') (K : ∀ (H : Heap) (locs : List Loc) (ls : Array Slot), k_Uv D G ad u' H → va_S (k_A ad sz) s.heap H locs → lv_has ls 9 [(4, .int i), (3, .ref (ad 6 0)), (2, .ref (ad 5 0)), (1, .ref (ad 0 0)), (0, .ref b)] → W p l e room_1 s m args below meth c H locs (cells + 1) (slots + 6) Q (F0 m 2118 ls [])) : W p l e room_1 s m args below meth c H locs cells slots Q (F0 m 1962 ls []) := by
  have hf : (k_bd (f_L_undo u ) fun r => k_bd (f_X11_undo (r.1 5) ) fun q => kLck r q) = some u' := hf
  refine lv_aload_n X.1 X.2.1 dL_law_1962 rfl (lv_at hl 3 rfl) ?_
  refine lv_aload_n X.1 X.2.1 dL_law_1963 rfl (lv_at hl 1 rfl) ?_
  obtain ⟨r, hr, hf⟩ := k_bdE hf
  refine kL_backi X hS (kL_runSW (As := [.ref (ad 0 0), .ref (ad 6 0)]) (rest := []) X hS hU slw_L_256 (c_L_undo X.2.2.2.2.2.2.1 hlT hr) rfl rfl rfl hl.1 ⟨Nat.le_of_ble_eq_true rfl, Nat.le_of_ble_eq_true rfl⟩ (Nat.le_of_ble_eq_true rfl) dL_law_1964 hc) (fun H locs hU hS => ?_)
  refine lv_istore (lv' := [(5, .int r.2), (4, .int i), (3, .ref (ad 6 0)), (2, .ref (ad 5 0)), (1, .ref (ad 0 0)), (0, .ref b)]) X.1 X.2.1 dL_law_1967 hl (by decide) rfl (fun ls hl => ?_)
  refine lv_aload_n X.1 X.2.1 dL_law_1969 rfl (lv_at hl 3 rfl) ?_
  obtain ⟨q, hq, hf⟩ := k_bdE hf
  refine k_backi X hS (k_runV (As := []) (rest := []) X hS hU sh_5_0 (by decide) rfl vl_L_258 (c_X11_undo X.2.2.2.2.2.2.1 rfl hq) rfl rfl rfl hl.1 ⟨Nat.le_of_ble_eq_true rfl, Nat.le_of_ble_eq_true rfl⟩ (Nat.le_of_ble_eq_true rfl) dL_law_1970 hc) (fun H locs hU hS => ?_)
  refine lv_istore (lv' := [(6, .int q.2), (5, .int r.2), (4, .int i), (3, .ref (ad 6 0)), (2, .ref (ad 5 0)), (1, .ref (ad 0 0)), (0, .ref b)]) X.1 X.2.1 dL_law_1973 hl (by decide) rfl (fun ls hl => ?_)
  obtain ⟨hk, hf⟩ := k_ckE hf
  have hz9 := Option.some.inj hf
  subst hz9
  refine lv_aload_n X.1 X.2.1 dL_law_1975 rfl (lv_at hl 4 rfl) ?_
  refine k_backi X hS (k_runV (As := []) (rest := []) X hS hU sh_5_0 (by decide) rfl vl_L_113 (c_X11_thrown (w := q.1) X.2.2.2.2.2.2.1 (k_uc_s _ _ _) (show f_X11_thrown q.1 = some (q.1 0 0) from rfl)) rfl rfl rfl hl.1 ⟨Nat.le_of_ble_eq_true rfl, Nat.le_of_ble_eq_true rfl⟩ (Nat.le_of_ble_eq_true rfl) dL_law_1976 hc) (fun H locs hU hS => ?_)
  refine lv_iload X.1 X.2.1 dL_law_1979 (lv_at hl 1 rfl) ?_
  refine lv_icmp_eq (tgt := 1986) X.1 X.2.1 dL_law_1981 (by decide) (fun _ => ?_) (fun q9 => absurd hk.1 q9)
  refine lv_iload X.1 X.2.1 dL_law_1986 (lv_at hl 1 rfl) ?_
  refine lv_if_ne (tgt := 2003) X.1 X.2.1 dL_law_1988 (by decide) (fun _ => ?_) (fun h0 => ?_)
  · refine lv_goto (tgt := 2118) X.1 X.2.1 dL_law_2003 (by decide) ?_
    exact K _ _ _ hU hS (lv_sub hl [2, 3, 4, 5, 6] rfl)
  · refine lv_aload_n X.1 X.2.1 dL_law_1991 rfl (lv_at hl 3 rfl) ?_
    refine lv_iconst (v := 0) X.1 X.2.1 dL_law_1992 (by decide) ?_
    refine k_jld sh_6_0 X hU dL_law_1993 ?_
    refine lv_iload X.1 X.2.1 dL_law_1994 (lv_at hl 0 rfl) ?_
    refine lv_i2l (v := q.2.toInt64) X.1 X.2.1 dL_law_1996 rfl ?_
    refine W.lcmp X.1 X.2.1 dL_law_1997 ?_
    refine lv_if_eq (tgt := 2003) X.1 X.2.1 dL_law_1998 (by decide) (fun _ => ?_) (fun q9 => absurd (kL_cmp0 (hk.2 h0)) q9)
    refine lv_goto (tgt := 2118) X.1 X.2.1 dL_law_2003 (by decide) ?_
    exact K _ _ _ hU hS (lv_sub hl [2, 3, 4, 5, 6] rfl)
set_option maxRecDepth 100000 in
set_option maxHeartbeats 4000000 in
theorem kL_41 {p : Program} {l : Launch} {e : Env} {s : State} {m : MethodId} {args : Array Value} {below : List Frame} {meth : Method} {c : Code} {H : Heap} {locs : List Loc} {cells slots : Nat} {Q : State → Prop} {D : va_G} {G : Nat → ClassId} {ad : Nat → Nat → Nat} {sz : Nat} {u u' : k_U} {b L : Nat} {xs : Nat → Int32} {i : Int32} {ls : Array Slot} (hlT : l.stackTraces = false) (X : k_Cx p s m args c RL cL_law 9 D G ad sz) (hU : k_Uv D G ad u H) (hS : va_S (k_A ad sz) s.heap H locs) (hX : va_X b L xs s s.heap) (hbl : b < s.heap.size) (hbA : ¬ k_A ad sz b) (hl : lv_has ls 9 [(4, .int i), (3, .ref (ad 6 0)), (2, .ref (ad 5 0)), (1, .ref (ad 0 0)), (0, .ref b)]) (h1 : vp_in (i + 1) L) (h2 : vp_in (i + 2) L) (h3 : vp_in (i + 3) L) (h4 : vp_in (i + 4) L) (h5 : vp_in (i + 5) L) (hc : cells + 1 ≤ 601024 ∧ slots + 6 ≤ 7293034) (hf : kLsel 41 u (xs (i + 1).toNatClampNeg) (xs (i + 2).toNatClampNeg) (xs (i + 3).toNatClampNeg) (xs (i + 4).toNatClampNeg) (xs (i + 5).toNatClampNeg) = some u') (K : ∀ (H : Heap) (locs : List Loc) (ls : Array Slot), k_Uv D G ad u' H → va_S (k_A ad sz) s.heap H locs → lv_has ls 9 [(4, .int i), (3, .ref (ad 6 0)), (2, .ref (ad 5 0)), (1, .ref (ad 0 0)), (0, .ref b)] → W p l e room_1 s m args below meth c H locs (cells + 1) (slots + 6) Q (F0 m 2118 ls [])) : W p l e room_1 s m args below meth c H locs cells slots Q (F0 m 2006 ls []) := by
  have hf : (k_bd (f_L_save u (xs (i + 1).toNatClampNeg)) fun r => k_bd (f_X11_save (r.1 5) (xs (i + 1).toNatClampNeg)) fun q => kLck r q) = some u' := hf
  refine lv_aload_n X.1 X.2.1 dL_law_2006 rfl (lv_at hl 3 rfl) ?_
  refine lv_aload_n X.1 X.2.1 dL_law_2007 rfl (lv_at hl 4 rfl) ?_
  refine lv_iload X.1 X.2.1 dL_law_2008 (lv_at hl 0 rfl) ?_
  refine lv_iconst (v := 1) X.1 X.2.1 dL_law_2010 (by decide) ?_
  refine lv_iadd X.1 X.2.1 dL_law_2011 ?_
  refine va_sld X.1 X.2.1 hX hbl hbA hS h1 dL_law_2012 ?_
  refine lv_aload_n X.1 X.2.1 dL_law_2013 rfl (lv_at hl 1 rfl) ?_
  obtain ⟨r, hr, hf⟩ := k_bdE hf
  refine kL_backi X hS (kL_runSW (As := [.ref (ad 0 0), .int (xs (i + 1).toNatClampNeg), .ref (ad 6 0)]) (rest := []) X hS hU slw_L_259 (c_L_save X.2.2.2.2.2.2.1 hlT hr) rfl rfl rfl hl.1 ⟨Nat.le_of_ble_eq_true rfl, Nat.le_of_ble_eq_true rfl⟩ (Nat.le_of_ble_eq_true rfl) dL_law_2014 hc) (fun H locs hU hS => ?_)
  refine lv_istore (lv' := [(5, .int r.2), (4, .int i), (3, .ref (ad 6 0)), (2, .ref (ad 5 0)), (1, .ref (ad 0 0)), (0, .ref b)]) X.1 X.2.1 dL_law_2017 hl (by decide) rfl (fun ls hl => ?_)
  refine lv_aload_n X.1 X.2.1 dL_law_2019 rfl (lv_at hl 3 rfl) ?_
  refine lv_aload_n X.1 X.2.1 dL_law_2020 rfl (lv_at hl 5 rfl) ?_
  refine lv_iload X.1 X.2.1 dL_law_2021 (lv_at hl 1 rfl) ?_
  refine lv_iconst (v := 1) X.1 X.2.1 dL_law_2023 (by decide) ?_
  refine lv_iadd X.1 X.2.1 dL_law_2024 ?_
  refine va_sld X.1 X.2.1 hX hbl hbA hS h1 dL_law_2025 ?_
  obtain ⟨q, hq, hf⟩ := k_bdE hf
  refine k_backi X hS (k_runV (As := [.int (xs (i + 1).toNatClampNeg)]) (rest := []) X hS hU sh_5_0 (by decide) rfl vl_L_261 (c_X11_save X.2.2.2.2.2.2.1 rfl hq) rfl rfl rfl hl.1 ⟨Nat.le_of_ble_eq_true rfl, Nat.le_of_ble_eq_true rfl⟩ (Nat.le_of_ble_eq_true rfl) dL_law_2026 hc) (fun H locs hU hS => ?_)
  refine lv_istore (lv' := [(6, .int q.2), (5, .int r.2), (4, .int i), (3, .ref (ad 6 0)), (2, .ref (ad 5 0)), (1, .ref (ad 0 0)), (0, .ref b)]) X.1 X.2.1 dL_law_2029 hl (by decide) rfl (fun ls hl => ?_)
  obtain ⟨hk, hf⟩ := k_ckE hf
  have hz9 := Option.some.inj hf
  subst hz9
  refine lv_aload_n X.1 X.2.1 dL_law_2031 rfl (lv_at hl 4 rfl) ?_
  refine k_backi X hS (k_runV (As := []) (rest := []) X hS hU sh_5_0 (by decide) rfl vl_L_113 (c_X11_thrown (w := q.1) X.2.2.2.2.2.2.1 (k_uc_s _ _ _) (show f_X11_thrown q.1 = some (q.1 0 0) from rfl)) rfl rfl rfl hl.1 ⟨Nat.le_of_ble_eq_true rfl, Nat.le_of_ble_eq_true rfl⟩ (Nat.le_of_ble_eq_true rfl) dL_law_2032 hc) (fun H locs hU hS => ?_)
  refine lv_iload X.1 X.2.1 dL_law_2035 (lv_at hl 1 rfl) ?_
  refine lv_icmp_eq (tgt := 2042) X.1 X.2.1 dL_law_2037 (by decide) (fun _ => ?_) (fun q9 => absurd hk.1 q9)
  refine lv_iload X.1 X.2.1 dL_law_2042 (lv_at hl 1 rfl) ?_
  refine lv_if_ne (tgt := 2059) X.1 X.2.1 dL_law_2044 (by decide) (fun _ => ?_) (fun h0 => ?_)
  · refine lv_goto (tgt := 2118) X.1 X.2.1 dL_law_2059 (by decide) ?_
    exact K _ _ _ hU hS (lv_sub hl [2, 3, 4, 5, 6] rfl)
  · refine lv_aload_n X.1 X.2.1 dL_law_2047 rfl (lv_at hl 3 rfl) ?_
    refine lv_iconst (v := 0) X.1 X.2.1 dL_law_2048 (by decide) ?_
    refine k_jld sh_6_0 X hU dL_law_2049 ?_
    refine lv_iload X.1 X.2.1 dL_law_2050 (lv_at hl 0 rfl) ?_
    refine lv_i2l (v := q.2.toInt64) X.1 X.2.1 dL_law_2052 rfl ?_
    refine W.lcmp X.1 X.2.1 dL_law_2053 ?_
    refine lv_if_eq (tgt := 2059) X.1 X.2.1 dL_law_2054 (by decide) (fun _ => ?_) (fun q9 => absurd (kL_cmp0 (hk.2 h0)) q9)
    refine lv_goto (tgt := 2118) X.1 X.2.1 dL_law_2059 (by decide) ?_
    exact K _ _ _ hU hS (lv_sub hl [2, 3, 4, 5, 6] rfl)
set_option maxRecDepth 100000 in
set_option maxHeartbeats 4000000 in
theorem kL_42 {p : Program} {l : Launch} {e : Env} {s : State} {m : MethodId} {args : Array Value} {below : List Frame} {meth : Method} {c : Code} {H : Heap} {locs : List Loc} {cells slots : Nat} {Q : State → Prop} {D : va_G} {G : Nat → ClassId} {ad : Nat → Nat → Nat} {sz : Nat} {u u' : k_U} {b L : Nat} {xs : Nat → Int32} {i : Int32} {ls : Array Slot} (hlT : l.stackTraces = false) (X : k_Cx p s m args c RL cL_law 9 D G ad sz) (hU : k_Uv D G ad u H) (hS : va_S (k_A ad sz) s.heap H locs) (hX : va_X b L xs s s.heap) (hbl : b < s.heap.size) (hbA : ¬ k_A ad sz b) (hl : lv_has ls 9 [(4, .int i), (3, .ref (ad 6 0)), (2, .ref (ad 5 0)), (1, .ref (ad 0 0)), (0, .ref b)]) (h1 : vp_in (i + 1) L) (h2 : vp_in (i + 2) L) (h3 : vp_in (i + 3) L) (h4 : vp_in (i + 4) L) (h5 : vp_in (i + 5) L) (hc : cells + 1 ≤ 601024 ∧ slots + 6 ≤ 7293034) (hf : kLsel 42 u (xs (i + 1).toNatClampNeg) (xs (i + 2).toNatClampNeg) (xs (i + 3).toNatClampNeg) (xs (i + 4).toNatClampNeg) (xs (i + 5).toNatClampNeg) = some u') (K : ∀ (H : Heap) (locs : List Loc) (ls : Array Slot), k_Uv D G ad u' H → va_S (k_A ad sz) s.heap H locs → lv_has ls 9 [(4, .int i), (3, .ref (ad 6 0)), (2, .ref (ad 5 0)), (1, .ref (ad 0 0)), (0, .ref b)] → W p l e room_1 s m args below meth c H locs (cells + 1) (slots + 6) Q (F0 m 2118 ls [])) : W p l e room_1 s m args below meth c H locs cells slots Q (F0 m 2062 ls []) := by
  have hf : (k_bd (f_L_restore u (xs (i + 1).toNatClampNeg)) fun r => k_bd (f_X11_restore (r.1 5) (xs (i + 1).toNatClampNeg)) fun q => kLck r q) = some u' := hf
  refine lv_aload_n X.1 X.2.1 dL_law_2062 rfl (lv_at hl 3 rfl) ?_
  refine lv_aload_n X.1 X.2.1 dL_law_2063 rfl (lv_at hl 4 rfl) ?_
  refine lv_iload X.1 X.2.1 dL_law_2064 (lv_at hl 0 rfl) ?_
  refine lv_iconst (v := 1) X.1 X.2.1 dL_law_2066 (by decide) ?_
  refine lv_iadd X.1 X.2.1 dL_law_2067 ?_
  refine va_sld X.1 X.2.1 hX hbl hbA hS h1 dL_law_2068 ?_
  refine lv_aload_n X.1 X.2.1 dL_law_2069 rfl (lv_at hl 1 rfl) ?_
  obtain ⟨r, hr, hf⟩ := k_bdE hf
  refine kL_backi X hS (kL_runSW (As := [.ref (ad 0 0), .int (xs (i + 1).toNatClampNeg), .ref (ad 6 0)]) (rest := []) X hS hU slw_L_262 (c_L_restore X.2.2.2.2.2.2.1 hlT hr) rfl rfl rfl hl.1 ⟨Nat.le_of_ble_eq_true rfl, Nat.le_of_ble_eq_true rfl⟩ (Nat.le_of_ble_eq_true rfl) dL_law_2070 hc) (fun H locs hU hS => ?_)
  refine lv_istore (lv' := [(5, .int r.2), (4, .int i), (3, .ref (ad 6 0)), (2, .ref (ad 5 0)), (1, .ref (ad 0 0)), (0, .ref b)]) X.1 X.2.1 dL_law_2073 hl (by decide) rfl (fun ls hl => ?_)
  refine lv_aload_n X.1 X.2.1 dL_law_2075 rfl (lv_at hl 3 rfl) ?_
  refine lv_aload_n X.1 X.2.1 dL_law_2076 rfl (lv_at hl 5 rfl) ?_
  refine lv_iload X.1 X.2.1 dL_law_2077 (lv_at hl 1 rfl) ?_
  refine lv_iconst (v := 1) X.1 X.2.1 dL_law_2079 (by decide) ?_
  refine lv_iadd X.1 X.2.1 dL_law_2080 ?_
  refine va_sld X.1 X.2.1 hX hbl hbA hS h1 dL_law_2081 ?_
  obtain ⟨q, hq, hf⟩ := k_bdE hf
  refine k_backi X hS (k_runV (As := [.int (xs (i + 1).toNatClampNeg)]) (rest := []) X hS hU sh_5_0 (by decide) rfl vl_L_264 (c_X11_restore X.2.2.2.2.2.2.1 rfl hq) rfl rfl rfl hl.1 ⟨Nat.le_of_ble_eq_true rfl, Nat.le_of_ble_eq_true rfl⟩ (Nat.le_of_ble_eq_true rfl) dL_law_2082 hc) (fun H locs hU hS => ?_)
  refine lv_istore (lv' := [(6, .int q.2), (5, .int r.2), (4, .int i), (3, .ref (ad 6 0)), (2, .ref (ad 5 0)), (1, .ref (ad 0 0)), (0, .ref b)]) X.1 X.2.1 dL_law_2085 hl (by decide) rfl (fun ls hl => ?_)
  obtain ⟨hk, hf⟩ := k_ckE hf
  have hz9 := Option.some.inj hf
  subst hz9
  refine lv_aload_n X.1 X.2.1 dL_law_2087 rfl (lv_at hl 4 rfl) ?_
  refine k_backi X hS (k_runV (As := []) (rest := []) X hS hU sh_5_0 (by decide) rfl vl_L_113 (c_X11_thrown (w := q.1) X.2.2.2.2.2.2.1 (k_uc_s _ _ _) (show f_X11_thrown q.1 = some (q.1 0 0) from rfl)) rfl rfl rfl hl.1 ⟨Nat.le_of_ble_eq_true rfl, Nat.le_of_ble_eq_true rfl⟩ (Nat.le_of_ble_eq_true rfl) dL_law_2088 hc) (fun H locs hU hS => ?_)
  refine lv_iload X.1 X.2.1 dL_law_2091 (lv_at hl 1 rfl) ?_
  refine lv_icmp_eq (tgt := 2098) X.1 X.2.1 dL_law_2093 (by decide) (fun _ => ?_) (fun q9 => absurd hk.1 q9)
  refine lv_iload X.1 X.2.1 dL_law_2098 (lv_at hl 1 rfl) ?_
  refine lv_if_ne (tgt := 2115) X.1 X.2.1 dL_law_2100 (by decide) (fun _ => ?_) (fun h0 => ?_)
  · refine lv_goto (tgt := 2118) X.1 X.2.1 dL_law_2115 (by decide) ?_
    exact K _ _ _ hU hS (lv_sub hl [2, 3, 4, 5, 6] rfl)
  · refine lv_aload_n X.1 X.2.1 dL_law_2103 rfl (lv_at hl 3 rfl) ?_
    refine lv_iconst (v := 0) X.1 X.2.1 dL_law_2104 (by decide) ?_
    refine k_jld sh_6_0 X hU dL_law_2105 ?_
    refine lv_iload X.1 X.2.1 dL_law_2106 (lv_at hl 0 rfl) ?_
    refine lv_i2l (v := q.2.toInt64) X.1 X.2.1 dL_law_2108 rfl ?_
    refine W.lcmp X.1 X.2.1 dL_law_2109 ?_
    refine lv_if_eq (tgt := 2115) X.1 X.2.1 dL_law_2110 (by decide) (fun _ => ?_) (fun q9 => absurd (kL_cmp0 (hk.2 h0)) q9)
    refine lv_goto (tgt := 2118) X.1 X.2.1 dL_law_2115 (by decide) ?_
    exact K _ _ _ hU hS (lv_sub hl [2, 3, 4, 5, 6] rfl)

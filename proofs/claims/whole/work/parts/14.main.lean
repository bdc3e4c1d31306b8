set_option maxRecDepth 100000 in
set_option maxHeartbeats 4000000 in
theorem d_X1_forget {l : Launch} {D : va_G} {G : Nat → ClassId} {ad : Nat → Nat → Nat} {u : k_U} {sh : k_Sh} (hsh : ∀ (k c : Nat) (S : k_S), k_isW k → k_sh k c = some S → sh k c = some S) (hI : kok sh ad) {k : Nat} (hk : k_isW k) {w : k_M} (hw : u k = w) {sz : Nat} {r : k_M} (hf : f_X1_forget w = some r) : Met l yX1_forget (.code yX1_forget cX1_forget 1 none :: lw_g) rm_X1_forget (kPre sh D G ad u sz [.ref (ad k 13)]) (kQv sh D G ad (k_uc u k r) sz) 0 0 (kA sh ad sz) := by
  refine k_ofW (by decide +kernel) hI (Nat.le_of_ble_eq_true rfl) ?_
  intro p e s m args below meth c X hr hlk hU hS ls hl
  have hl : lv_has ls 1 [(0, .ref (ad k 13))] := hl
  have hU : kUv sh D G ad (k_uc u k w) s.heap := by rw [← hw, k_uc_id]; exact hU
  unfold f_X1_forget at hf
  refine lv_aload_n X.1 X.2.1 dX1_forget_0 rfl (lv_at hl 0 rfl) ?_
  refine lv_iconst (v := 0) X.1 X.2.1 dX1_forget_1 (by decide) ?_
  obtain ⟨w2, e2, hf⟩ := k_ltE hf
  refine k_putw X hU hS (hsh _ _ _ hk (sW_13 hk)) fp_X1_19 rfl e2 rfl rfl dX1_forget_2 (fun H locs hU hS => ?_)
  refine lv_aload_n X.1 X.2.1 dX1_forget_5 rfl (lv_at hl 0 rfl) ?_
  refine lv_iconst (v := 0) X.1 X.2.1 dX1_forget_6 (by decide) ?_
  obtain ⟨w7, e7, hf⟩ := k_ltE hf
  refine k_putw X hU hS (hsh _ _ _ hk (sW_13 hk)) fp_X1_23 rfl e7 rfl rfl dX1_forget_7 (fun H locs hU hS => ?_)
  have hz := Option.some.inj hf
  subst hz
  exact k_vret X hU hS hr hlk dX1_forget_10
set_option maxRecDepth 100000 in
set_option maxHeartbeats 4000000 in
theorem d_X9_begin {l : Launch} {D : va_G} {G : Nat → ClassId} {ad : Nat → Nat → Nat} {u : k_U} {sh : k_Sh} (hsh : ∀ (k c : Nat) (S : k_S), k_isW k → k_sh k c = some S → sh k c = some S) (hI : kok sh ad) {k : Nat} (hk : k_isW k) {w : k_M} (hw : u k = w) {a1 : Int32} {a2 : Int32} {a3 : Int32} {sz : Nat} {r : k_M} (hf : f_X9_begin w a1 a2 a3 = some r) : Met l yX9_begin (.code yX9_begin cX9_begin 4 none :: lw_g) rm_X9_begin (kPre sh D G ad u sz [.ref (ad k 0), .int a1, .int a2, .int a3]) (kQv sh D G ad (k_uc u k r) sz) 0 0 (kA sh ad sz) := by
  refine k_ofW (by decide +kernel) hI (Nat.le_of_ble_eq_true rfl) ?_
  intro p e s m args below meth c X hr hlk hU hS ls hl
  have hl : lv_has ls 4 [(0, .ref (ad k 0)), (1, .int a1), (2, .int a2), (3, .int a3)] := hl
  have hU : kUv sh D G ad (k_uc u k w) s.heap := by rw [← hw, k_uc_id]; exact hU
  unfold f_X9_begin at hf
  refine lv_aload_n X.1 X.2.1 dX9_begin_0 rfl (lv_at hl 0 rfl) ?_
  refine lv_iload_n X.1 X.2.1 dX9_begin_1 rfl (lv_at hl 1 rfl) ?_
  obtain ⟨w2, e2, hf⟩ := k_ltE hf
  refine k_putw X hU hS (hsh _ _ _ hk (sW_0 hk)) fp_X9_46 rfl e2 rfl rfl dX9_begin_2 (fun H locs hU hS => ?_)
  refine lv_aload_n X.1 X.2.1 dX9_begin_5 rfl (lv_at hl 0 rfl) ?_
  refine lv_iload_n X.1 X.2.1 dX9_begin_6 rfl (lv_at hl 2 rfl) ?_
  obtain ⟨w7, e7, hf⟩ := k_ltE hf
  refine k_putw X hU hS (hsh _ _ _ hk (sW_0 hk)) fp_X9_50 rfl e7 rfl rfl dX9_begin_7 (fun H locs hU hS => ?_)
  refine lv_aload_n X.1 X.2.1 dX9_begin_10 rfl (lv_at hl 0 rfl) ?_
  refine lv_iload_n X.1 X.2.1 dX9_begin_11 rfl (lv_at hl 3 rfl) ?_
  obtain ⟨w12, e12, hf⟩ := k_ltE hf
  refine k_putw X hU hS (hsh _ _ _ hk (sW_0 hk)) fp_X9_53 rfl e12 rfl rfl dX9_begin_12 (fun H locs hU hS => ?_)
  refine lv_aload_n X.1 X.2.1 dX9_begin_15 rfl (lv_at hl 0 rfl) ?_
  refine lv_iconst (v := 0) X.1 X.2.1 dX9_begin_16 (by decide) ?_
  obtain ⟨w17, e17, hf⟩ := k_ltE hf
  refine k_putw X hU hS (hsh _ _ _ hk (sW_0 hk)) fp_X9_56 rfl e17 rfl rfl dX9_begin_17 (fun H locs hU hS => ?_)
  refine lv_aload_n X.1 X.2.1 dX9_begin_20 rfl (lv_at hl 0 rfl) ?_
  refine lv_iconst (v := 0) X.1 X.2.1 dX9_begin_21 (by decide) ?_
  obtain ⟨w22, e22, hf⟩ := k_ltE hf
  refine k_putw X hU hS (hsh _ _ _ hk (sW_0 hk)) fp_X9_59 rfl e22 rfl rfl dX9_begin_22 (fun H locs hU hS => ?_)
  refine lv_aload_n X.1 X.2.1 dX9_begin_25 rfl (lv_at hl 0 rfl) ?_
  refine lv_iconst (v := 0) X.1 X.2.1 dX9_begin_26 (by decide) ?_
  obtain ⟨w27, e27, hf⟩ := k_ltE hf
  refine k_putw X hU hS (hsh _ _ _ hk (sW_0 hk)) fp_X9_62 rfl e27 rfl rfl dX9_begin_27 (fun H locs hU hS => ?_)
  refine lv_aload_n X.1 X.2.1 dX9_begin_30 rfl (lv_at hl 0 rfl) ?_
  refine lv_iconst (v := 0) X.1 X.2.1 dX9_begin_31 (by decide) ?_
  obtain ⟨w32, e32, hf⟩ := k_ltE hf
  refine k_putw X hU hS (hsh _ _ _ hk (sW_0 hk)) fp_X9_65 rfl e32 rfl rfl dX9_begin_32 (fun H locs hU hS => ?_)
  refine lv_aload_n X.1 X.2.1 dX9_begin_35 rfl (lv_at hl 0 rfl) ?_
  refine lv_bipush (v := 20) X.1 X.2.1 dX9_begin_36 (by decide) ?_
  obtain ⟨w38, e38, hf⟩ := k_ltE hf
  refine k_putw X hU hS (hsh _ _ _ hk (sW_0 hk)) fp_X9_68 rfl e38 rfl rfl dX9_begin_38 (fun H locs hU hS => ?_)
  refine lv_aload_n X.1 X.2.1 dX9_begin_41 rfl (lv_at hl 0 rfl) ?_
  refine lv_iconst (v := 0) X.1 X.2.1 dX9_begin_42 (by decide) ?_
  obtain ⟨w43, e43, hf⟩ := k_ltE hf
  refine k_putw X hU hS (hsh _ _ _ hk (sW_0 hk)) fp_X9_71 rfl e43 rfl rfl dX9_begin_43 (fun H locs hU hS => ?_)
  refine lv_aload_n X.1 X.2.1 dX9_begin_46 rfl (lv_at hl 0 rfl) ?_
  refine lv_iconst (v := 0) X.1 X.2.1 dX9_begin_47 (by decide) ?_
  obtain ⟨w48, e48, hf⟩ := k_ltE hf
  refine k_putw X hU hS (hsh _ _ _ hk (sW_0 hk)) fp_X9_74 rfl e48 rfl rfl dX9_begin_48 (fun H locs hU hS => ?_)
  refine lv_aload_n X.1 X.2.1 dX9_begin_51 rfl (lv_at hl 0 rfl) ?_
  refine lv_iconst (v := 0) X.1 X.2.1 dX9_begin_52 (by decide) ?_
  obtain ⟨w53, e53, hf⟩ := k_ltE hf
  refine k_putw X hU hS (hsh _ _ _ hk (sW_0 hk)) fp_X9_77 rfl e53 rfl rfl dX9_begin_53 (fun H locs hU hS => ?_)
  refine lv_aload_n X.1 X.2.1 dX9_begin_56 rfl (lv_at hl 0 rfl) ?_
  refine lv_iconst (v := 0) X.1 X.2.1 dX9_begin_57 (by decide) ?_
  obtain ⟨w58, e58, hf⟩ := k_ltE hf
  refine k_putw X hU hS (hsh _ _ _ hk (sW_0 hk)) fp_X9_80 rfl e58 rfl rfl dX9_begin_58 (fun H locs hU hS => ?_)
  refine lv_aload_n X.1 X.2.1 dX9_begin_61 rfl (lv_at hl 0 rfl) ?_
  refine k_getw (v := .ref (ad k 3)) X hU (hsh _ _ _ hk (sW_0 hk)) fl_X9_25 rfl dX9_begin_62 ?_
  refine lv_iconst (v := 0) X.1 X.2.1 dX9_begin_65 (by decide) ?_
  obtain ⟨w66, e66, hf⟩ := k_ltE hf
  refine k_putw X hU hS (hsh _ _ _ hk (k_sT hk k_isT_3)) fp_X9_84 rfl e66 rfl rfl dX9_begin_66 (fun H locs hU hS => ?_)
  refine lv_aload_n X.1 X.2.1 dX9_begin_69 rfl (lv_at hl 0 rfl) ?_
  refine k_getw (v := .ref (ad k 6)) X hU (hsh _ _ _ hk (sW_0 hk)) fl_X9_29 rfl dX9_begin_70 ?_
  refine lv_iconst (v := 0) X.1 X.2.1 dX9_begin_73 (by decide) ?_
  obtain ⟨w74, e74, hf⟩ := k_ltE hf
  refine k_putw X hU hS (hsh _ _ _ hk (k_sT hk k_isT_6)) fp_X9_84 rfl e74 rfl rfl dX9_begin_74 (fun H locs hU hS => ?_)
  refine lv_aload_n X.1 X.2.1 dX9_begin_77 rfl (lv_at hl 0 rfl) ?_
  refine k_getw (v := .ref (ad k 9)) X hU (hsh _ _ _ hk (sW_0 hk)) fl_X9_35 rfl dX9_begin_78 ?_
  refine lv_iconst (v := 0) X.1 X.2.1 dX9_begin_81 (by decide) ?_
  obtain ⟨w82, e82, hf⟩ := k_ltE hf
  refine k_putw X hU hS (hsh _ _ _ hk (sW_9 hk)) fp_X9_87 rfl e82 rfl rfl dX9_begin_82 (fun H locs hU hS => ?_)
  refine lv_aload_n X.1 X.2.1 dX9_begin_85 rfl (lv_at hl 0 rfl) ?_
  refine k_getw (v := .ref (ad k 13)) X hU (hsh _ _ _ hk (sW_0 hk)) fl_X9_42 rfl dX9_begin_86 ?_
  obtain ⟨r89, hr89, hf⟩ := k_bdE hf
  refine k_backv X hS (k_runV (As := []) (rest := []) X hS hU (hsh _ _ _ hk (sW_13 hk)) (by decide) rfl vl_X9_88 (d_X1_forget hsh X.2.2.2.2.2.2.1 hk (k_uc_s _ _ _) hr89) rfl rfl rfl hl.1 ⟨Nat.le_of_ble_eq_true rfl, Nat.le_of_ble_eq_true rfl⟩ (Nat.le_of_ble_eq_true rfl) dX9_begin_89 ⟨Nat.zero_le _, Nat.zero_le _⟩) (fun H locs hU hS => ?_)
  rw [k_uc_uc] at hU
  have hz := Option.some.inj hf
  subst hz
  exact k_vret X hU hS hr hlk dX9_begin_92
set_option maxRecDepth 100000 in
set_option maxHeartbeats 4000000 in
theorem d_X11_empties {l : Launch} {D : va_G} {G : Nat → ClassId} {ad : Nat → Nat → Nat} {u : k_U} {sh : k_Sh} (hI : kok sh ad) {w : k_M} (hw : u 5 = w) {q0 : Nat} {N0 : Nat} (hs0 : sh 5 q0 = some (20, N0, k_r0)) (hN0 : (nI N0).toInt = (N0 : Int)) {sz : Nat} {r : k_M} (hf : f_X11_empties w q0 N0 = some r) : Met l yX11_empties (.code yX11_empties cX11_empties 2 none :: lw_g) rm_X11_empties (kPre sh D G ad u sz [.ref (ad 5 q0)]) (kQv sh D G ad (k_uc u 5 r) sz) 0 0 (kA sh ad sz) := by
  refine k_ofW (by decide +kernel) hI (Nat.le_of_ble_eq_true rfl) ?_
  intro p e s m args below meth c X hr hlk hU hS ls hl
  have hl : lv_has ls 2 [(0, .ref (ad 5 q0))] := hl
  have hU : kUv sh D G ad (k_uc u 5 w) s.heap := by rw [← hw, k_uc_id]; exact hU
  have L2 : ∀ (n2 : Nat) (H : Heap) (locs : List Loc) (ls : Array Slot) (w : k_M) (a1 : Int32), kUv sh D G ad (k_uc u 5 w) H → va_S (kA sh ad sz) s.heap H locs → lv_has ls 2 [(0, .ref (ad 5 q0)), (1, .int a1)] → f_X11_empties_2 n2 w q0 N0 a1 = some r → W p l e rm_X11_empties s m args below meth c H locs 0 0 (MQ below (kQv sh D G ad (k_uc u 5 r) sz) args s 0 0 (kA sh ad sz)) (F0 m 2 ls []) := by
    intro n2
    induction n2 with
    | zero =>
      intro H locs ls w a1 hU hS hl hf
      cases (show none = some r from hf)
    | succ n2 ih2 =>
      intro H locs ls w a1 hU hS hl hf
      replace hf : f_X11_empties_2_b (f_X11_empties_2 n2) w q0 N0 a1 = some r := hf
      unfold f_X11_empties_2_b at hf
      refine lv_iload_n X.1 X.2.1 dX11_empties_2 rfl (lv_at hl 1 rfl) ?_
      refine lv_sipush (v := 268) X.1 X.2.1 dX11_empties_3 (by decide) ?_
      refine lv_icmp_ge (tgt := 19) X.1 X.2.1 dX11_empties_6 (by decide) (fun c6 => ?_) (fun c6 => ?_)
      · replace hf := k_ifP hf c6
        refine lv_aload_n X.1 X.2.1 dX11_empties_19 rfl (lv_at hl 0 rfl) ?_
        refine lv_bipush (v := 7) X.1 X.2.1 dX11_empties_20 (by decide) ?_
        refine lv_bipush (v := 20) X.1 X.2.1 dX11_empties_22 (by decide) ?_
        obtain ⟨hi24, hf⟩ := k_ckE hf
        obtain ⟨w24, e24, hf⟩ := k_ltE hf
        refine k_istw X hU hS hs0 e24 (k_vin hi24 hN0) (by decide) dX11_empties_24 (fun H locs hU hS => ?_)
        have hz := Option.some.inj hf
        subst hz
        exact k_vret X hU hS hr hlk dX11_empties_25
      · replace hf := k_ifN hf c6
        refine lv_aload_n X.1 X.2.1 dX11_empties_9 rfl (lv_at hl 0 rfl) ?_
        refine lv_iload_n X.1 X.2.1 dX11_empties_10 rfl (lv_at hl 1 rfl) ?_
        refine lv_iconst (v := 0) X.1 X.2.1 dX11_empties_11 (by decide) ?_
        obtain ⟨hi12, hf⟩ := k_ckE hf
        obtain ⟨w12, e12, hf⟩ := k_ltE hf
        refine k_istw X hU hS hs0 e12 (k_vin hi12 hN0) rfl dX11_empties_12 (fun H locs hU hS => ?_)
        obtain ⟨x13, e13, hf⟩ := k_ltE hf
        refine lv_iinc (v := x13) (lv' := [(1, .int x13), (0, .ref (ad 5 q0))]) X.1 X.2.1 dX11_empties_13 hl (k := 1) rfl (by rw [e13]; rfl) (by decide) rfl (fun ls hl => ?_)
        refine lv_goto (tgt := 2) X.1 X.2.1 dX11_empties_16 (by decide) ?_
        exact ih2 _ _ _ w12 x13 hU hS (lv_sub hl [1, 0] rfl) hf
  unfold f_X11_empties at hf
  refine lv_iconst (v := 0) X.1 X.2.1 dX11_empties_0 (by decide) ?_
  refine lv_istore_n (lv' := [(1, .int 0), (0, .ref (ad 5 q0))]) X.1 X.2.1 dX11_empties_1 rfl hl (by decide) rfl (fun ls hl => ?_)
  exact L2 k_N _ _ _ w 0 hU hS (lv_sub hl [1, 0] rfl) hf
theorem W.sz {p : Program} {l : Launch} {e : Env} {R : Room} {s : State} {m : MethodId} {args : Array Value} {below : List Frame} {meth : Method} {c : Code} {H : Heap} {locs : List Loc} {cells slots : Nat} {Q : State → Prop} {g : JFrame} (k : H.size ≤ s.heap.size + cells → W p l e R s m args below meth c H locs cells slots Q g) : W p l e R s m args below meth c H locs cells slots Q g := by
  intro T hT X
  have h := X.same.2.2.1
  exact k (by rw [← hT]; exact h) T hT X
theorem kA_eq {sh : k_Sh} {ad : Nat → Nat → Nat} {b sz : Nat} (h1 : ∃ q : Nat × Nat, q ∈ kUL sh ∧ ad q.1 q.2 = b) (h2 : ∀ q ∈ kUL sh, ad q.1 q.2 = b ∨ sz ≤ ad q.1 q.2) : kA sh ad sz = kF b sz := by
  funext a
  refine propext ⟨fun h => ?_, fun h => ?_⟩
  · rcases h with ⟨q, hq, rfl⟩ | h
    · exact h2 q hq
    · exact Or.inr h
  · rcases h with rfl | h
    · exact Or.inl h1
    · exact Or.inr h
theorem k_okL (B : Nat) (st : Nat → Nat → Nat) : kok k_shL (kAd B st) := kok_sub (kAd_ok B st) k_shL_sub
theorem k_okM (B : Nat) (st : Nat → Nat → Nat) : kok k_shM (kAd B st) := kok_sub (kAd_ok B st) k_shM_sub
theorem kA_L (B : Nat) (st : Nat → Nat → Nat) : kA k_shL (kAd B st) (B + 1) = kF B (B + 1) := by
  refine kA_eq ⟨(0, 0), k_mem (k_okL B st) (S := (10, 10, k_rX)) rfl, rfl⟩ fun q hq => ?_
  obtain ⟨S, hS⟩ := k_memE hq
  have h1 := k_mem (kAd_ok B st) (k_shL_sub _ _ _ hS)
  have h2 := kAd_eq B st q.1 q.2 (kAd_rng q h1)
  omega
set_option maxRecDepth 100000 in
theorem kAd_five : ∀ q ∈ kUL k_sh, q.1 = 5 → kAd 0 (fun _ _ => 0) q.1 q.2 = 314 ∨ 315 ≤ kAd 0 (fun _ _ => 0) q.1 q.2 := by decide +kernel
theorem kA_M (B : Nat) (st : Nat → Nat → Nat) : kA k_shM (kAd B st) (B + 315) = kF (B + 314) (B + 315) := by
  refine kA_eq ⟨(5, 0), k_mem (k_okM B st) (S := (11, 22, k_rMo)) rfl, rfl⟩ fun q hq => ?_
  obtain ⟨S, hS⟩ := k_memE hq
  have h5 : q.1 = 5 := by
    unfold k_shM at hS
    split at hS
    · assumption
    · cases hS
  have h1 := k_mem (kAd_ok B st) (k_shM_sub _ _ _ hS)
  have h2 := kAd_eq B st q.1 q.2 (kAd_rng q h1)
  have h3 := kAd_five q h1 h5
  omega
def kcPre2 (D : va_G) (G : Nat → ClassId) (b sz tag : Nat) (fs : List Value) (ad : Nat → Nat → Nat) : Array Value → State → Prop := va_Pc [.ref b] (fun U => U.heap.size = sz ∧ b < sz ∧ va_P D vwCl [(b, .inr (tag, fs))] U.heap ∧ va_K D vwCl (k_tys G) U ∧ k_Wc U ∧ k_Wd ad (kF b sz) U U.heap)
def kcQ2 (sh : k_Sh) (D : va_G) (G : Nat → ClassId) (ad : Nat → Nat → Nat) (u : k_U) (b sz n : Nat) : Array Value → State → Outcome → State → Prop := va_Qv (fun (_ : Unit) => True) (fun _ t => t.heap.size = sz + n ∧ kUv sh D G ad u t.heap) (kF b sz)
theorem kc2_blind {D : va_G} {G : Nat → ClassId} {b sz tag : Nat} {fs : List Value} {ad : Nat → Nat → Nat} : FrameBlind (kcPre2 D G b sz tag fs ad) := by
  intro a U g mk h
  obtain ⟨h0, h1, h2, h3, h4, h5, h6⟩ := h
  exact ⟨h0, h1, h2, h3, va_K.moved (u := U) (U := U.calling g mk a) (Vm.Alike.refl U.vm) h4, k_Wc.same (U := U) (U' := U.calling g mk a) h5 rfl, k_Wd.same (U := U) (U' := U.calling g mk a) h6 rfl⟩
theorem kc2_ofW {l : Launch} {D : va_G} {G : Nat → ClassId} {ad : Nat → Nat → Nat} {cc : ByteArray} {nL b sz : Nat} {y : MethodName} {rm : Room} {tag mc ms : Nat} {fs : List Value} {Qc : Array Value → State → Outcome → State → Prop} (hy : plainName y.cls = true) (hn : 1 ≤ nL)
    (body : ∀ (p : Program) (e : Env) (s : State) (m : MethodId) (args : Array Value) (below : List Frame) (meth : Method) (c : Code), kcX p s m args meth c y.cls cc nL D G b sz → k_Wd ad (kF b sz) s s.heap → va_P D vwCl ([(b, .inr (tag, fs))] ++ []) s.heap → va_D (kF b sz) ([(b, .inr (tag, fs))] ++ []) → va_S (kF b sz) s.heap s.heap [] → ∀ ls : Array Slot, lv_has ls nL [(0, .ref b)] →
      W p l e rm s m args below meth c s.heap [] 0 0 (MQ below Qc args s mc ms (kF b sz)) (F0 m 0 ls [])) :
    y.name = "<init>" → Met l y (.code y cc nL none :: lw_g) rm (kcPre2 D G b sz tag fs ad) Qc mc ms (kF b sz) := by
  intro hyn
  refine Met.ofW (cc := cc) (maxL := nL) (ret := none) hy rfl ?_
  intro p e s m args below meth c s₁ B hml hv
  obtain ⟨rfl, hsz, hb, hP, hK, hWc, hWd⟩ := hv
  have hts := atoms_spec (ws := .code y cc nL none :: lw_g) B.pre
  have hl := lv_entry ([.ref b] : List Value) (n := nL) hn
  rw [lg_entry_eq]
  exact body p e s m _ below meth c ⟨B.exec, B.bytes, hml, findClass_of_methodNamed B.named, fun w h => hts w (List.mem_cons_of_mem _ h), hK, hsz, hb, hWc, (name_of_methodNamed B.named B.method).1.trans hyn, B.returns, B.notSynchronized⟩ hWd hP ⟨fun i j x y hi hj _ => by
      have h1 : i < 1 := (List.getElem?_eq_some_iff.mp hi).1
      have h2 : j < 1 := (List.getElem?_eq_some_iff.mp hj).1
      omega, fun k q hk => by
      have h1 : k < 1 := (List.getElem?_eq_some_iff.mp hk).1
      rw [show k = 0 by omega] at hk
      cases hk
      exact Or.inl rfl⟩ va_S.rf _ hl
theorem kc2_vret {p : Program} {l : Launch} {e : Env} {R : Room} {s : State} {m : MethodId} {args : Array Value} {below : List Frame} {meth : Method} {c : Code} {H : Heap} {locs : List Loc} {cells slots : Nat} {cc : ByteArray} {own : String} {nL pc : Nat} {ls : Array Slot} {D : va_G} {G : Nat → ClassId} {ad : Nat → Nat → Nat} {b sz n : Nat} {sh : k_Sh} {u : k_U} (X : kcX p s m args meth c own cc nL D G b sz) (hU : kUv sh D G ad u H) (hS : va_S (kF b sz) s.heap H locs) (hz : H.size = sz + n) (hdg : decode cc pc = .ok (.return_, 1)) :
    W p l e R s m args below meth c H locs cells slots (MQ below (kcQ2 sh D G ad u b sz n) args s cells slots (kF b sz)) (F0 m pc ls []) :=
  W.vret X.1 X.2.1 X.2.2.2.2.2.2.2.2.2.2.1 (fun t ht hW => ⟨⟨(), rfl, trivial, by rw [ht]; exact hz, by rw [ht]; exact hU⟩, hS.F ht⟩) hS.2.2 hdg X.2.2.2.2.2.2.2.2.2.2.2
/-- from a constructor's context to that of the rows over a table -/
theorem kc_to {p : Program} {s : State} {m : MethodId} {args : Array Value} {meth : Method} {c : Code} {own : String} {cc : ByteArray} {nL : Nat} {D : va_G} {G : Nat → ClassId} {b sz : Nat} {sh : k_Sh} {ad : Nat → Nat → Nat} (X : kcX p s m args meth c own cc nL D G b sz) (hI : kok sh ad) (hA : kA sh ad sz = kF b sz) (hWd : k_Wd ad (kF b sz) s s.heap) : kCx sh p s m args c own cc nL D G ad sz :=
  ⟨X.1, X.2.1, X.2.2.1, X.2.2.2.1, X.2.2.2.2.1, X.2.2.2.2.2.1, hI, X.2.2.2.2.2.2.1, by rw [hA]; exact hWd⟩
def wsX10 (G : Nat → ClassId) (b : Nat) : va_W := ([(b, .inr (10, [.ref (b + 1), .ref ((b + 1) + 3), .ref ((b + 1) + 27), .ref ((b + 1) + 30), .ref ((b + 1) + 53), .ref ((b + 1) + 76), .ref ((b + 1) + 262), .ref ((b + 1) + 263), .ref ((b + 1) + 264), .ref ((b + 1) + 265)])), (((b + 1) + 262), .inl (G 4, 2, .inr (.inr (.inr (.inr (va_up (va_up (fun _ => none) 0 (some ((b + 1) + 267))) 1 (some ((b + 1) + 290))))))))] ++ ((((((((((([] ++ wsX4 G (b + 1) ((b + 1) + 1)) ++ wsX6 G ((b + 1) + 3) ((b + 1) + 4)) ++ wsX5 G ((b + 1) + 27) ((b + 1) + 28)) ++ wsX9 G ((b + 1) + 30) ((b + 1) + 31)) ++ wsX9 G ((b + 1) + 53) ((b + 1) + 54)) ++ wsX3 G ((b + 1) + 76) ((b + 1) + 77)) ++ [(((b + 1) + 263), .inl (G 1, 2, .inl (fun _ => 0)))]) ++ [(((b + 1) + 264), .inl (G 0, 10, .inl (fun _ => 0)))]) ++ wsX7 G ((b + 1) + 265) ((b + 1) + 266)) ++ wsX9 G ((b + 1) + 267) ((b + 1) + 268)) ++ wsX9 G ((b + 1) + 290) ((b + 1) + 291)))
def fsX10 : List Value := [.null, .null, .null, .null, .null, .null, .null, .null, .null, .null]
theorem kl_sv {ad : Nat → Nat → Nat} {a0 a1 : Nat} (h0 : ad 12 0 = a0) (h1 : ad 13 0 = a1) : k_av ad k_rSv = va_up (va_up (fun _ => none) 0 (some a0)) 1 (some a1) := by
  funext j
  unfold k_av k_rSv va_up
  by_cases h : j < 2
  · rw [if_pos h]
    rcases (show j = 0 ∨ j = 1 by omega) with rfl | rfl
    · show some (ad 12 0) = _
      rw [h0]
      rfl
    · show some (ad 13 0) = _
      rw [h1]
      rfl
  · rw [if_neg h, if_neg (by omega), if_neg (by omega)]
theorem kl_st {ad : Nat → Nat → Nat} {A : Nat} (had : ∀ j, j < 8 → ad (15 + j) 0 = A + 23 * j) : k_av ad k_rSt = (va_up (va_up (va_up (va_up (va_up (va_up (va_up (va_up (fun _ => none) 0 (some (A + 0))) 1 (some (A + 23))) 2 (some (A + 46))) 3 (some (A + 69))) 4 (some (A + 92))) 5 (some (A + 115))) 6 (some (A + 138))) 7 (some (A + 161))) := by
  funext j
  unfold k_av k_rSt va_up
  by_cases h : j < 8
  · rw [if_pos h]
    dsimp only
    rw [had j h]
    rcases (show j = 0 ∨ j = 1 ∨ j = 2 ∨ j = 3 ∨ j = 4 ∨ j = 5 ∨ j = 6 ∨ j = 7 by omega) with rfl | rfl | rfl | rfl | rfl | rfl | rfl | rfl <;> rfl
  · rw [if_neg h]
    rw [if_neg (by omega), if_neg (by omega), if_neg (by omega), if_neg (by omega), if_neg (by omega), if_neg (by omega), if_neg (by omega), if_neg (by omega)]
set_option maxRecDepth 100000 in
set_option maxHeartbeats 8000000 in
theorem kb_L {D : va_G} {G : Nat → ClassId} {b : Nat} {st : Nat → Nat → Nat} {H : Heap} (hP : va_P D vwCl (wsX10 G b) H) : kUv k_shL D G (kAd b st) kU0 H := by
  have hA := kp_l hP
  have hB := kp_r hP
  have g10 := kp_r hB
  have g9 := kp_r (kp_l hB)
  have g8 := kp_r (kp_l (kp_l hB))
  have g7 := kp_r (kp_l (kp_l (kp_l hB)))
  have g6 := kp_r (kp_l (kp_l (kp_l (kp_l hB))))
  have g5 := kp_r (kp_l (kp_l (kp_l (kp_l (kp_l hB)))))
  have g4 := kp_r (kp_l (kp_l (kp_l (kp_l (kp_l (kp_l hB))))))
  have g3 := kp_r (kp_l (kp_l (kp_l (kp_l (kp_l (kp_l (kp_l hB)))))))
  have g2 := kp_r (kp_l (kp_l (kp_l (kp_l (kp_l (kp_l (kp_l (kp_l hB))))))))
  have g1 := kp_r (kp_l (kp_l (kp_l (kp_l (kp_l (kp_l (kp_l (kp_l (kp_l hB)))))))))
  have g0 := kp_r (kp_l (kp_l (kp_l (kp_l (kp_l (kp_l (kp_l (kp_l (kp_l (kp_l hB))))))))))
  clear hP hB
  have sA := kp_l g1
  have sW := kp_r (kp_r g1)
  have iA := kp_l g5
  have iB := kp_r g5
  have i7 := kp_r iB
  have i6 := kp_r (kp_l iB)
  have i5 := kp_r (kp_l (kp_l iB))
  have i4 := kp_r (kp_l (kp_l (kp_l iB)))
  have i3 := kp_r (kp_l (kp_l (kp_l (kp_l iB))))
  have i2 := kp_r (kp_l (kp_l (kp_l (kp_l (kp_l iB)))))
  have i1 := kp_r (kp_l (kp_l (kp_l (kp_l (kp_l (kp_l iB))))))
  have i0 := kp_r (kp_l (kp_l (kp_l (kp_l (kp_l (kp_l (kp_l iB)))))))
  clear g1 g5 iB
  refine k_build fun k c S h => ?_
  by_cases hk : 10 ≤ k ∧ k < 23
  · have hne : ¬ (k = 5 ∨ k = 6) := by omega
    have h1 : k_shW k c = some S := by
      unfold k_shL k_sh at h
      rw [if_neg hne, if_pos hk] at h
      exact h
    have hu : kU0 k c = kW0 c := by
      unfold kU0
      rw [if_pos hk]
    rw [hu]
    clear hne h hu
    rcases (show k = 10 ∨ k = 11 ∨ k = 12 ∨ k = 13 ∨ k = 14 ∨ k = 15 ∨ k = 16 ∨ k = 17 ∨ k = 18 ∨ k = 19 ∨ k = 20 ∨ k = 21 ∨ k = 22 by omega) with rfl | rfl | rfl | rfl | rfl | rfl | rfl | rfl | rfl | rfl | rfl | rfl | rfl
    · exact kw_at (k := 10) (A := b + 31) (fun c _ => rfl) g3 c S h1
    · exact kw_at (k := 11) (A := b + 54) (fun c _ => rfl) g4 c S h1
    · exact kw_at (k := 12) (A := b + 268) (fun c _ => rfl) g9 c S h1
    · exact kw_at (k := 13) (A := b + 291) (fun c _ => rfl) g10 c S h1
    · exact kw_at (k := 14) (A := b + 5) (fun c _ => rfl) sW c S h1
    · exact kw_at (k := 15) (A := b + 79) (fun c _ => rfl) i0 c S h1
    · exact kw_at (k := 16) (A := b + 102) (fun c _ => rfl) i1 c S h1
    · exact kw_at (k := 17) (A := b + 125) (fun c _ => rfl) i2 c S h1
    · exact kw_at (k := 18) (A := b + 148) (fun c _ => rfl) i3 c S h1
    · exact kw_at (k := 19) (A := b + 171) (fun c _ => rfl) i4 c S h1
    · exact kw_at (k := 20) (A := b + 194) (fun c _ => rfl) i5 c S h1
    · exact kw_at (k := 21) (A := b + 217) (fun c _ => rfl) i6 c S h1
    · exact kw_at (k := 22) (A := b + 240) (fun c _ => rfl) i7 c S h1
  · have h1 : k_shN k c = some S ∧ k ≠ 5 ∧ k ≠ 6 := by
      unfold k_shL at h
      by_cases hne : k = 5 ∨ k = 6
      · rw [if_pos hne] at h
        cases h
      · rw [if_neg hne] at h
        unfold k_sh at h
        rw [if_neg hk] at h
        exact ⟨h, fun e => hne (Or.inl e), fun e => hne (Or.inr e)⟩
    obtain ⟨h1, h5, h6⟩ := h1
    clear h
    have hk4 : k < 5 := by
      unfold k_shN at h1
      split at h1 <;> first | omega | cases h1
    rcases (show k = 0 ∨ k = 1 ∨ k = 2 ∨ k = 3 ∨ k = 4 by omega) with rfl | rfl | rfl | rfl | rfl
    · have hc : c < 5 := by
        simp only [k_shN] at h1
        split at h1 <;> first | omega | cases h1
      rcases (show c = 0 ∨ c = 1 ∨ c = 2 ∨ c = 3 ∨ c = 4 by omega) with rfl | rfl | rfl | rfl | rfl
      · obtain rfl := Option.some.inj h1
        exact hA 0 _ rfl
      · obtain rfl := Option.some.inj h1
        show va_at D vwCl (_, .inl (G 4, 2, .inr (.inr (.inr (.inr (k_av (kAd b st) k_rSv)))))) H
        rw [kl_sv (ad := kAd b st) (a0 := b + 268) (a1 := b + 291) rfl rfl]
        exact hA 1 _ rfl
      · obtain rfl := Option.some.inj h1
        exact g6 0 _ rfl
      · obtain rfl := Option.some.inj h1
        exact g7 0 _ rfl
      · obtain rfl := Option.some.inj h1
        exact sA 0 _ rfl
    · have hc : c < 3 := by
        simp only [k_shN] at h1
        split at h1 <;> first | omega | cases h1
      rcases (show c = 0 ∨ c = 1 ∨ c = 2 by omega) with rfl | rfl | rfl
      · obtain rfl := Option.some.inj h1
        exact g0 0 _ rfl
      · obtain rfl := Option.some.inj h1
        exact g0 1 _ rfl
      · obtain rfl := Option.some.inj h1
        exact g0 2 _ rfl
    · have hc : c < 3 := by
        simp only [k_shN] at h1
        split at h1 <;> first | omega | cases h1
      rcases (show c = 0 ∨ c = 1 ∨ c = 2 by omega) with rfl | rfl | rfl
      · obtain rfl := Option.some.inj h1
        exact g2 0 _ rfl
      · obtain rfl := Option.some.inj h1
        exact g2 1 _ rfl
      · obtain rfl := Option.some.inj h1
        exact g2 2 _ rfl
    · have hc : c < 2 := by
        simp only [k_shN] at h1
        split at h1 <;> first | omega | cases h1
      rcases (show c = 0 ∨ c = 1 by omega) with rfl | rfl
      · obtain rfl := Option.some.inj h1
        exact g8 0 _ rfl
      · obtain rfl := Option.some.inj h1
        exact g8 1 _ rfl
    · have hc : c < 2 := by
        simp only [k_shN] at h1
        split at h1 <;> first | omega | cases h1
      rcases (show c = 0 ∨ c = 1 by omega) with rfl | rfl
      · obtain rfl := Option.some.inj h1
        exact iA 0 _ rfl
      · obtain rfl := Option.some.inj h1
        show va_at D vwCl (_, .inl (G 4, 8, .inr (.inr (.inr (.inr (k_av (kAd b st) k_rSt)))))) H
        rw [kl_st (ad := kAd b st) (A := b + 79) (fun j hj => by rcases (show j = 0 ∨ j = 1 ∨ j = 2 ∨ j = 3 ∨ j = 4 ∨ j = 5 ∨ j = 6 ∨ j = 7 by omega) with rfl | rfl | rfl | rfl | rfl | rfl | rfl | rfl <;> rfl)]
        exact iA 1 _ rfl
def rm_X10_init : Room := { frames := 4, cells := 313, slots := 5116, locals := 74 }

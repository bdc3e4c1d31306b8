def kS_flat : List Cond := flatC (Jvm.Cond.and given_1 narrow_1)
theorem kS_sl {o m : Nat} {L : List Cond} (h : (kS_flat.drop o).take m = L) : ∀ w ∈ L, w ∈ kS_flat := fun w hw => List.mem_of_mem_drop (List.mem_of_mem_take (by rw [h]; exact hw))
def kS_v (own : String) (k : Nat) : Term := .field (.string own k) "java/lang/String" "value" "[B"
def kS_at (own : String) (k : Nat) (B : List Int32) : List Cond := .exactly (.string own k) "java/lang/String" :: .eq (.field (.string own k) "java/lang/String" "coder" "B") (.int 0) :: .arrayOf (kS_v own k) .byte :: .eq (.length (kS_v own k)) (.int (Int32.ofNat B.length)) :: (List.range B.length).map fun j => .eq (.elem (kS_v own k) (.int (Int32.ofNat j))) (.int (B.getD j 0))
theorem kS_one {args : Array Value} {s : State} {A : Nat → Prop} {own tx : String} {k : Nat} {B : List Int32} (hB : B.length < 2 ^ 31) (hA : ∀ a : Nat, a < s.heap.size → ¬ A a) (h : ∀ w ∈ kS_at own k B, w.before args s = true) (hr : (Cond.stringRef own k tx).before args s = true) : ∃ q : Nat × Nat, (va_O "java/lang/String" q.1 A s s.heap ∧ va_OF "java/lang/String" "coder" "B" (.int 0) q.1 A s s.heap ∧ va_OF "java/lang/String" "value" "[B" (.ref q.2) q.1 A s s.heap ∧ va_T .byte q.2 B.length (fun j => .int (B.getD j 0)) A s s.heap) ∧ vk_R own k tx q.1 s := by
  have h0 := h _ List.mem_cons_self
  have h1 := h _ (List.mem_cons_of_mem _ List.mem_cons_self)
  have h2 := h _ (List.mem_cons_of_mem _ (List.mem_cons_of_mem _ List.mem_cons_self))
  have h3 := h _ (List.mem_cons_of_mem _ (List.mem_cons_of_mem _ (List.mem_cons_of_mem _ List.mem_cons_self)))
  have h4 : ∀ j : Nat, j < B.length → (Cond.eq (.elem (kS_v own k) (.int (Int32.ofNat j))) (.int (B.getD j 0))).before args s = true := fun j hj => h _ (List.mem_cons_of_mem _ (List.mem_cons_of_mem _ (List.mem_cons_of_mem _ (List.mem_cons_of_mem _ (List.mem_map.mpr ⟨j, List.mem_range.mpr hj, rfl⟩)))))
  obtain ⟨a, c, cA, kA, q1, q2, q3, q4, q5, q6, -⟩ := Cond.exactly_spec (args := args) (first := s) (o := none) (s := s) (idx := []) (t := .string own k) (cls := "java/lang/String") h0
  obtain ⟨t, ht, hT⟩ := va_Tof (f := fun j => .int (B.getD j 0)) (A := A) hB h2 (va_eqt h3) (fun j hj => va_eqt (h4 j hj)) hA
  exact ⟨(a, t), ⟨⟨cA, q3, q5, by rw [q6]; exact q2, hA a (Array.getElem?_eq_some_iff.mp q3).1⟩, vk_OFof q1 (va_eqt h1) hA, vk_OFof q1 ht hA, hT⟩, vk_R.of hr q1⟩
theorem kS_two {args : Array Value} {s : State} {own tx : String} {k : Nat} (h0 : (Cond.exactly (.string own k) "java/lang/String").before args s = true) (hr : (Cond.stringRef own k tx).before args s = true) : ∃ a : Nat, vk_R own k tx a s := by
  obtain ⟨a, c, cA, kA, q1, -⟩ := Cond.exactly_spec (args := args) (first := s) (o := none) (s := s) (idx := []) (t := .string own k) (cls := "java/lang/String") h0
  exact ⟨a, vk_R.of hr q1⟩
theorem kS_m0 : ∀ w ∈ kS_at "LayeredChute$SetupReader" 23 (k_wd 0), w ∈ kS_flat := kS_sl (o := 105) (m := 11) (by decide +kernel)
theorem kS_m1 : ∀ w ∈ kS_at "LayeredChute$SetupReader" 50 (k_wd 1), w ∈ kS_flat := kS_sl (o := 116) (m := 9) (by decide +kernel)
theorem kS_m2 : ∀ w ∈ kS_at "LayeredChute$SetupReader" 59 (k_wd 2), w ∈ kS_flat := kS_sl (o := 153) (m := 11) (by decide +kernel)
theorem kS_m3 : ∀ w ∈ kS_at "LayeredChute$SetupReader" 64 (k_wd 3), w ∈ kS_flat := kS_sl (o := 173) (m := 10) (by decide +kernel)
theorem kS_m4 : ∀ w ∈ kS_at "LayeredChute$SetupReader" 69 (k_wd 4), w ∈ kS_flat := kS_sl (o := 183) (m := 8) (by decide +kernel)
theorem kS_m5 : ∀ w ∈ kS_at "LayeredChute$SetupReader" 74 (k_wd 5), w ∈ kS_flat := kS_sl (o := 191) (m := 8) (by decide +kernel)
theorem kS_m6 : ∀ w ∈ kS_at "LayeredChute$SetupReader" 79 (k_wd 6), w ∈ kS_flat := kS_sl (o := 199) (m := 8) (by decide +kernel)
theorem kS_m7 : ∀ w ∈ kS_at "LayeredChute$SetupReader" 98 (k_wd 7), w ∈ kS_flat := kS_sl (o := 125) (m := 9) (by decide +kernel)
theorem kS_m8 : ∀ w ∈ kS_at "LayeredChute$SetupReader" 104 (k_wd 8), w ∈ kS_flat := kS_sl (o := 143) (m := 10) (by decide +kernel)
theorem kS_m9 : ∀ w ∈ kS_at "LayeredChute$SetupReader" 118 (k_wd 9), w ∈ kS_flat := kS_sl (o := 164) (m := 9) (by decide +kernel)
theorem kS_m10 : ∀ w ∈ kS_at "LayeredChute$SetupReader" 120 (k_wd 10), w ∈ kS_flat := kS_sl (o := 134) (m := 9) (by decide +kernel)
theorem kS_m11 : ∀ w ∈ kS_at "LayeredChute$Script" 53 (k_wd 11), w ∈ kS_flat := kS_sl (o := 207) (m := 8) (by decide +kernel)
theorem kS_m12 : ∀ w ∈ kS_at "LayeredChute$Script" 59 (k_wd 12), w ∈ kS_flat := kS_sl (o := 215) (m := 8) (by decide +kernel)
theorem kS_m13 : ∀ w ∈ kS_at "LayeredChute$Script" 61 (k_wd 13), w ∈ kS_flat := kS_sl (o := 223) (m := 8) (by decide +kernel)
theorem kS_m14 : ∀ w ∈ kS_at "LayeredChute$Script" 63 (k_wd 14), w ∈ kS_flat := kS_sl (o := 231) (m := 11) (by decide +kernel)
theorem kS_m15 : ∀ w ∈ kS_at "LayeredChute$Script" 65 (k_wd 15), w ∈ kS_flat := kS_sl (o := 243) (m := 7) (by decide +kernel)
theorem kS_m16 : ∀ w ∈ kS_at "LayeredChute$Script" 67 (k_wd 16), w ∈ kS_flat := kS_sl (o := 250) (m := 9) (by decide +kernel)
theorem kS_m17 : ∀ w ∈ kS_at "LayeredChuteModel" 311 (k_wd 17), w ∈ kS_flat := kS_sl (o := 861) (m := 9) (by decide +kernel)
theorem kS_m18 : ∀ w ∈ kS_at "LayeredChuteModel" 319 (k_wd 18), w ∈ kS_flat := kS_sl (o := 871) (m := 9) (by decide +kernel)
theorem kS_m19 : ∀ w ∈ kS_at "LayeredChuteModel" 321 (k_wd 19), w ∈ kS_flat := kS_sl (o := 881) (m := 10) (by decide +kernel)
theorem kS_m20 : ∀ w ∈ kS_at "LayeredChuteModel" 323 (k_wd 20), w ∈ kS_flat := kS_sl (o := 905) (m := 9) (by decide +kernel)
theorem kS_m21 : ∀ w ∈ kS_at "LayeredChuteModel" 331 (k_wd 21), w ∈ kS_flat := kS_sl (o := 851) (m := 9) (by decide +kernel)
theorem kS_m22 : ∀ w ∈ kS_at "LayeredChuteModel" 336 (k_wd 22), w ∈ kS_flat := kS_sl (o := 892) (m := 11) (by decide +kernel)
theorem kS_m23 : ∀ w ∈ kS_at "LayeredChuteModel" 341 (k_wd 23), w ∈ kS_flat := kS_sl (o := 915) (m := 10) (by decide +kernel)
theorem kS_m24 : ∀ w ∈ kS_at "LayeredChuteModel" 346 (k_wd 24), w ∈ kS_flat := kS_sl (o := 926) (m := 8) (by decide +kernel)
theorem kS_m25 : ∀ w ∈ kS_at "LayeredChuteModel" 351 (k_wd 25), w ∈ kS_flat := kS_sl (o := 935) (m := 8) (by decide +kernel)
theorem kS_m26 : ∀ w ∈ kS_at "LayeredChuteModel" 356 (k_wd 26), w ∈ kS_flat := kS_sl (o := 944) (m := 8) (by decide +kernel)
theorem kS_m27 : ∀ w ∈ kS_at "LayeredChuteModel" 361 (k_wd 27), w ∈ kS_flat := kS_sl (o := 839) (m := 11) (by decide +kernel)
theorem kS_m28 : ∀ w ∈ kS_at "LayeredChuteModel" 369 (k_wd 28), w ∈ kS_flat := kS_sl (o := 953) (m := 8) (by decide +kernel)
theorem kS_m29 : ∀ w ∈ kS_at "LayeredChuteModel" 371 (k_wd 29), w ∈ kS_flat := kS_sl (o := 962) (m := 8) (by decide +kernel)
theorem kS_m30 : ∀ w ∈ kS_at "LayeredChuteModel" 373 (k_wd 30), w ∈ kS_flat := kS_sl (o := 971) (m := 8) (by decide +kernel)
theorem kS_m31 : ∀ w ∈ kS_at "LayeredChuteModel" 375 (k_wd 31), w ∈ kS_flat := kS_sl (o := 980) (m := 7) (by decide +kernel)
theorem kS_m32 : ∀ w ∈ kS_at "LayeredChuteModel" 377 (k_wd 32), w ∈ kS_flat := kS_sl (o := 988) (m := 9) (by decide +kernel)
set_option maxRecDepth 100000 in
set_option maxHeartbeats 8000000 in
theorem kS_all {args : Array Value} {s : State} {A : Nat → Prop} (hA : ∀ a : Nat, a < s.heap.size → ¬ A a) (hn : ∀ w ∈ kS_flat, w.before args s = true) (ht : ∀ w ∈ lw_tbl, w.before args s = true) : ∀ i : Nat, ∃ q : Nat × Nat, (i < 33 → va_O "java/lang/String" q.1 A s s.heap ∧ va_OF "java/lang/String" "coder" "B" (.int 0) q.1 A s s.heap ∧ va_OF "java/lang/String" "value" "[B" (.ref q.2) q.1 A s s.heap ∧ va_T .byte q.2 (k_wd i).length (fun j => .int ((k_wd i).getD j 0)) A s s.heap) ∧ ∀ z : String × Nat × String, k_str[i]? = some z → vk_R z.1 z.2.1 z.2.2 q.1 s := by
  intro i
  match i with
  | 0 =>
    obtain ⟨q, h1, h2⟩ := kS_one (A := A) (own := "LayeredChute$SetupReader") (k := 23) (tx := "capsule") (B := k_wd 0) (by decide) hA (fun w hw => hn w (kS_m0 w hw)) (ht _ (List.mem_append_right _ (List.mem_of_getElem? (i := 395) (by decide +kernel))))
    refine ⟨q, fun _ => h1, fun z hz => ?_⟩
    have hz9 : (("LayeredChute$SetupReader", 23, "capsule") : String × Nat × String) = z := Option.some.inj hz
    subst hz9
    exact h2
  | 1 =>
    obtain ⟨q, h1, h2⟩ := kS_one (A := A) (own := "LayeredChute$SetupReader") (k := 50) (tx := "layer") (B := k_wd 1) (by decide) hA (fun w hw => hn w (kS_m1 w hw)) (ht _ (List.mem_append_right _ (List.mem_of_getElem? (i := 478) (by decide +kernel))))
    refine ⟨q, fun _ => h1, fun z hz => ?_⟩
    have hz9 : (("LayeredChute$SetupReader", 50, "layer") : String × Nat × String) = z := Option.some.inj hz
    subst hz9
    exact h2
  | 2 =>
    obtain ⟨q, h1, h2⟩ := kS_one (A := A) (own := "LayeredChute$SetupReader") (k := 59) (tx := "reserve") (B := k_wd 2) (by decide) hA (fun w hw => hn w (kS_m2 w hw)) (ht _ (List.mem_append_right _ (List.mem_of_getElem? (i := 502) (by decide +kernel))))
    refine ⟨q, fun _ => h1, fun z hz => ?_⟩
    have hz9 : (("LayeredChute$SetupReader", 59, "reserve") : String × Nat × String) = z := Option.some.inj hz
    subst hz9
    exact h2
  | 3 =>
    obtain ⟨q, h1, h2⟩ := kS_one (A := A) (own := "LayeredChute$SetupReader") (k := 64) (tx := "target") (B := k_wd 3) (by decide) hA (fun w hw => hn w (kS_m3 w hw)) (ht _ (List.mem_append_right _ (List.mem_of_getElem? (i := 508) (by decide +kernel))))
    refine ⟨q, fun _ => h1, fun z hz => ?_⟩
    have hz9 : (("LayeredChute$SetupReader", 64, "target") : String × Nat × String) = z := Option.some.inj hz
    subst hz9
    exact h2
  | 4 =>
    obtain ⟨q, h1, h2⟩ := kS_one (A := A) (own := "LayeredChute$SetupReader") (k := 69) (tx := "wind") (B := k_wd 4) (by decide) hA (fun w hw => hn w (kS_m4 w hw)) (ht _ (List.mem_append_right _ (List.mem_of_getElem? (i := 526) (by decide +kernel))))
    refine ⟨q, fun _ => h1, fun z hz => ?_⟩
    have hz9 : (("LayeredChute$SetupReader", 69, "wind") : String × Nat × String) = z := Option.some.inj hz
    subst hz9
    exact h2
  | 5 =>
    obtain ⟨q, h1, h2⟩ := kS_one (A := A) (own := "LayeredChute$SetupReader") (k := 74) (tx := "spot") (B := k_wd 5) (by decide) hA (fun w hw => hn w (kS_m5 w hw)) (ht _ (List.mem_append_right _ (List.mem_of_getElem? (i := 536) (by decide +kernel))))
    refine ⟨q, fun _ => h1, fun z hz => ?_⟩
    have hz9 : (("LayeredChute$SetupReader", 74, "spot") : String × Nat × String) = z := Option.some.inj hz
    subst hz9
    exact h2
  | 6 =>
    obtain ⟨q, h1, h2⟩ := kS_one (A := A) (own := "LayeredChute$SetupReader") (k := 79) (tx := "cool") (B := k_wd 6) (by decide) hA (fun w hw => hn w (kS_m6 w hw)) (ht _ (List.mem_append_right _ (List.mem_of_getElem? (i := 545) (by decide +kernel))))
    refine ⟨q, fun _ => h1, fun z hz => ?_⟩
    have hz9 : (("LayeredChute$SetupReader", 79, "cool") : String × Nat × String) = z := Option.some.inj hz
    subst hz9
    exact h2
  | 7 =>
    obtain ⟨q, h1, h2⟩ := kS_one (A := A) (own := "LayeredChute$SetupReader") (k := 98) (tx := "under") (B := k_wd 7) (by decide) hA (fun w hw => hn w (kS_m7 w hw)) (ht _ (List.mem_append_right _ (List.mem_of_getElem? (i := 491) (by decide +kernel))))
    refine ⟨q, fun _ => h1, fun z hz => ?_⟩
    have hz9 : (("LayeredChute$SetupReader", 98, "under") : String × Nat × String) = z := Option.some.inj hz
    subst hz9
    exact h2
  | 8 =>
    obtain ⟨q, h1, h2⟩ := kS_one (A := A) (own := "LayeredChute$SetupReader") (k := 104) (tx := "jammed") (B := k_wd 8) (by decide) hA (fun w hw => hn w (kS_m8 w hw)) (ht _ (List.mem_append_right _ (List.mem_of_getElem? (i := 501) (by decide +kernel))))
    refine ⟨q, fun _ => h1, fun z hz => ?_⟩
    have hz9 : (("LayeredChute$SetupReader", 104, "jammed") : String × Nat × String) = z := Option.some.inj hz
    subst hz9
    exact h2
  | 9 =>
    obtain ⟨q, h1, h2⟩ := kS_one (A := A) (own := "LayeredChute$SetupReader") (k := 118) (tx := "after") (B := k_wd 9) (by decide) hA (fun w hw => hn w (kS_m9 w hw)) (ht _ (List.mem_append_right _ (List.mem_of_getElem? (i := 507) (by decide +kernel))))
    refine ⟨q, fun _ => h1, fun z hz => ?_⟩
    have hz9 : (("LayeredChute$SetupReader", 118, "after") : String × Nat × String) = z := Option.some.inj hz
    subst hz9
    exact h2
  | 10 =>
    obtain ⟨q, h1, h2⟩ := kS_one (A := A) (own := "LayeredChute$SetupReader") (k := 120) (tx := "below") (B := k_wd 10) (by decide) hA (fun w hw => hn w (kS_m10 w hw)) (ht _ (List.mem_append_right _ (List.mem_of_getElem? (i := 496) (by decide +kernel))))
    refine ⟨q, fun _ => h1, fun z hz => ?_⟩
    have hz9 : (("LayeredChute$SetupReader", 120, "below") : String × Nat × String) = z := Option.some.inj hz
    subst hz9
    exact h2
  | 11 =>
    obtain ⟨q, h1, h2⟩ := kS_one (A := A) (own := "LayeredChute$Script") (k := 53) (tx := "tick") (B := k_wd 11) (by decide) hA (fun w hw => hn w (kS_m11 w hw)) (ht _ (List.mem_append_right _ (List.mem_of_getElem? (i := 606) (by decide +kernel))))
    refine ⟨q, fun _ => h1, fun z hz => ?_⟩
    have hz9 : (("LayeredChute$Script", 53, "tick") : String × Nat × String) = z := Option.some.inj hz
    subst hz9
    exact h2
  | 12 =>
    obtain ⟨q, h1, h2⟩ := kS_one (A := A) (own := "LayeredChute$Script") (k := 59) (tx := "fall") (B := k_wd 12) (by decide) hA (fun w hw => hn w (kS_m12 w hw)) (ht _ (List.mem_append_right _ (List.mem_of_getElem? (i := 608) (by decide +kernel))))
    refine ⟨q, fun _ => h1, fun z hz => ?_⟩
    have hz9 : (("LayeredChute$Script", 59, "fall") : String × Nat × String) = z := Option.some.inj hz
    subst hz9
    exact h2
  | 13 =>
    obtain ⟨q, h1, h2⟩ := kS_one (A := A) (own := "LayeredChute$Script") (k := 61) (tx := "open") (B := k_wd 13) (by decide) hA (fun w hw => hn w (kS_m13 w hw)) (ht _ (List.mem_append_right _ (List.mem_of_getElem? (i := 609) (by decide +kernel))))
    refine ⟨q, fun _ => h1, fun z hz => ?_⟩
    have hz9 : (("LayeredChute$Script", 61, "open") : String × Nat × String) = z := Option.some.inj hz
    subst hz9
    exact h2
  | 14 =>
    obtain ⟨q, h1, h2⟩ := kS_one (A := A) (own := "LayeredChute$Script") (k := 63) (tx := "reserve") (B := k_wd 14) (by decide) hA (fun w hw => hn w (kS_m14 w hw)) (ht _ (List.mem_append_right _ (List.mem_of_getElem? (i := 610) (by decide +kernel))))
    refine ⟨q, fun _ => h1, fun z hz => ?_⟩
    have hz9 : (("LayeredChute$Script", 63, "reserve") : String × Nat × String) = z := Option.some.inj hz
    subst hz9
    exact h2
  | 15 =>
    obtain ⟨q, h1, h2⟩ := kS_one (A := A) (own := "LayeredChute$Script") (k := 65) (tx := "cut") (B := k_wd 15) (by decide) hA (fun w hw => hn w (kS_m15 w hw)) (ht _ (List.mem_append_right _ (List.mem_of_getElem? (i := 611) (by decide +kernel))))
    refine ⟨q, fun _ => h1, fun z hz => ?_⟩
    have hz9 : (("LayeredChute$Script", 65, "cut") : String × Nat × String) = z := Option.some.inj hz
    subst hz9
    exact h2
  | 16 =>
    obtain ⟨q, h1, h2⟩ := kS_one (A := A) (own := "LayeredChute$Script") (k := 67) (tx := "steer") (B := k_wd 16) (by decide) hA (fun w hw => hn w (kS_m16 w hw)) (ht _ (List.mem_append_right _ (List.mem_of_getElem? (i := 612) (by decide +kernel))))
    refine ⟨q, fun _ => h1, fun z hz => ?_⟩
    have hz9 : (("LayeredChute$Script", 67, "steer") : String × Nat × String) = z := Option.some.inj hz
    subst hz9
    exact h2
  | 17 =>
    obtain ⟨q, h1, h2⟩ := kS_one (A := A) (own := "LayeredChuteModel") (k := 311) (tx := "below") (B := k_wd 17) (by decide) hA (fun w hw => hn w (kS_m17 w hw)) (ht _ (List.mem_append_right _ (List.mem_of_getElem? (i := 1762) (by decide +kernel))))
    refine ⟨q, fun _ => h1, fun z hz => ?_⟩
    have hz9 : (("LayeredChuteModel", 311, "below") : String × Nat × String) = z := Option.some.inj hz
    subst hz9
    exact h2
  | 18 =>
    obtain ⟨q, h1, h2⟩ := kS_one (A := A) (own := "LayeredChuteModel") (k := 319) (tx := "under") (B := k_wd 18) (by decide) hA (fun w hw => hn w (kS_m18 w hw)) (ht _ (List.mem_append_right _ (List.mem_of_getElem? (i := 1763) (by decide +kernel))))
    refine ⟨q, fun _ => h1, fun z hz => ?_⟩
    have hz9 : (("LayeredChuteModel", 319, "under") : String × Nat × String) = z := Option.some.inj hz
    subst hz9
    exact h2
  | 19 =>
    obtain ⟨q, h1, h2⟩ := kS_one (A := A) (own := "LayeredChuteModel") (k := 321) (tx := "jammed") (B := k_wd 19) (by decide) hA (fun w hw => hn w (kS_m19 w hw)) (ht _ (List.mem_append_right _ (List.mem_of_getElem? (i := 1764) (by decide +kernel))))
    refine ⟨q, fun _ => h1, fun z hz => ?_⟩
    have hz9 : (("LayeredChuteModel", 321, "jammed") : String × Nat × String) = z := Option.some.inj hz
    subst hz9
    exact h2
  | 20 =>
    obtain ⟨q, h1, h2⟩ := kS_one (A := A) (own := "LayeredChuteModel") (k := 323) (tx := "after") (B := k_wd 20) (by decide) hA (fun w hw => hn w (kS_m20 w hw)) (ht _ (List.mem_append_right _ (List.mem_of_getElem? (i := 1770) (by decide +kernel))))
    refine ⟨q, fun _ => h1, fun z hz => ?_⟩
    have hz9 : (("LayeredChuteModel", 323, "after") : String × Nat × String) = z := Option.some.inj hz
    subst hz9
    exact h2
  | 21 =>
    obtain ⟨q, h1, h2⟩ := kS_one (A := A) (own := "LayeredChuteModel") (k := 331) (tx := "layer") (B := k_wd 21) (by decide) hA (fun w hw => hn w (kS_m21 w hw)) (ht _ (List.mem_append_right _ (List.mem_of_getElem? (i := 1753) (by decide +kernel))))
    refine ⟨q, fun _ => h1, fun z hz => ?_⟩
    have hz9 : (("LayeredChuteModel", 331, "layer") : String × Nat × String) = z := Option.some.inj hz
    subst hz9
    exact h2
  | 22 =>
    obtain ⟨q, h1, h2⟩ := kS_one (A := A) (own := "LayeredChuteModel") (k := 336) (tx := "reserve") (B := k_wd 22) (by decide) hA (fun w hw => hn w (kS_m22 w hw)) (ht _ (List.mem_append_right _ (List.mem_of_getElem? (i := 1765) (by decide +kernel))))
    refine ⟨q, fun _ => h1, fun z hz => ?_⟩
    have hz9 : (("LayeredChuteModel", 336, "reserve") : String × Nat × String) = z := Option.some.inj hz
    subst hz9
    exact h2
  | 23 =>
    obtain ⟨q, h1, h2⟩ := kS_one (A := A) (own := "LayeredChuteModel") (k := 341) (tx := "target") (B := k_wd 23) (by decide) hA (fun w hw => hn w (kS_m23 w hw)) (ht _ (List.mem_append_right _ (List.mem_of_getElem? (i := 1771) (by decide +kernel))))
    refine ⟨q, fun _ => h1, fun z hz => ?_⟩
    have hz9 : (("LayeredChuteModel", 341, "target") : String × Nat × String) = z := Option.some.inj hz
    subst hz9
    exact h2
  | 24 =>
    obtain ⟨q, h1, h2⟩ := kS_one (A := A) (own := "LayeredChuteModel") (k := 346) (tx := "wind") (B := k_wd 24) (by decide) hA (fun w hw => hn w (kS_m24 w hw)) (ht _ (List.mem_append_right _ (List.mem_of_getElem? (i := 1780) (by decide +kernel))))
    refine ⟨q, fun _ => h1, fun z hz => ?_⟩
    have hz9 : (("LayeredChuteModel", 346, "wind") : String × Nat × String) = z := Option.some.inj hz
    subst hz9
    exact h2
  | 25 =>
    obtain ⟨q, h1, h2⟩ := kS_one (A := A) (own := "LayeredChuteModel") (k := 351) (tx := "spot") (B := k_wd 25) (by decide) hA (fun w hw => hn w (kS_m25 w hw)) (ht _ (List.mem_append_right _ (List.mem_of_getElem? (i := 1793) (by decide +kernel))))
    refine ⟨q, fun _ => h1, fun z hz => ?_⟩
    have hz9 : (("LayeredChuteModel", 351, "spot") : String × Nat × String) = z := Option.some.inj hz
    subst hz9
    exact h2
  | 26 =>
    obtain ⟨q, h1, h2⟩ := kS_one (A := A) (own := "LayeredChuteModel") (k := 356) (tx := "cool") (B := k_wd 26) (by decide) hA (fun w hw => hn w (kS_m26 w hw)) (ht _ (List.mem_append_right _ (List.mem_of_getElem? (i := 1798) (by decide +kernel))))
    refine ⟨q, fun _ => h1, fun z hz => ?_⟩
    have hz9 : (("LayeredChuteModel", 356, "cool") : String × Nat × String) = z := Option.some.inj hz
    subst hz9
    exact h2
  | 27 =>
    obtain ⟨q, h1, h2⟩ := kS_one (A := A) (own := "LayeredChuteModel") (k := 361) (tx := "capsule") (B := k_wd 27) (by decide) hA (fun w hw => hn w (kS_m27 w hw)) (ht _ (List.mem_append_right _ (List.mem_of_getElem? (i := 1714) (by decide +kernel))))
    refine ⟨q, fun _ => h1, fun z hz => ?_⟩
    have hz9 : (("LayeredChuteModel", 361, "capsule") : String × Nat × String) = z := Option.some.inj hz
    subst hz9
    exact h2
  | 28 =>
    obtain ⟨q, h1, h2⟩ := kS_one (A := A) (own := "LayeredChuteModel") (k := 369) (tx := "tick") (B := k_wd 28) (by decide) hA (fun w hw => hn w (kS_m28 w hw)) (ht _ (List.mem_append_right _ (List.mem_of_getElem? (i := 1811) (by decide +kernel))))
    refine ⟨q, fun _ => h1, fun z hz => ?_⟩
    have hz9 : (("LayeredChuteModel", 369, "tick") : String × Nat × String) = z := Option.some.inj hz
    subst hz9
    exact h2
  | 29 =>
    obtain ⟨q, h1, h2⟩ := kS_one (A := A) (own := "LayeredChuteModel") (k := 371) (tx := "fall") (B := k_wd 29) (by decide) hA (fun w hw => hn w (kS_m29 w hw)) (ht _ (List.mem_append_right _ (List.mem_of_getElem? (i := 1812) (by decide +kernel))))
    refine ⟨q, fun _ => h1, fun z hz => ?_⟩
    have hz9 : (("LayeredChuteModel", 371, "fall") : String × Nat × String) = z := Option.some.inj hz
    subst hz9
    exact h2
  | 30 =>
    obtain ⟨q, h1, h2⟩ := kS_one (A := A) (own := "LayeredChuteModel") (k := 373) (tx := "open") (B := k_wd 30) (by decide) hA (fun w hw => hn w (kS_m30 w hw)) (ht _ (List.mem_append_right _ (List.mem_of_getElem? (i := 1813) (by decide +kernel))))
    refine ⟨q, fun _ => h1, fun z hz => ?_⟩
    have hz9 : (("LayeredChuteModel", 373, "open") : String × Nat × String) = z := Option.some.inj hz
    subst hz9
    exact h2
  | 31 =>
    obtain ⟨q, h1, h2⟩ := kS_one (A := A) (own := "LayeredChuteModel") (k := 375) (tx := "cut") (B := k_wd 31) (by decide) hA (fun w hw => hn w (kS_m31 w hw)) (ht _ (List.mem_append_right _ (List.mem_of_getElem? (i := 1814) (by decide +kernel))))
    refine ⟨q, fun _ => h1, fun z hz => ?_⟩
    have hz9 : (("LayeredChuteModel", 375, "cut") : String × Nat × String) = z := Option.some.inj hz
    subst hz9
    exact h2
  | 32 =>
    obtain ⟨q, h1, h2⟩ := kS_one (A := A) (own := "LayeredChuteModel") (k := 377) (tx := "steer") (B := k_wd 32) (by decide) hA (fun w hw => hn w (kS_m32 w hw)) (ht _ (List.mem_append_right _ (List.mem_of_getElem? (i := 1815) (by decide +kernel))))
    refine ⟨q, fun _ => h1, fun z hz => ?_⟩
    have hz9 : (("LayeredChuteModel", 377, "steer") : String × Nat × String) = z := Option.some.inj hz
    subst hz9
    exact h2
  | 33 =>
    obtain ⟨a, h2⟩ := kS_two (own := "LayeredChute") (k := 80) (tx := "the text would be longer than 600 bytes") (hn _ (List.mem_of_getElem? (i := 389) (by decide +kernel))) (ht _ (List.mem_append_right _ (List.mem_of_getElem? (i := 1007) (by decide +kernel))))
    refine ⟨(a, 0), fun h => absurd h (by decide), fun z hz => ?_⟩
    have hz9 : (("LayeredChute", 80, "the text would be longer than 600 bytes") : String × Nat × String) = z := Option.some.inj hz
    subst hz9
    exact h2
  | 34 =>
    obtain ⟨a, h2⟩ := kS_two (own := "LayeredChute") (k := 182) (tx := "what is not 0 to 8") (hn _ (List.mem_of_getElem? (i := 432) (by decide +kernel))) (ht _ (List.mem_append_right _ (List.mem_of_getElem? (i := 1030) (by decide +kernel))))
    refine ⟨(a, 0), fun h => absurd h (by decide), fun z hz => ?_⟩
    have hz9 : (("LayeredChute", 182, "what is not 0 to 8") : String × Nat × String) = z := Option.some.inj hz
    subst hz9
    exact h2
  | 35 =>
    obtain ⟨a, h2⟩ := kS_two (own := "LayeredChute") (k := 185) (tx := "what is not 0 to 15") (hn _ (List.mem_of_getElem? (i := 454) (by decide +kernel))) (ht _ (List.mem_append_right _ (List.mem_of_getElem? (i := 1038) (by decide +kernel))))
    refine ⟨(a, 0), fun h => absurd h (by decide), fun z hz => ?_⟩
    have hz9 : (("LayeredChute", 185, "what is not 0 to 15") : String × Nat × String) = z := Option.some.inj hz
    subst hz9
    exact h2
  | 36 =>
    obtain ⟨a, h2⟩ := kS_two (own := "LayeredChute") (k := 240) (tx := "there is no such chute") (hn _ (List.mem_of_getElem? (i := 340) (by decide +kernel))) (ht _ (List.mem_append_right _ (List.mem_of_getElem? (i := 877) (by decide +kernel))))
    refine ⟨(a, 0), fun h => absurd h (by decide), fun z hz => ?_⟩
    have hz9 : (("LayeredChute", 240, "there is no such chute") : String × Nat × String) = z := Option.some.inj hz
    subst hz9
    exact h2
  | 37 =>
    obtain ⟨a, h2⟩ := kS_two (own := "LayeredChute") (k := 273) (tx := "what is not 0 to 7") (hn _ (List.mem_of_getElem? (i := 477) (by decide +kernel))) (ht _ (List.mem_append_right _ (List.mem_of_getElem? (i := 1047) (by decide +kernel))))
    refine ⟨(a, 0), fun h => absurd h (by decide), fun z hz => ?_⟩
    have hz9 : (("LayeredChute", 273, "what is not 0 to 7") : String × Nat × String) = z := Option.some.inj hz
    subst hz9
    exact h2
  | 38 =>
    obtain ⟨a, h2⟩ := kS_two (own := "LayeredChute") (k := 275) (tx := "there is no such line") (hn _ (List.mem_of_getElem? (i := 499) (by decide +kernel))) (ht _ (List.mem_append_right _ (List.mem_of_getElem? (i := 1055) (by decide +kernel))))
    refine ⟨(a, 0), fun h => absurd h (by decide), fun z hz => ?_⟩
    have hz9 : (("LayeredChute", 275, "there is no such line") : String × Nat × String) = z := Option.some.inj hz
    subst hz9
    exact h2
  | 39 =>
    obtain ⟨a, h2⟩ := kS_two (own := "LayeredChute") (k := 283) (tx := "height is not 0 to 30000") (hn _ (List.mem_of_getElem? (i := 286) (by decide +kernel))) (ht _ (List.mem_append_right _ (List.mem_of_getElem? (i := 838) (by decide +kernel))))
    refine ⟨(a, 0), fun h => absurd h (by decide), fun z hz => ?_⟩
    have hz9 : (("LayeredChute", 283, "height is not 0 to 30000") : String × Nat × String) = z := Option.some.inj hz
    subst hz9
    exact h2
  | 40 =>
    obtain ⟨a, h2⟩ := kS_two (own := "LayeredChute") (k := 295) (tx := "there is no such spot") (hn _ (List.mem_of_getElem? (i := 524) (by decide +kernel))) (ht _ (List.mem_append_right _ (List.mem_of_getElem? (i := 1084) (by decide +kernel))))
    refine ⟨(a, 0), fun h => absurd h (by decide), fun z hz => ?_⟩
    have hz9 : (("LayeredChute", 295, "there is no such spot") : String × Nat × String) = z := Option.some.inj hz
    subst hz9
    exact h2
  | 41 =>
    obtain ⟨a, h2⟩ := kS_two (own := "LayeredChute") (k := 306) (tx := "what is not 0 to 2") (hn _ (List.mem_of_getElem? (i := 549) (by decide +kernel))) (ht _ (List.mem_append_right _ (List.mem_of_getElem? (i := 1085) (by decide +kernel))))
    refine ⟨(a, 0), fun h => absurd h (by decide), fun z hz => ?_⟩
    have hz9 : (("LayeredChute", 306, "what is not 0 to 2") : String × Nat × String) = z := Option.some.inj hz
    subst hz9
    exact h2
  | 42 =>
    obtain ⟨a, h2⟩ := kS_two (own := "LayeredChute") (k := 310) (tx := "there is no such event") (hn _ (List.mem_of_getElem? (i := 571) (by decide +kernel))) (ht _ (List.mem_append_right _ (List.mem_of_getElem? (i := 1103) (by decide +kernel))))
    refine ⟨(a, 0), fun h => absurd h (by decide), fun z hz => ?_⟩
    have hz9 : (("LayeredChute", 310, "there is no such event") : String × Nat × String) = z := Option.some.inj hz
    subst hz9
    exact h2
  | 43 =>
    obtain ⟨a, h2⟩ := kS_two (own := "LayeredChute") (k := 313) (tx := "what is not 0 to 3") (hn _ (List.mem_of_getElem? (i := 597) (by decide +kernel))) (ht _ (List.mem_append_right _ (List.mem_of_getElem? (i := 1110) (by decide +kernel))))
    refine ⟨(a, 0), fun h => absurd h (by decide), fun z hz => ?_⟩
    have hz9 : (("LayeredChute", 313, "what is not 0 to 3") : String × Nat × String) = z := Option.some.inj hz
    subst hz9
    exact h2
  | 44 =>
    obtain ⟨a, h2⟩ := kS_two (own := "LayeredChute") (k := 318) (tx := "what is not 0 to 9") (hn _ (List.mem_of_getElem? (i := 619) (by decide +kernel))) (ht _ (List.mem_append_right _ (List.mem_of_getElem? (i := 1122) (by decide +kernel))))
    refine ⟨(a, 0), fun h => absurd h (by decide), fun z hz => ?_⟩
    have hz9 : (("LayeredChute", 318, "what is not 0 to 9") : String × Nat × String) = z := Option.some.inj hz
    subst hz9
    exact h2
  | 45 =>
    obtain ⟨a, h2⟩ := kS_two (own := "LayeredChute") (k := 327) (tx := "there is no such layer") (hn _ (List.mem_of_getElem? (i := 314) (by decide +kernel))) (ht _ (List.mem_append_right _ (List.mem_of_getElem? (i := 853) (by decide +kernel))))
    refine ⟨(a, 0), fun h => absurd h (by decide), fun z hz => ?_⟩
    have hz9 : (("LayeredChute", 327, "there is no such layer") : String × Nat × String) = z := Option.some.inj hz
    subst hz9
    exact h2
  | 46 =>
    obtain ⟨a, h2⟩ := kS_two (own := "LayeredChute") (k := 353) (tx := "landing takes more than 3000 seconds") (hn _ (List.mem_of_getElem? (i := 641) (by decide +kernel))) (ht _ (List.mem_append_right _ (List.mem_of_getElem? (i := 1158) (by decide +kernel))))
    refine ⟨(a, 0), fun h => absurd h (by decide), fun z hz => ?_⟩
    have hz9 : (("LayeredChute", 353, "landing takes more than 3000 seconds") : String × Nat × String) = z := Option.some.inj hz
    subst hz9
    exact h2
  | 47 =>
    obtain ⟨a, h2⟩ := kS_two (own := "LayeredChute") (k := 379) (tx := "seconds is not 1 to 200") (hn _ (List.mem_of_getElem? (i := 259) (by decide +kernel))) (ht _ (List.mem_append_right _ (List.mem_of_getElem? (i := 669) (by decide +kernel))))
    refine ⟨(a, 0), fun h => absurd h (by decide), fun z hz => ?_⟩
    have hz9 : (("LayeredChute", 379, "seconds is not 1 to 200") : String × Nat × String) = z := Option.some.inj hz
    subst hz9
    exact h2
  | 48 =>
    obtain ⟨a, h2⟩ := kS_two (own := "LayeredChute") (k := 402) (tx := "slip is not -9 to 9") (hn _ (List.mem_of_getElem? (i := 366) (by decide +kernel))) (ht _ (List.mem_append_right _ (List.mem_of_getElem? (i := 887) (by decide +kernel))))
    refine ⟨(a, 0), fun h => absurd h (by decide), fun z hz => ?_⟩
    have hz9 : (("LayeredChute", 402, "slip is not -9 to 9") : String × Nat × String) = z := Option.some.inj hz
    subst hz9
    exact h2
  | 49 =>
    obtain ⟨a, h2⟩ := kS_two (own := "LayeredChute") (k := 404) (tx := "height is not 1 to 30000") (hn _ (List.mem_of_getElem? (i := 681) (by decide +kernel))) (ht _ (List.mem_append_right _ (List.mem_of_getElem? (i := 1202) (by decide +kernel))))
    refine ⟨(a, 0), fun h => absurd h (by decide), fun z hz => ?_⟩
    have hz9 : (("LayeredChute", 404, "height is not 1 to 30000") : String × Nat × String) = z := Option.some.inj hz
    subst hz9
    exact h2
  | 50 =>
    obtain ⟨a, h2⟩ := kS_two (own := "LayeredChute") (k := 406) (tx := "speed is not 1 to 400") (hn _ (List.mem_of_getElem? (i := 709) (by decide +kernel))) (ht _ (List.mem_append_right _ (List.mem_of_getElem? (i := 1203) (by decide +kernel))))
    refine ⟨(a, 0), fun h => absurd h (by decide), fun z hz => ?_⟩
    have hz9 : (("LayeredChute", 406, "speed is not 1 to 400") : String × Nat × String) = z := Option.some.inj hz
    subst hz9
    exact h2
  | 51 =>
    obtain ⟨a, h2⟩ := kS_two (own := "LayeredChute") (k := 432) (tx := "there is no such byte") (hn _ (List.mem_of_getElem? (i := 734) (by decide +kernel))) (ht _ (List.mem_append_right _ (List.mem_of_getElem? (i := 1227) (by decide +kernel))))
    refine ⟨(a, 0), fun h => absurd h (by decide), fun z hz => ?_⟩
    have hz9 : (("LayeredChute", 432, "there is no such byte") : String × Nat × String) = z := Option.some.inj hz
    subst hz9
    exact h2
  | 52 =>
    obtain ⟨a, h2⟩ := kS_two (own := "LayeredChute") (k := 437) (tx := "there is no act to undo") (hn _ (List.mem_of_getElem? (i := 759) (by decide +kernel))) (ht _ (List.mem_append_right _ (List.mem_of_getElem? (i := 1235) (by decide +kernel))))
    refine ⟨(a, 0), fun h => absurd h (by decide), fun z hz => ?_⟩
    have hz9 : (("LayeredChute", 437, "there is no act to undo") : String × Nat × String) = z := Option.some.inj hz
    subst hz9
    exact h2
  | 53 =>
    obtain ⟨a, h2⟩ := kS_two (own := "LayeredChute") (k := 442) (tx := "slot is neither 0 nor 1") (hn _ (List.mem_of_getElem? (i := 786) (by decide +kernel))) (ht _ (List.mem_append_right _ (List.mem_of_getElem? (i := 1247) (by decide +kernel))))
    refine ⟨(a, 0), fun h => absurd h (by decide), fun z hz => ?_⟩
    have hz9 : (("LayeredChute", 442, "slot is neither 0 nor 1") : String × Nat × String) = z := Option.some.inj hz
    subst hz9
    exact h2
  | 54 =>
    obtain ⟨a, h2⟩ := kS_two (own := "LayeredChute") (k := 444) (tx := "nothing is saved there") (hn _ (List.mem_of_getElem? (i := 813) (by decide +kernel))) (ht _ (List.mem_append_right _ (List.mem_of_getElem? (i := 1255) (by decide +kernel))))
    refine ⟨(a, 0), fun h => absurd h (by decide), fun z hz => ?_⟩
    have hz9 : (("LayeredChute", 444, "nothing is saved there") : String × Nat × String) = z := Option.some.inj hz
    subst hz9
    exact h2
  | n + 55 => exact ⟨(0, 0), fun h => absurd h (by omega), fun z hz => by cases hz⟩
set_option maxRecDepth 100000 in
theorem kS_Wd {args : Array Value} {s : State} {A : Nat → Prop} (hA : ∀ a : Nat, a < s.heap.size → ¬ A a) (hn : ∀ w ∈ kS_flat, w.before args s = true) (ht : ∀ w ∈ lw_tbl, w.before args s = true) : ∃ st : Nat → Nat → Nat, ∀ B : Nat, k_Wd (kAd B st) A s s.heap := by
  obtain ⟨ad, had⟩ := Classical.axiomOfChoice (kS_all hA hn ht)
  refine ⟨fun k i => if k = 30 then (ad i).1 else (ad i).2, fun B => ⟨fun i hi => (had i).1 hi, ?_, ?_, ?_, ?_, fun i q hq => (had i).2 q hq, ?_, ?_, ?_⟩⟩
  · exact va_Zof (ht _ (List.mem_append_right _ (List.mem_of_getElem? (i := 413) (by decide +kernel)))) (ht _ (List.mem_append_right _ (List.mem_of_getElem? (i := 17) (by decide +kernel)))) (va_eqt (hn _ (List.mem_of_getElem? (i := 4) (by decide +kernel)))) hA
  · exact va_Zqof (ht _ (List.mem_append_right _ (List.mem_of_getElem? (i := 429) (by decide +kernel)))) (ht _ (List.mem_append_right _ (List.mem_of_getElem? (i := 19) (by decide +kernel)))) (hn _ (List.mem_of_getElem? (i := 5) (by decide +kernel))) hA
  · exact vx_Zqof (ht _ (List.mem_append_right _ (List.mem_of_getElem? (i := 654) (by decide +kernel)))) (ht _ (List.mem_append_right _ (List.mem_of_getElem? (i := 13) (by decide +kernel)))) (hn _ (List.mem_of_getElem? (i := 9) (by decide +kernel))) hA
  · exact vx_Zqof (ht _ (List.mem_append_right _ (List.mem_of_getElem? (i := 656) (by decide +kernel)))) (ht _ (List.mem_append_right _ (List.mem_of_getElem? (i := 13) (by decide +kernel)))) (hn _ (List.mem_of_getElem? (i := 10) (by decide +kernel))) hA
  · exact List.forall_mem_cons.mpr ⟨va_Nw.of rfl (ht _ (List.mem_append_right _ (List.mem_of_getElem? (i := 631) (by decide +kernel)))), List.forall_mem_cons.mpr ⟨va_Nw.of rfl (ht _ (List.mem_append_right _ (List.mem_of_getElem? (i := 633) (by decide +kernel)))), List.forall_mem_cons.mpr ⟨va_Nw.of rfl (ht _ (List.mem_append_right _ (List.mem_of_getElem? (i := 635) (by decide +kernel)))), fun _ h => absurd h List.not_mem_nil⟩⟩⟩
  · exact List.forall_mem_cons.mpr ⟨va_Nw.of rfl (ht _ (List.mem_append_right _ (List.mem_of_getElem? (i := 1000) (by decide +kernel)))), List.forall_mem_cons.mpr ⟨va_Nw.of rfl (ht _ (List.mem_append_right _ (List.mem_of_getElem? (i := 629) (by decide +kernel)))), List.forall_mem_cons.mpr ⟨va_Nw.of rfl (ht _ (List.mem_append_right _ (List.mem_of_getElem? (i := 846) (by decide +kernel)))), List.forall_mem_cons.mpr ⟨va_Nw.of rfl (ht _ (List.mem_append_right _ (List.mem_of_getElem? (i := 1096) (by decide +kernel)))), fun _ h => absurd h List.not_mem_nil⟩⟩⟩⟩
  · exact List.forall_mem_cons.mpr ⟨va_Nc.of (hn _ (List.mem_of_getElem? (i := 54) (by decide +kernel))), List.forall_mem_cons.mpr ⟨va_Nc.of (hn _ (List.mem_of_getElem? (i := 69) (by decide +kernel))), List.forall_mem_cons.mpr ⟨va_Nc.of (hn _ (List.mem_of_getElem? (i := 53) (by decide +kernel))), fun _ h => absurd h List.not_mem_nil⟩⟩⟩
set_option maxRecDepth 100000 in
theorem kS_Wc {args : Array Value} {s : State} (ht : ∀ w ∈ lw_tbl, w.before args s = true) : k_Wc s :=
  ⟨List.forall_mem_cons.mpr ⟨va_Nw.of rfl (ht _ (List.mem_append_right _ (List.mem_of_getElem? (i := 36) (by decide +kernel)))), List.forall_mem_cons.mpr ⟨va_Nw.of rfl (ht _ (List.mem_append_right _ (List.mem_of_getElem? (i := 77) (by decide +kernel)))), List.forall_mem_cons.mpr ⟨va_Nw.of rfl (ht _ (List.mem_append_right _ (List.mem_of_getElem? (i := 284) (by decide +kernel)))), List.forall_mem_cons.mpr ⟨va_Nw.of rfl (ht _ (List.mem_append_right _ (List.mem_of_getElem? (i := 325) (by decide +kernel)))), List.forall_mem_cons.mpr ⟨va_Nw.of rfl (ht _ (List.mem_append_right _ (List.mem_of_getElem? (i := 90) (by decide +kernel)))), List.forall_mem_cons.mpr ⟨va_Nw.of rfl (ht _ (List.mem_append_right _ (List.mem_of_getElem? (i := 137) (by decide +kernel)))), List.forall_mem_cons.mpr ⟨va_Nw.of rfl (ht _ (List.mem_append_right _ (List.mem_of_getElem? (i := 156) (by decide +kernel)))), List.forall_mem_cons.mpr ⟨va_Nw.of rfl (ht _ (List.mem_append_right _ (List.mem_of_getElem? (i := 182) (by decide +kernel)))), fun _ h => absurd h List.not_mem_nil⟩⟩⟩⟩⟩⟩⟩⟩, va_AO.of (ht _ (List.mem_append_right _ (List.mem_of_getElem? (i := 88) (by decide +kernel)))), va_AO.of (ht _ (List.mem_append_right _ (List.mem_of_getElem? (i := 310) (by decide +kernel))))⟩
set_option maxRecDepth 100000 in
set_option maxHeartbeats 4000000 in
theorem kS_K {args : Array Value} {s : State} (ht : ∀ w ∈ lw_tbl, w.before args s = true) : ∃ (D : va_G) (G : Nat → ClassId), va_K D vwCl (k_tys G) s := by
  have hg : ∀ w ∈ lw_g, w.before args s = true := fun w h => ht w (k_gtbl w h)
  obtain ⟨c0, i0, hk0⟩ := u_known (C := RX0) (T := TX0) (N := 8) (n := 8) hg in_X0 (ht _ (List.mem_append_right _ (List.mem_of_getElem? (i := 89) (by decide +kernel))))
  obtain ⟨c1, i1, hk1⟩ := u_known (C := RX1) (T := TX1) (N := 3) (n := 3) hg in_X1 (ht _ (List.mem_append_right _ (List.mem_of_getElem? (i := 181) (by decide +kernel))))
  obtain ⟨c2, i2, hk2⟩ := u_known (C := RX2) (T := TX2) (N := 3) (n := 3) hg in_X2 (ht _ (List.mem_append_right _ (List.mem_of_getElem? (i := 136) (by decide +kernel))))
  obtain ⟨c3, i3, hk3⟩ := u_known (C := RX3) (T := TX3) (N := 3) (n := 3) hg in_X3 (ht _ (List.mem_append_right _ (List.mem_of_getElem? (i := 304) (by decide +kernel))))
  obtain ⟨c4, i4, hk4⟩ := u_known (C := RX4) (T := TX4) (N := 10) (n := 10) hg in_X4 (ht _ (List.mem_append_right _ (List.mem_of_getElem? (i := 35) (by decide +kernel))))
  obtain ⟨c5, i5, hk5⟩ := u_known (C := RX5) (T := TX5) (N := 3) (n := 3) hg in_X5 (ht _ (List.mem_append_right _ (List.mem_of_getElem? (i := 283) (by decide +kernel))))
  obtain ⟨c6, i6, hk6⟩ := u_known (C := RX6) (T := TX6) (N := 1) (n := 1) hg in_X6 (ht _ (List.mem_append_right _ (List.mem_of_getElem? (i := 76) (by decide +kernel))))
  obtain ⟨c7, i7, hk7⟩ := u_known (C := RX7) (T := TX7) (N := 2) (n := 2) hg in_X7 (ht _ (List.mem_append_right _ (List.mem_of_getElem? (i := 324) (by decide +kernel))))
  obtain ⟨c8, i8, hk8⟩ := u_known (C := RX8) (T := TX8) (N := 4) (n := 4) hg in_X8 (ht _ (List.mem_append_right _ (List.mem_of_getElem? (i := 155) (by decide +kernel))))
  obtain ⟨c9, i9, hk9⟩ := u_known (C := RX9) (T := TX9) (N := 18) (n := 18) hg in_X9 (ht _ (List.mem_append_right _ (List.mem_of_getElem? (i := 82) (by decide +kernel))))
  obtain ⟨c10, i10, hk10⟩ := u_known (C := RX10) (T := TX10) (N := 10) (n := 10) hg in_X10 (ht _ (List.mem_append_right _ (List.mem_of_getElem? (i := 27) (by decide +kernel))))
  obtain ⟨c11, i11, hk11⟩ := u_known (C := RX11) (T := TX11) (N := 22) (n := 22) hg in_X11 (ht _ (List.mem_append_right _ (List.mem_of_getElem? (i := 1257) (by decide +kernel))))
  obtain ⟨g0, k0, p0, a0, b0, d0⟩ := Cond.arrayClass_spec (type := .int) (ht _ (List.mem_append_right _ (List.mem_of_getElem? (i := 74) (by decide +kernel))))
  obtain ⟨g1, k1, p1, a1, b1, d1⟩ := Cond.arrayClass_spec (type := .boolean) (ht _ (List.mem_append_right _ (List.mem_of_getElem? (i := 338) (by decide +kernel))))
  obtain ⟨g2, k2, p2, a2, b2, d2⟩ := Cond.arrayClass_spec (type := .byte) (ht _ (List.mem_append_right _ (List.mem_of_getElem? (i := 587) (by decide +kernel))))
  obtain ⟨g5, k5, p5, a5, b5, d5⟩ := Cond.arrayClass_spec (type := .long) (ht _ (List.mem_append_right _ (List.mem_of_getElem? (i := 1853) (by decide +kernel))))
  obtain ⟨p3, g3, k3, e3, -, b3, d3, a3⟩ := Cond.arrayOver_spec (n := "LayeredChute$Chute") (ht _ (List.mem_append_right _ (List.mem_of_getElem? (i := 88) (by decide +kernel))))
  obtain ⟨p4, g4, k4, e4, -, b4, d4, a4⟩ := Cond.arrayOver_spec (n := "LayeredChute$World") (ht _ (List.mem_append_right _ (List.mem_of_getElem? (i := 310) (by decide +kernel))))
  refine ⟨(fun k => match k with | 0 => c0 | 1 => c1 | 2 => c2 | 3 => c3 | 4 => c4 | 5 => c5 | 6 => c6 | 7 => c7 | 8 => c8 | 9 => c9 | 10 => c10 | _ => c11, fun k => match k with | 0 => i0 | 1 => i1 | 2 => i2 | 3 => i3 | 4 => i4 | 5 => i5 | 6 => i6 | 7 => i7 | 8 => i8 | 9 => i9 | 10 => i10 | _ => i11), fun k => match k with | 0 => g0 | 1 => g1 | 2 => g2 | 3 => g3 | 4 => g4 | _ => g5, ?_, ?_⟩
  · intro k q hq
    match k, hq with
    | 0, hq =>
      have hz : (RX0, TX0, 8) = q := Option.some.inj hq
      subst hz
      exact hk0
    | 1, hq =>
      have hz : (RX1, TX1, 3) = q := Option.some.inj hq
      subst hz
      exact hk1
    | 2, hq =>
      have hz : (RX2, TX2, 3) = q := Option.some.inj hq
      subst hz
      exact hk2
    | 3, hq =>
      have hz : (RX3, TX3, 3) = q := Option.some.inj hq
      subst hz
      exact hk3
    | 4, hq =>
      have hz : (RX4, TX4, 10) = q := Option.some.inj hq
      subst hz
      exact hk4
    | 5, hq =>
      have hz : (RX5, TX5, 3) = q := Option.some.inj hq
      subst hz
      exact hk5
    | 6, hq =>
      have hz : (RX6, TX6, 1) = q := Option.some.inj hq
      subst hz
      exact hk6
    | 7, hq =>
      have hz : (RX7, TX7, 2) = q := Option.some.inj hq
      subst hz
      exact hk7
    | 8, hq =>
      have hz : (RX8, TX8, 4) = q := Option.some.inj hq
      subst hz
      exact hk8
    | 9, hq =>
      have hz : (RX9, TX9, 18) = q := Option.some.inj hq
      subst hz
      exact hk9
    | 10, hq =>
      have hz : (RX10, TX10, 10) = q := Option.some.inj hq
      subst hz
      exact hk10
    | 11, hq =>
      have hz : (RX11, TX11, 22) = q := Option.some.inj hq
      subst hz
      exact hk11
    | k + 12, hq => cases hq
  · intro k q hq
    match k, hq with
    | 0, hq =>
      have hz : ((g0, .int) : ClassId × FieldType) = q := Option.some.inj hq
      subst hz
      exact ⟨fun n z => ⟨fun k h => (by cases h), k0, b0, p0, d0⟩, a0⟩
    | 1, hq =>
      have hz : ((g1, .boolean) : ClassId × FieldType) = q := Option.some.inj hq
      subst hz
      exact ⟨fun n z => ⟨fun k h => (by cases h), k1, b1, p1, d1⟩, a1⟩
    | 2, hq =>
      have hz : ((g2, .byte) : ClassId × FieldType) = q := Option.some.inj hq
      subst hz
      exact ⟨fun n z => ⟨fun k h => (by cases h), k2, b2, p2, d2⟩, a2⟩
    | 3, hq =>
      have hz : ((g3, .object "LayeredChute$Chute") : ClassId × FieldType) = q := Option.some.inj hq
      subst hz
      exact ⟨fun n z => ⟨fun k h => (by cases h), k3, b3, p3, d3⟩, ⟨k3, p3, b3, d3, e3, a3⟩⟩
    | 4, hq =>
      have hz : ((g4, .object "LayeredChute$World") : ClassId × FieldType) = q := Option.some.inj hq
      subst hz
      exact ⟨fun n z => ⟨fun k h => (by cases h), k4, b4, p4, d4⟩, ⟨k4, p4, b4, d4, e4, a4⟩⟩
    | 5, hq =>
      have hz : ((g5, .long) : ClassId × FieldType) = q := Option.some.inj hq
      subst hz
      exact ⟨fun n z => ⟨fun k h => (by cases h), k5, b5, p5, d5⟩, a5⟩
    | k + 6, hq => cases hq
section KSN
variable {p : Program} {l : Launch} {e : Env} {R : Room} {s : State} {m : MethodId} {args : Array Value} {below : List Frame} {meth : Method} {c : Code} {H : Heap} {locs : List Loc} {cells slots : Nat} {Q : State → Prop}
variable {cc : ByteArray} {own : String} {nL pc : Nat} {ls : Array Slot} {rest : List Value} {D : va_G} {G : Nat → ClassId} {ad : Nat → Nat → Nat} {sh : k_Sh} {u : k_U}
/-- the law's own 'new', with a constructor whose contract speaks of a table of shapes -/
theorem kS_new {A : Nat → Prop} (hx : p.tables.exec = Jvm.exec) (hb : c.code = cc) (hml : c.maxLocals = nL) (hown : s.vm.findClass own = some m.cls) (hts : ∀ w ∈ lw_g, w.before args s = true) (hK : va_K D vwCl (k_tys G) s) (hWc : k_Wc s) (hWd : k_Wd ad A s s.heap) (hA : ∀ q : Nat, s.heap.size ≤ q → A q) (hS : va_S A s.heap H locs)
    {h h1 tag N n ixN ixC nb mc ms : Nat} (hh : H.size = h) (hh1 : h + 1 + n = h1) {C : String} {T : u_T} {ty0 : Nat → FieldType} (hc : vwCl[tag]? = some (C, T, N)) (hin : ∀ w ∈ u_ws C T N, w ∈ lw_g) (hty : ∀ k, k < N → parseFieldDescriptor (T k).2.2.1 = some (ty0 k)) {fs : List Value} (hfs : ∀ j, j < N → defaultValue (ty0 j) = vp_V fs j) (w1 : Cond.classLink own ixN C ∈ lw_g) (w2 : Cond.instantiable C N ∈ lw_g) (w3 : Cond.initialized C ∈ lw_g)
    {y : MethodName} {cb : ByteArray} {rm : Room} (hM : Met l y (.code y cb nb none :: lw_g) rm (kcPre2 D G h (h + 1) tag fs ad) (kcQ2 sh D G ad u h (h + 1) n) mc ms (kF h (h + 1))) (hyC : y.cls = C) (hyn : y.name = "<init>") (hy : y.cls ≠ "java/lang/invoke/MethodHandle" ∧ y.cls ≠ "java/lang/invoke/VarHandle" ∧ (parseMethodDescriptor y.desc).map (fun d => d.parameters.length) = some 0) (w4 : Cond.instanceMethod y ∈ lw_g) (w5 : Cond.code y cb nb none ∈ lw_g) (hlink : Cond.methodLink own ixC y ∈ lw_g)
    (hrm : rm.cells = mc ∧ rm.slots = ms) (hR : rm.frames + 1 ≤ R.frames ∧ 8 + (nb + 11) + rm.locals ≤ R.locals) (hsize : ls.size = nL) (hW : (rest.map fun v => v.category).sum ≤ 7) {cells1 slots1 : Nat} (hc1 : cells + 1 + mc = cells1) (hs1 : slots + N + ms = slots1) (hf : cells1 ≤ R.cells ∧ slots1 ≤ R.slots) (d0 : decode cc pc = .ok (.new ixN, 3)) (d3 : decode cc (pc + 3) = .ok (.dup, 1)) (d4 : decode cc (pc + 4) = .ok (.invokespecial ixC, 3))
    (kk : ∀ (H1 : Heap) (locs1 : List Loc), H1.size = h1 → kUv sh D G ad u H1 → (∀ q : Nat, q < h → H1[q]? = H[q]?) → va_S A s.heap H1 locs1 → W p l e R s m args below meth c H1 locs1 cells1 slots1 Q (F0 m (pc + 7) ls (.ref h :: rest))) : W p l e R s m args below meth c H locs cells slots Q (F0 m pc ls rest) := by
  subst hh hh1 hc1 hs1 hyC
  have hKn := hK.1 tag _ hc
  refine W.newcK hx hb hown (hts _ w1) (hts _ w2) (hts _ w3) rfl d0 (by omega) (by omega) hKn.2.1 rfl fun H1 kC hkC e1 z1 o1 => ?_
  have hP1 : va_P D vwCl [(H.size, .inr (tag, fs))] H1 := fun k x hx => by
    have hz : k < 1 := (List.getElem?_eq_some_iff.mp hx).1
    rw [show k = 0 by omega] at hx
    cases hx
    exact ⟨_, hc, (u_born ty0 hts hin hKn hkC e1 hty).to hfs⟩
  have hS1 : va_S A s.heap H1 locs := ⟨Nat.le_trans hS.1 (by omega), fun x h1 h2 => (o1 x (Nat.lt_of_lt_of_le h1 hS.1)).trans (hS.2.1 x h1 h2), hS.2.2⟩
  refine lv_dup hx hb d3 rfl ?_
  have hF : ∀ q, kF H.size (H.size + 1) q → A q := fun q hq => hA q (by
    have := hS.1
    unfold kF at hq
    omega)
  have hWd1 : k_Wd ad (kF H.size (H.size + 1)) s H1 := (k_Wd.kept hWd hS1.2.1).narrow hF
  have hpre : PreS s H1 (kcPre2 D G H.size (H.size + 1) tag fs ad) [.ref H.size] := ⟨kc2_blind, fun U hUh hWm => ⟨rfl, by rw [hUh]; exact z1, by omega, by rw [hUh]; exact hP1, va_K.moved hWm.alike hK, hWc.warm hWm, by rw [hUh]; exact hWd1.warm hWm⟩⟩
  have hrun : va_Run p l e R s m args below meth c H1 locs (cells + 1) (slots + N) mc ms (F0 m (pc + 4) ls (.ref H.size :: .ref H.size :: rest)) (.ref H.size :: rest) (kcQ2 sh D G ad u H.size (H.size + 1) n ([.ref H.size] : List Value).toArray) (kF H.size (H.size + 1)) := by
    have hroom : 2 * (F0 m (pc + 4) ls (.ref H.size :: .ref H.size :: rest)).monitorRoom + ((Value.ref H.size :: rest).map fun v => v.category).sum ≤ 8 := by
      show 2 * 0 + ((Value.ref H.size :: rest).map fun v => v.category).sum ≤ 8
      rw [List.map_cons, List.sum_cons]
      show 2 * 0 + (1 + _) ≤ 8
      omega
    exact va_runI (As := []) (rest := .ref H.size :: rest) ⟨hx, hb, hml, hown, hts⟩ hM (cwI 0 hts (kc_goodI w5) rfl hrm.1 hrm.2 (hts _ w3) (hts _ hlink) (hts _ w4) hyn hy hR) hpre rfl rfl hsize rfl hroom d4 ⟨by omega, by omega⟩
  refine va_callv hrun hS1 (fun q _ h => hF q h) hF (fun u1 t H2 locs2 ht hvm hpost hB hz hk hS2 => ?_)
  obtain ⟨b1, b2⟩ := hB
  rw [ht] at b1 b2
  have ho : ∀ q : Nat, q < H.size → H2[q]? = H[q]? := fun q hq => (hk q (by omega) (by unfold kF; omega)).trans (o1 q hq)
  exact kk H2 locs2 b1 b2 ho hS2
end KSN
/-- the two objects and the array, put together -/
def kS_u0 (r10 r11 : k_M) : k_U := fun k => if k = 5 then kM1 r11 else if k = 6 then fun _ _ => 0 else k_uc kU0 10 r10 k
theorem kS_join {D : va_G} {G : Nat → ClassId} {B : Nat} {st : Nat → Nat → Nat} {r10 r11 : k_M} {H1 H2 H3 : Heap} (h1 : kUv k_shL D G (kAd B st) (k_uc kU0 10 r10) H1) (h2 : kUv k_shM D G (kAd B st) (k_uc kU0 5 (kM1 r11)) H2) (o2 : ∀ q : Nat, q < H1.size → H2[q]? = H1[q]?) (hz : H1.size ≤ H2.size) (o3 : ∀ q : Nat, q < H2.size → H3[q]? = H2[q]?) (e3 : H3[B + 325]? = some (arrV (G 5) 1 (fun _ => .long 0))) : k_Uv D G (kAd B st) (kS_u0 r10 r11) H3 := by
  have g1 : kUv k_shL D G (kAd B st) (k_uc kU0 10 r10) H3 := va_P.kept h1 (fun k x hx => (o3 x.1 (Nat.lt_of_lt_of_le ((h1 k x hx).lt) hz)).trans (o2 x.1 ((h1 k x hx).lt)))
  have g2 : kUv k_shM D G (kAd B st) (k_uc kU0 5 (kM1 r11)) H3 := va_P.kept h2 (fun k x hx => o3 x.1 ((h2 k x hx).lt))
  refine k_build fun k c S h => ?_
  by_cases h5 : k = 5
  · subst h5
    have := k_each (k_okM B st) g2 5 c S h
    exact this
  · by_cases h6 : k = 6
    · subst h6
      have hS : c = 0 ∧ S = (25, 1, k_r0) := by
        have h7 : k_shN 6 c = some S := h
        match c, h7 with
        | 0, h7 => exact ⟨rfl, (Option.some.inj h7).symm⟩
        | c + 1, h7 => cases h7
      obtain ⟨rfl, rfl⟩ := hS
      show H3[B + 325]? = some (vp_cell (G 5) (1, .inr (.inl fun j => ((0 : Int32)).toInt64)))
      rw [e3, vp_cell_l]
      rfl
    · have hs : k_shL k c = some S := by
        unfold k_shL
        rw [if_neg (by omega)]
        exact h
      have := k_each (k_okL B st) g1 k c S hs
      have hu : kS_u0 r10 r11 k = k_uc kU0 10 r10 k := by
        unfold kS_u0
        rw [if_neg h5, if_neg h6]
      rw [hu]
      exact this
theorem kS_A {B : Nat} {st : Nat → Nat → Nat} : ∀ q : Nat, k_A (kAd B st) B q → B ≤ q := by
  intro q hq
  rcases hq with ⟨z, hz, rfl⟩ | h
  · rw [kAd_eq B st z.1 z.2 (kAd_rng z hz)]
    omega
  · exact h


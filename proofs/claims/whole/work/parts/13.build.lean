theorem kp_l {D : va_G} {cl : List vw_C} {X Y : va_W} {H : Heap} (h : va_P D cl (X ++ Y) H) : va_P D cl X H := fun k q hk => h k q (by rw [List.getElem?_append_left (List.getElem?_eq_some_iff.mp hk).1]; exact hk)
theorem kp_r {D : va_G} {cl : List vw_C} {X Y : va_W} {H : Heap} (h : va_P D cl (X ++ Y) H) : va_P D cl Y H := fun k q hk => h (X.length + k) q (by rw [List.getElem?_append_right (by omega), Nat.add_sub_cancel_left]; exact hk)
theorem k_build {sh : k_Sh} {D : va_G} {G : Nat → ClassId} {ad : Nat → Nat → Nat} {u : k_U} {H : Heap} (h : ∀ (k c : Nat) (S : k_S), sh k c = some S → va_at D vwCl (ad k c, k_mk G ad (u k c) S) H) : kUv sh D G ad u H := by
  intro j q hq
  unfold kws at hq
  rw [List.getElem?_map] at hq
  cases hz : (kUL sh)[j]? with
  | none => rw [hz] at hq; cases hq
  | some z =>
    rw [hz] at hq
    obtain ⟨S, hS⟩ := k_memE (List.mem_of_getElem? hz)
    have hq' := Option.some.inj hq
    subst hq'
    show va_at D vwCl (ad z.1 z.2, kE sh G ad u (z.1, z.2)) H
    rw [k_Eq hS]
    exact h z.1 z.2 S hS
theorem k_each {sh : k_Sh} {D : va_G} {G : Nat → ClassId} {ad : Nat → Nat → Nat} {u : k_U} {H : Heap} (hI : kok sh ad) (hU : kUv sh D G ad u H) : ∀ (k c : Nat) (S : k_S), sh k c = some S → va_at D vwCl (ad k c, k_mk G ad (u k c) S) H := by
  intro k c S h
  obtain ⟨j, -, hj⟩ := k_at (G := G) (ad := ad) (u := u) hI h
  exact hU j _ hj
/-! where the cells lie -/
def kWb (B : Nat) (k : Nat) : Nat := match k with
  | 10 => B + 31
  | 11 => B + 54
  | 12 => B + 268
  | 13 => B + 291
  | 14 => B + 5
  | k => B + 79 + 23 * (k - 15)
def kAd (B : Nat) (st : Nat → Nat → Nat) (k c : Nat) : Nat := if 10 ≤ k ∧ k < 23 then kWb B k + c else match k with
  | 0 => (match c with
    | 0 => B
    | 1 => B + 263
    | 2 => B + 264
    | 3 => B + 265
    | _ => B + 4)
  | 1 => B + 1 + c
  | 2 => B + 28 + c
  | 3 => B + 266 + c
  | 4 => B + 77 + c
  | 5 => (match c with
    | 9 => B + 322
    | 18 => B + 323
    | 20 => B + 324
    | c => B + 314 + c)
  | 6 => B + 325
  | k => st k c
def kIv (n : Nat) : Nat × Nat :=
  if n = 0 then (0, 0) else if n < 4 then (1, n - 1) else if n = 4 then (0, 4) else if n < 28 then (14, n - 5) else if n < 31 then (2, n - 28) else if n < 54 then (10, n - 31) else if n < 77 then (11, n - 54) else if n < 79 then (4, n - 77) else if n < 263 then (15 + (n - 79) / 23, (n - 79) % 23) else if n < 266 then (0, n - 262) else if n < 268 then (3, n - 266) else if n < 291 then (12, n - 268) else if n < 314 then (13, n - 291) else if n < 322 then (5, n - 314) else if n = 322 then (5, 9) else if n = 323 then (5, 18) else if n = 324 then (5, 20) else (6, 0)
theorem kWb_eq (B k : Nat) : kWb B k = B + kWb 0 k := by
  unfold kWb
  split <;> omega
theorem kAd_eq (B : Nat) (st : Nat → Nat → Nat) (k c : Nat) (h : k < 7 ∨ (10 ≤ k ∧ k < 23)) : kAd B st k c = B + kAd 0 (fun _ _ => 0) k c := by
  unfold kAd
  by_cases hk : 10 ≤ k ∧ k < 23
  · rw [if_pos hk, if_pos hk, kWb_eq B k]
    omega
  · rw [if_neg hk, if_neg hk]
    have h7 : k < 7 := h.resolve_right hk
    rcases (show k = 0 ∨ k = 1 ∨ k = 2 ∨ k = 3 ∨ k = 4 ∨ k = 5 ∨ k = 6 by omega) with rfl | rfl | rfl | rfl | rfl | rfl | rfl
    · show (match c with | 0 => B | 1 => B + 263 | 2 => B + 264 | 3 => B + 265 | _ => B + 4) = B + (match c with | 0 => 0 | 1 => 0 + 263 | 2 => 0 + 264 | 3 => 0 + 265 | _ => 0 + 4)
      split <;> omega
    · show B + 1 + c = B + (0 + 1 + c)
      omega
    · show B + 28 + c = B + (0 + 28 + c)
      omega
    · show B + 266 + c = B + (0 + 266 + c)
      omega
    · show B + 77 + c = B + (0 + 77 + c)
      omega
    · show (match c with | 9 => B + 322 | 18 => B + 323 | 20 => B + 324 | c => B + 314 + c) = B + (match c with | 9 => 0 + 322 | 18 => 0 + 323 | 20 => 0 + 324 | c => 0 + 314 + c)
      split <;> omega
    · show B + 325 = B + (0 + 325)
      omega
set_option maxRecDepth 100000 in
theorem kAd_inv : ∀ q ∈ kUL k_sh, kIv (kAd 0 (fun _ _ => 0) q.1 q.2) = q := by decide +kernel
set_option maxRecDepth 100000 in
theorem kAd_rng : ∀ q ∈ kUL k_sh, q.1 < 7 ∨ (10 ≤ q.1 ∧ q.1 < 23) := by decide +kernel
set_option maxRecDepth 100000 in
theorem kAd_top : ∀ q ∈ kUL k_sh, kAd 0 (fun _ _ => 0) q.1 q.2 < 326 := by decide +kernel
theorem kAd_ok (B : Nat) (st : Nat → Nat → Nat) : k_ok (kAd B st) := by
  refine ⟨fun k c S h => k_sh_lt h, fun q q' h h' e => ?_⟩
  rw [kAd_eq B st q.1 q.2 (kAd_rng q h), kAd_eq B st q'.1 q'.2 (kAd_rng q' h')] at e
  have e2 : kAd 0 (fun _ _ => 0) q.1 q.2 = kAd 0 (fun _ _ => 0) q'.1 q'.2 := by omega
  rw [← kAd_inv q h, ← kAd_inv q' h', e2]
/-- a smaller table of the same shapes -/
theorem kok_sub {sh sh2 : k_Sh} {ad : Nat → Nat → Nat} (h : kok sh ad) (hs : ∀ (k c : Nat) (S : k_S), sh2 k c = some S → sh k c = some S) : kok sh2 ad :=
  ⟨fun k c S e => h.1 k c S (hs k c S e), fun q q' h1 h2 e => by
    obtain ⟨S, e1⟩ := k_memE h1
    obtain ⟨S', e2⟩ := k_memE h2
    exact h.2 q q' (k_mem h (hs _ _ _ e1)) (k_mem h (hs _ _ _ e2)) e⟩
/-! what lies there at first -/
def kW0 : k_M := fun _ _ => 0
def kR0 : k_M := fun c => match c with
  | 0 => fun i => match i with
    | 4 => -1
    | _ => 0
  | _ => fun _ => 0
def kM0 : k_M := fun c => match c with
  | 0 => fun i => match i with
    | 16 => -1
    | _ => 0
  | _ => fun _ => 0
def kU0 : k_U := fun k => if 10 ≤ k ∧ k < 23 then kW0 else match k with
  | 1 => kR0
  | 5 => kM0
  | _ => fun _ _ => 0
def k_shL : k_Sh := fun k c => if k = 5 ∨ k = 6 then none else k_sh k c
def k_shM : k_Sh := fun k c => if k = 5 then k_sh k c else none
theorem k_shL_sub (k c : Nat) (S : k_S) (h : k_shL k c = some S) : k_sh k c = some S := by
  unfold k_shL at h
  split at h
  · cases h
  · exact h
theorem k_shM_sub (k c : Nat) (S : k_S) (h : k_shM k c = some S) : k_sh k c = some S := by
  unfold k_shM at h
  split at h
  · exact h
  · cases h
theorem kl_arr {ad : Nat → Nat → Nat} {k A : Nat} (had : ∀ c, c < 23 → ad k c = A + c) : k_av ad (k_rWl k) = (va_up (va_up (va_up (va_up (va_up (va_up (va_up (va_up (fun _ => none) 0 (some (A + 1 + 14))) 1 (some (A + 1 + 15))) 2 (some (A + 1 + 16))) 3 (some (A + 1 + 17))) 4 (some (A + 1 + 18))) 5 (some (A + 1 + 19))) 6 (some (A + 1 + 20))) 7 (some (A + 1 + 21))) := by
  funext j
  unfold k_av k_rWl va_up
  by_cases h : j < 8
  · rw [if_pos h]
    dsimp only
    rw [had (15 + j) (by omega)]
    rcases (show j = 0 ∨ j = 1 ∨ j = 2 ∨ j = 3 ∨ j = 4 ∨ j = 5 ∨ j = 6 ∨ j = 7 by omega) with rfl | rfl | rfl | rfl | rfl | rfl | rfl | rfl <;> rfl
  · rw [if_neg h]
    rw [if_neg (by omega), if_neg (by omega), if_neg (by omega), if_neg (by omega), if_neg (by omega), if_neg (by omega), if_neg (by omega), if_neg (by omega)]
set_option maxRecDepth 100000 in
set_option maxHeartbeats 8000000 in
theorem kw_at {G : Nat → ClassId} {ad : Nat → Nat → Nat} {k A : Nat} (had : ∀ c, c < 23 → ad k c = A + c) {D : va_G} {H : Heap} (hP : va_P D vwCl (wsX9 G A (A + 1)) H) : ∀ (c : Nat) (S : k_S), k_shW k c = some S → va_at D vwCl (ad k c, k_mk G ad (kW0 c) S) H := by
  have hA := kp_l hP
  have hB := kp_r hP
  have h_22 := kp_r hB
  have h_21 := kp_r (kp_l hB)
  have h_20 := kp_r (kp_l (kp_l hB))
  have h_19 := kp_r (kp_l (kp_l (kp_l hB)))
  have h_18 := kp_r (kp_l (kp_l (kp_l (kp_l hB))))
  have h_17 := kp_r (kp_l (kp_l (kp_l (kp_l (kp_l hB)))))
  have h_16 := kp_r (kp_l (kp_l (kp_l (kp_l (kp_l (kp_l hB))))))
  have h_15 := kp_r (kp_l (kp_l (kp_l (kp_l (kp_l (kp_l (kp_l hB)))))))
  have h_13 := kp_r (kp_l (kp_l (kp_l (kp_l (kp_l (kp_l (kp_l (kp_l hB))))))))
  have h_9 := kp_r (kp_l (kp_l (kp_l (kp_l (kp_l (kp_l (kp_l (kp_l (kp_l hB)))))))))
  have h_6 := kp_r (kp_l (kp_l (kp_l (kp_l (kp_l (kp_l (kp_l (kp_l (kp_l (kp_l hB))))))))))
  have h_3 := kp_r (kp_l (kp_l (kp_l (kp_l (kp_l (kp_l (kp_l (kp_l (kp_l (kp_l (kp_l hB)))))))))))
  have h_2 := kp_r (kp_l (kp_l (kp_l (kp_l (kp_l (kp_l (kp_l (kp_l (kp_l (kp_l (kp_l (kp_l hB))))))))))))
  clear hP hB
  intro c S h
  have hc : c < 23 := by
    unfold k_shW at h
    split at h <;> first | omega | cases h
  rcases (show c = 0 ∨ c = 1 ∨ c = 2 ∨ c = 3 ∨ c = 4 ∨ c = 5 ∨ c = 6 ∨ c = 7 ∨ c = 8 ∨ c = 9 ∨ c = 10 ∨ c = 11 ∨ c = 12 ∨ c = 13 ∨ c = 14 ∨ c = 15 ∨ c = 16 ∨ c = 17 ∨ c = 18 ∨ c = 19 ∨ c = 20 ∨ c = 21 ∨ c = 22 by omega) with rfl | rfl | rfl | rfl | rfl | rfl | rfl | rfl | rfl | rfl | rfl | rfl | rfl | rfl | rfl | rfl | rfl | rfl | rfl | rfl | rfl | rfl | rfl
  · obtain rfl := Option.some.inj h
    have h0 := hA 0 _ rfl
    rw [had 0 (by omega)]
    show va_at D vwCl (_, .inr (9, [.int 0, .int 0, .int 0, .int 0, .int 0, .int 0, .int 0, .int 0, .int 0, .int 0, .int 0, .int 0, .ref (ad k 1), .ref (ad k 2), .ref (ad k 3), .ref (ad k 6), .ref (ad k 9), .ref (ad k 13)])) H
    rw [had 1 (by omega), had 2 (by omega), had 3 (by omega), had 6 (by omega), had 9 (by omega), had 13 (by omega)]
    exact h0
  · obtain rfl := Option.some.inj h
    have h0 := hA 1 _ rfl
    rw [had 1 (by omega)]
    show va_at D vwCl (_, .inl (G 3, 8, .inr (.inr (.inr (.inr (k_av ad (k_rWl k))))))) H
    rw [kl_arr had]
    exact h0
  · obtain rfl := Option.some.inj h
    have h0 := h_2 0 _ rfl
    rw [had 2 (by omega)]
    exact h0
  · obtain rfl := Option.some.inj h
    have h0 := h_3 0 _ rfl
    rw [had 3 (by omega)]
    show va_at D vwCl (_, .inr (2, [.ref (ad k 4), .ref (ad k 5), .int 0])) H
    rw [had 4 (by omega), had 5 (by omega)]
    exact h0
  · obtain rfl := Option.some.inj h
    have h0 := h_3 1 _ rfl
    rw [had 4 (by omega)]
    exact h0
  · obtain rfl := Option.some.inj h
    have h0 := h_3 2 _ rfl
    rw [had 5 (by omega)]
    exact h0
  · obtain rfl := Option.some.inj h
    have h0 := h_6 0 _ rfl
    rw [had 6 (by omega)]
    show va_at D vwCl (_, .inr (2, [.ref (ad k 7), .ref (ad k 8), .int 0])) H
    rw [had 7 (by omega), had 8 (by omega)]
    exact h0
  · obtain rfl := Option.some.inj h
    have h0 := h_6 1 _ rfl
    rw [had 7 (by omega)]
    exact h0
  · obtain rfl := Option.some.inj h
    have h0 := h_6 2 _ rfl
    rw [had 8 (by omega)]
    exact h0
  · obtain rfl := Option.some.inj h
    have h0 := h_9 0 _ rfl
    rw [had 9 (by omega)]
    show va_at D vwCl (_, .inr (8, [.ref (ad k 10), .ref (ad k 11), .ref (ad k 12), .int 0])) H
    rw [had 10 (by omega), had 11 (by omega), had 12 (by omega)]
    exact h0
  · obtain rfl := Option.some.inj h
    have h0 := h_9 1 _ rfl
    rw [had 10 (by omega)]
    exact h0
  · obtain rfl := Option.some.inj h
    have h0 := h_9 2 _ rfl
    rw [had 11 (by omega)]
    exact h0
  · obtain rfl := Option.some.inj h
    have h0 := h_9 3 _ rfl
    rw [had 12 (by omega)]
    exact h0
  · obtain rfl := Option.some.inj h
    have h0 := h_13 0 _ rfl
    rw [had 13 (by omega)]
    show va_at D vwCl (_, .inr (1, [.ref (ad k 14), .int 0, .int 0])) H
    rw [had 14 (by omega)]
    exact h0
  · obtain rfl := Option.some.inj h
    have h0 := h_13 1 _ rfl
    rw [had 14 (by omega)]
    exact h0
  · obtain rfl := Option.some.inj h
    have h0 := h_15 0 _ rfl
    rw [had 15 (by omega)]
    exact h0
  · obtain rfl := Option.some.inj h
    have h0 := h_16 0 _ rfl
    rw [had 16 (by omega)]
    exact h0
  · obtain rfl := Option.some.inj h
    have h0 := h_17 0 _ rfl
    rw [had 17 (by omega)]
    exact h0
  · obtain rfl := Option.some.inj h
    have h0 := h_18 0 _ rfl
    rw [had 18 (by omega)]
    exact h0
  · obtain rfl := Option.some.inj h
    have h0 := h_19 0 _ rfl
    rw [had 19 (by omega)]
    exact h0
  · obtain rfl := Option.some.inj h
    have h0 := h_20 0 _ rfl
    rw [had 20 (by omega)]
    exact h0
  · obtain rfl := Option.some.inj h
    have h0 := h_21 0 _ rfl
    rw [had 21 (by omega)]
    exact h0
  · obtain rfl := Option.some.inj h
    have h0 := h_22 0 _ rfl
    rw [had 22 (by omega)]
    exact h0

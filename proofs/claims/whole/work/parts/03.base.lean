/-! the words that every contract needs: those of the tables that stay true -/
def lw_g : List Cond := lw_tbl.filter goodWord
theorem k_in {w : Cond} (h : w ∈ lw_tbl) (g : goodWord w = true) : w ∈ lw_g := List.mem_filter.mpr ⟨h, g⟩
theorem k_gtbl : ∀ w ∈ lw_g, w ∈ lw_tbl := fun w h => (List.mem_filter.mp h).1
theorem k_ggood : ∀ w ∈ lw_g, goodWord w = true := fun w h => (List.mem_filter.mp h).2
theorem k_goodIn {a : List Cond} (h : ∀ w ∈ a, w ∈ lw_g) : GoodIn lw_g a := fun w hw => ⟨h w hw, good_of_word (k_ggood w (h w hw))⟩
/-! memory: a component, a cell, a place in it -/
abbrev k_M : Type := Nat → Nat → Int32
abbrev k_U : Type := Nat → Nat → Nat → Int32
def k_up (w : k_M) (c i : Nat) (v : Int32) : k_M := fun c' i' => if c' = c ∧ i' = i then v else w c' i'
def k_cp (w : k_M) (c : Nat) (f : Nat → Int32) : k_M := fun c' => if c' = c then f else w c'
def k_uc (u : k_U) (k : Nat) (w : k_M) : k_U := fun k' => if k' = k then w else u k'
theorem k_uc_s (u : k_U) (k : Nat) (w : k_M) : k_uc u k w k = w := if_pos rfl
theorem k_uc_n (u : k_U) {k j : Nat} (w : k_M) (h : j ≠ k) : k_uc u k w j = u j := if_neg h
theorem k_uc_uc (u : k_U) (k : Nat) (w w' : k_M) : k_uc (k_uc u k w) k w' = k_uc u k w' := by
  funext j
  by_cases h : j = k
  · simp [k_uc, h]
  · simp [k_uc, h]
theorem k_uc_id (u : k_U) (k : Nat) : k_uc u k (u k) = u := by
  funext j
  by_cases h : j = k
  · simp [k_uc, h]
  · simp [k_uc, h]
/-! shapes: 0 to 19 an object of that class, 20 ints, 21 booleans, 22 bytes, 23 and 24 chutes, worlds; how many places; which hold what cell -/
abbrev k_R : Type := Nat → Option (Option (Nat × Nat))
abbrev k_S : Type := Nat × Nat × k_R
def k_r0 : k_R := fun _ => none
def k_rW (k : Nat) : k_R := fun i => match i with
  | 12 => some (some (k, 1))
  | 13 => some (some (k, 2))
  | 14 => some (some (k, 3))
  | 15 => some (some (k, 6))
  | 16 => some (some (k, 9))
  | 17 => some (some (k, 13))
  | _ => none
def k_rWl (k : Nat) : k_R := fun j => if j < 8 then some (some (k, 15 + j)) else some none
def k_rHT (k c : Nat) : k_R := fun i => match i with
  | 0 => some (some (k, c + 1))
  | 1 => some (some (k, c + 2))
  | _ => none
def k_rSp (k : Nat) : k_R := fun i => match i with
  | 0 => some (some (k, 10))
  | 1 => some (some (k, 11))
  | 2 => some (some (k, 12))
  | _ => none
def k_rEv (k : Nat) : k_R := fun i => match i with
  | 0 => some (some (k, 14))
  | _ => none
def k_shW (k c : Nat) : Option k_S := match c with
  | 0 => some (9, 18, k_rW k)
  | 1 => some (23, 8, k_rWl k)
  | 2 => some (0, 8, k_r0)
  | 3 => some (2, 3, k_rHT k 3)
  | 4 => some (20, 8, k_r0)
  | 5 => some (20, 8, k_r0)
  | 6 => some (2, 3, k_rHT k 6)
  | 7 => some (20, 8, k_r0)
  | 8 => some (20, 8, k_r0)
  | 9 => some (8, 4, k_rSp k)
  | 10 => some (20, 8, k_r0)
  | 11 => some (20, 8, k_r0)
  | 12 => some (20, 8, k_r0)
  | 13 => some (1, 3, k_rEv k)
  | 14 => some (20, 120, k_r0)
  | 15 => some (0, 8, k_r0)
  | 16 => some (0, 8, k_r0)
  | 17 => some (0, 8, k_r0)
  | 18 => some (0, 8, k_r0)
  | 19 => some (0, 8, k_r0)
  | 20 => some (0, 8, k_r0)
  | 21 => some (0, 8, k_r0)
  | 22 => some (0, 8, k_r0)
  | _ => none
def k_rX : k_R := fun i => match i with
  | 0 => some (some (1, 0))
  | 1 => some (some (0, 4))
  | 2 => some (some (2, 0))
  | 3 => some (some (10, 0))
  | 4 => some (some (11, 0))
  | 5 => some (some (4, 0))
  | 6 => some (some (0, 1))
  | 7 => some (some (0, 2))
  | 8 => some (some (0, 3))
  | 9 => some (some (3, 0))
  | _ => none
def k_rSv : k_R := fun j => if j < 2 then some (some (12 + j, 0)) else some none
def k_rSt : k_R := fun j => if j < 8 then some (some (15 + j, 0)) else some none
def k_rSu : k_R := fun i => match i with
  | 0 => some (some (14, 0))
  | _ => none
def k_rRe : k_R := fun i => match i with
  | 0 => some (some (1, 1))
  | 1 => some (some (1, 2))
  | _ => none
def k_rSc : k_R := fun i => match i with
  | 0 => some (some (2, 1))
  | 1 => some (some (2, 2))
  | _ => none
def k_rSl : k_R := fun i => match i with
  | 0 => some (some (3, 1))
  | _ => none
def k_rHi : k_R := fun i => match i with
  | 0 => some (some (4, 1))
  | _ => none
def k_rMo : k_R := fun i => match i with
  | 1 => some (some (5, 1))
  | 2 => some (some (5, 2))
  | 3 => some (some (5, 3))
  | 4 => some (some (5, 4))
  | 5 => some (some (5, 5))
  | 6 => some (some (5, 6))
  | 7 => some (some (5, 7))
  | 9 => some (some (5, 9))
  | 18 => some (some (5, 18))
  | 20 => some (some (5, 20))
  | _ => none
def k_shN (k c : Nat) : Option k_S := match k with
  | 0 => match c with
    | 0 => some (10, 10, k_rX)
    | 1 => some (24, 2, k_rSv)
    | 2 => some (21, 2, k_r0)
    | 3 => some (20, 10, k_r0)
    | 4 => some (6, 1, k_rSu)
    | _ => none
  | 1 => match c with
    | 0 => some (4, 10, k_rRe)
    | 1 => some (20, 600, k_r0)
    | 2 => some (20, 600, k_r0)
    | _ => none
  | 2 => match c with
    | 0 => some (5, 3, k_rSc)
    | 1 => some (20, 40, k_r0)
    | 2 => some (20, 40, k_r0)
    | _ => none
  | 3 => match c with
    | 0 => some (7, 2, k_rSl)
    | 1 => some (20, 64, k_r0)
    | _ => none
  | 4 => match c with
    | 0 => some (3, 3, k_rHi)
    | 1 => some (24, 8, k_rSt)
    | _ => none
  | 5 => match c with
    | 0 => some (11, 22, k_rMo)
    | 1 => some (20, 268, k_r0)
    | 2 => some (20, 268, k_r0)
    | 3 => some (20, 268, k_r0)
    | 4 => some (20, 2144, k_r0)
    | 5 => some (20, 536, k_r0)
    | 6 => some (21, 2, k_r0)
    | 7 => some (20, 10, k_r0)
    | 9 => some (22, 600, k_r0)
    | 18 => some (20, 80, k_r0)
    | 20 => some (20, 60, k_r0)
    | _ => none
  | 6 => match c with
    | 0 => some (25, 1, k_r0)
    | _ => none
  | _ => none
def k_sh (k c : Nat) : Option k_S := if 10 ≤ k ∧ k < 23 then k_shW k c else k_shN k c
def k_isW (k : Nat) : Prop := 10 ≤ k ∧ k < 23
def k_isC (q : Nat) : Prop := q = 2 ∨ (15 ≤ q ∧ q < 23)
def k_isT (c : Nat) : Prop := c = 3 ∨ c = 6
theorem k_sW {k c : Nat} {S : k_S} (h : k_isW k) (e : k_shW k c = some S) : k_sh k c = some S := by
  unfold k_sh
  rw [if_pos (show 10 ≤ k ∧ k < 23 from h)]
  exact e
theorem k_sC {k q : Nat} (h : k_isW k) (hq : k_isC q) : k_sh k q = some (0, 8, k_r0) := by
  refine k_sW h ?_
  have : q = 2 ∨ q = 15 ∨ q = 16 ∨ q = 17 ∨ q = 18 ∨ q = 19 ∨ q = 20 ∨ q = 21 ∨ q = 22 := by
    unfold k_isC at hq
    omega
  rcases this with rfl | rfl | rfl | rfl | rfl | rfl | rfl | rfl | rfl <;> rfl
theorem k_sT {k c : Nat} (h : k_isW k) (hc : k_isT c) : k_sh k c = some (2, 3, k_rHT k c) := by
  refine k_sW h ?_
  rcases hc with rfl | rfl <;> rfl
theorem k_sT1 {k c : Nat} (h : k_isW k) (hc : k_isT c) : k_sh k (c + 1) = some (20, 8, k_r0) := by
  refine k_sW h ?_
  rcases hc with rfl | rfl <;> rfl
theorem k_sT2 {k c : Nat} (h : k_isW k) (hc : k_isT c) : k_sh k (c + 2) = some (20, 8, k_r0) := by
  refine k_sW h ?_
  rcases hc with rfl | rfl <;> rfl
theorem k_isW_10 : k_isW 10 := by unfold k_isW; omega
theorem k_isW_11 : k_isW 11 := by unfold k_isW; omega
theorem k_isW_14 : k_isW 14 := by unfold k_isW; omega
theorem k_isW_sv {j : Nat} (h : j < 2) : k_isW (12 + j) := by unfold k_isW; omega
theorem k_isW_st {j : Nat} (h : j < 8) : k_isW (15 + j) := by unfold k_isW; omega
theorem k_isC_2 : k_isC 2 := Or.inl rfl
theorem k_isC_l {j : Nat} (h : j < 8) : k_isC (15 + j) := Or.inr (by omega)
theorem k_isT_3 : k_isT 3 := Or.inl rfl
theorem k_isT_6 : k_isT 6 := Or.inr rfl
/-! the cells, by any table of shapes -/
abbrev k_Sh : Type := Nat → Nat → Option k_S
def k_fv (ad : Nat → Nat → Nat) (w : Nat → Int32) (r : k_R) (i : Nat) : Value := match r i with
  | none => .int (w i)
  | some none => .null
  | some (some q) => .ref (ad q.1 q.2)
def k_av (ad : Nat → Nat → Nat) (r : k_R) (j : Nat) : Option Nat := match r j with
  | some (some q) => some (ad q.1 q.2)
  | _ => none
def k_mk (G : Nat → ClassId) (ad : Nat → Nat → Nat) (w : Nat → Int32) (S : k_S) : va_E :=
  if S.1 < 20 then .inr (S.1, (List.range S.2.1).map (k_fv ad w S.2.2))
  else if S.1 < 23 then .inl (G (S.1 - 20), S.2.1, .inl w)
  else if S.1 = 25 then .inl (G (S.1 - 20), S.2.1, .inr (.inl (fun j => (w j).toInt64)))
  else .inl (G (S.1 - 20), S.2.1, .inr (.inr (.inr (.inr (k_av ad S.2.2)))))
def kE (sh : k_Sh) (G : Nat → ClassId) (ad : Nat → Nat → Nat) (u : k_U) (q : Nat × Nat) : va_E := match sh q.1 q.2 with
  | some S => k_mk G ad (u q.1 q.2) S
  | none => .inr (0, [])
def kUL (sh : k_Sh) : List (Nat × Nat) := ((List.range 529).map fun n => (n / 23, n % 23)).filter fun q => (sh q.1 q.2).isSome
def kws (sh : k_Sh) (G : Nat → ClassId) (ad : Nat → Nat → Nat) (u : k_U) : va_W := (kUL sh).map fun q => (ad q.1 q.2, kE sh G ad u q)
/-- the table keeps to its bounds, the addresses are apart -/
def kok (sh : k_Sh) (ad : Nat → Nat → Nat) : Prop := (∀ (k c : Nat) (S : k_S), sh k c = some S → k < 23 ∧ c < 23) ∧ ∀ q q' : Nat × Nat, q ∈ kUL sh → q' ∈ kUL sh → ad q.1 q.2 = ad q'.1 q'.2 → q = q'
def kA (sh : k_Sh) (ad : Nat → Nat → Nat) (sz : Nat) : Nat → Prop := fun a => (∃ q : Nat × Nat, q ∈ kUL sh ∧ ad q.1 q.2 = a) ∨ sz ≤ a
def k_tys (G : Nat → ClassId) : List (ClassId × FieldType) := [(G 0, .int), (G 1, .boolean), (G 2, .byte), (G 3, .object "LayeredChute$Chute"), (G 4, .object "LayeredChute$World"), (G 5, .long)]
def kUv (sh : k_Sh) (D : va_G) (G : Nat → ClassId) (ad : Nat → Nat → Nat) (u : k_U) (H : Heap) : Prop := va_P D vwCl (kws sh G ad u) H
abbrev k_ok : (Nat → Nat → Nat) → Prop := kok k_sh
abbrev k_A : (Nat → Nat → Nat) → Nat → Nat → Prop := kA k_sh
abbrev k_Uv : va_G → (Nat → ClassId) → (Nat → Nat → Nat) → k_U → Heap → Prop := kUv k_sh
theorem k_sh_lt {k c : Nat} {S : k_S} (h : k_sh k c = some S) : k < 23 ∧ c < 23 := by
  unfold k_sh at h
  split at h
  · rename_i hk
    refine ⟨hk.2, ?_⟩
    unfold k_shW at h
    split at h <;> first | omega | cases h
  · unfold k_shN at h
    split at h <;> first | (split at h <;> first | (constructor <;> omega) | cases h) | cases h
theorem k_mem {sh : k_Sh} {ad : Nat → Nat → Nat} (hI : kok sh ad) {k c : Nat} {S : k_S} (h : sh k c = some S) : (k, c) ∈ kUL sh := by
  obtain ⟨h1, h2⟩ := hI.1 k c S h
  refine List.mem_filter.mpr ⟨List.mem_map.mpr ⟨23 * k + c, List.mem_range.mpr (by omega), ?_⟩, by show (sh k c).isSome = true; rw [h]; rfl⟩
  show ((23 * k + c) / 23, (23 * k + c) % 23) = (k, c)
  rw [show (23 * k + c) / 23 = k by omega, show (23 * k + c) % 23 = c by omega]
theorem k_memE {sh : k_Sh} {q : Nat × Nat} (h : q ∈ kUL sh) : ∃ S, sh q.1 q.2 = some S := Option.isSome_iff_exists.mp (List.mem_filter.mp h).2
theorem k_nodup (sh : k_Sh) : (kUL sh).Nodup := by
  refine List.Pairwise.filter _ ?_
  refine List.Pairwise.map _ ?_ (List.nodup_range (n := 529))
  intro a b hab h
  have h1 : a / 23 = b / 23 := congrArg Prod.fst h
  have h2 : a % 23 = b % 23 := congrArg Prod.snd h
  omega
theorem k_uniqL {UL : List (Nat × Nat)} (hnd : UL.Nodup) {i j : Nat} {q : Nat × Nat} (hi : UL[i]? = some q) (hj : UL[j]? = some q) : i = j := by
  obtain ⟨h1, e1⟩ := List.getElem?_eq_some_iff.mp hi
  obtain ⟨h2, e2⟩ := List.getElem?_eq_some_iff.mp hj
  exact (List.getElem_inj hnd).mp (e1.trans e2.symm)
theorem k_atL {UL : List (Nat × Nat)} {f : Nat × Nat → Nat × va_E} {q : Nat × Nat} (h : q ∈ UL) : ∃ i : Nat, UL[i]? = some q ∧ (UL.map f)[i]? = some (f q) := by
  obtain ⟨i, hi⟩ := List.getElem?_of_mem h
  refine ⟨i, hi, ?_⟩
  rw [List.getElem?_map, hi]
  rfl
theorem k_setL {UL : List (Nat × Nat)} (hnd : UL.Nodup) {f f' : Nat × Nat → Nat × va_E} {q : Nat × Nat} {i : Nat} (hi : UL[i]? = some q) (ho : ∀ z : Nat × Nat, z ≠ q → f' z = f z) : (UL.map f).set i (f' q) = UL.map f' := by
  refine List.ext_getElem? fun j => ?_
  by_cases hj : i = j
  · subst hj
    have hl : i < (UL.map f).length := by
      rw [List.length_map]
      exact (List.getElem?_eq_some_iff.mp hi).1
    rw [List.getElem?_set_self hl, List.getElem?_map, hi]
    rfl
  · rw [List.getElem?_set_ne hj, List.getElem?_map, List.getElem?_map]
    cases hq : UL[j]? with
    | none => rfl
    | some z =>
      have hne : z ≠ q := fun e => hj (k_uniqL hnd hi (hq.trans (by rw [e])))
      show some (f z) = some (f' z)
      rw [ho z hne]
theorem k_DL {UL : List (Nat × Nat)} (hnd : UL.Nodup) {f : Nat × Nat → Nat × va_E} {A : Nat → Prop} (h : ∀ q q' : Nat × Nat, q ∈ UL → q' ∈ UL → (f q).1 = (f q').1 → q = q') (hA : ∀ q : Nat × Nat, q ∈ UL → A (f q).1) : va_D A (UL.map f) := by
  have key : ∀ (i : Nat) (x : Nat × va_E), (UL.map f)[i]? = some x → ∃ q, UL[i]? = some q ∧ f q = x := by
    intro i x hx
    rw [List.getElem?_map] at hx
    cases hq : UL[i]? with
    | none => rw [hq] at hx; cases hx
    | some q => rw [hq] at hx; cases hx; exact ⟨q, rfl, rfl⟩
  refine ⟨fun i j x y hi hj hxy => ?_, fun i x hi => ?_⟩
  · obtain ⟨q, h1, rfl⟩ := key i x hi
    obtain ⟨q', h3, rfl⟩ := key j y hj
    have := h q q' (List.mem_of_getElem? h1) (List.mem_of_getElem? h3) hxy
    subst this
    exact k_uniqL hnd h1 h3
  · obtain ⟨q, h1, rfl⟩ := key i x hi
    exact hA q (List.mem_of_getElem? h1)
theorem k_Eq {sh : k_Sh} {G : Nat → ClassId} {ad : Nat → Nat → Nat} {u : k_U} {k c : Nat} {S : k_S} (h : sh k c = some S) : kE sh G ad u (k, c) = k_mk G ad (u k c) S := by
  show (match sh k c with | some S => k_mk G ad (u k c) S | none => .inr (0, [])) = _
  rw [h]
theorem k_at {sh : k_Sh} {G : Nat → ClassId} {ad : Nat → Nat → Nat} {u : k_U} {k c : Nat} {S : k_S} (hI : kok sh ad) (h : sh k c = some S) : ∃ i : Nat, (kUL sh)[i]? = some (k, c) ∧ (kws sh G ad u)[i]? = some (ad k c, k_mk G ad (u k c) S) := by
  obtain ⟨i, h1, h2⟩ := k_atL (f := fun q => (ad q.1 q.2, kE sh G ad u q)) (k_mem hI h)
  refine ⟨i, h1, h2.trans ?_⟩
  show some (ad k c, kE sh G ad u (k, c)) = _
  rw [k_Eq h]
theorem k_D {sh : k_Sh} {G : Nat → ClassId} {ad : Nat → Nat → Nat} {u : k_U} {sz : Nat} (h : kok sh ad) : va_D (kA sh ad sz) (kws sh G ad u) :=
  k_DL (k_nodup sh) h.2 (fun q hq => Or.inl ⟨q, hq, rfl⟩)
theorem k_set {sh : k_Sh} {G : Nat → ClassId} {ad : Nat → Nat → Nat} {u u' : k_U} {k c i : Nat} {S : k_S} {e : va_E} (h : sh k c = some S) (hi : (kUL sh)[i]? = some (k, c)) (he : k_mk G ad (u' k c) S = e) (ho : ∀ k' c' : Nat, (k' ≠ k ∨ c' ≠ c) → u' k' c' = u k' c') : (kws sh G ad u).set i (ad k c, e) = kws sh G ad u' := by
  have key := k_setL (k_nodup sh) (f := fun q => (ad q.1 q.2, kE sh G ad u q)) (f' := fun q => (ad q.1 q.2, kE sh G ad u' q)) hi (fun z hz => by
    have hne : z.1 ≠ k ∨ z.2 ≠ c := by
      by_cases h1 : z.1 = k
      · exact Or.inr fun h2 => hz (Prod.ext h1 h2)
      · exact Or.inl h1
    show (ad z.1 z.2, kE sh G ad u' z) = (ad z.1 z.2, kE sh G ad u z)
    unfold kE
    rw [ho z.1 z.2 hne])
  have e1 : kE sh G ad u' (k, c) = e := (k_Eq h).trans he
  dsimp only at key
  rw [e1] at key
  exact key
def k_str : List (String × Nat × String) := [("LayeredChute$SetupReader", 23, "capsule"), ("LayeredChute$SetupReader", 50, "layer"), ("LayeredChute$SetupReader", 59, "reserve"), ("LayeredChute$SetupReader", 64, "target"), ("LayeredChute$SetupReader", 69, "wind"), ("LayeredChute$SetupReader", 74, "spot"), ("LayeredChute$SetupReader", 79, "cool"), ("LayeredChute$SetupReader", 98, "under"), ("LayeredChute$SetupReader", 104, "jammed"), ("LayeredChute$SetupReader", 118, "after"), ("LayeredChute$SetupReader", 120, "below"), ("LayeredChute$Script", 53, "tick"), ("LayeredChute$Script", 59, "fall"), ("LayeredChute$Script", 61, "open"), ("LayeredChute$Script", 63, "reserve"), ("LayeredChute$Script", 65, "cut"), ("LayeredChute$Script", 67, "steer"), ("LayeredChuteModel", 311, "below"), ("LayeredChuteModel", 319, "under"), ("LayeredChuteModel", 321, "jammed"), ("LayeredChuteModel", 323, "after"), ("LayeredChuteModel", 331, "layer"), ("LayeredChuteModel", 336, "reserve"), ("LayeredChuteModel", 341, "target"), ("LayeredChuteModel", 346, "wind"), ("LayeredChuteModel", 351, "spot"), ("LayeredChuteModel", 356, "cool"), ("LayeredChuteModel", 361, "capsule"), ("LayeredChuteModel", 369, "tick"), ("LayeredChuteModel", 371, "fall"), ("LayeredChuteModel", 373, "open"), ("LayeredChuteModel", 375, "cut"), ("LayeredChuteModel", 377, "steer"), ("LayeredChute", 80, "the text would be longer than 600 bytes"), ("LayeredChute", 182, "what is not 0 to 8"), ("LayeredChute", 185, "what is not 0 to 15"), ("LayeredChute", 240, "there is no such chute"), ("LayeredChute", 273, "what is not 0 to 7"), ("LayeredChute", 275, "there is no such line"), ("LayeredChute", 283, "height is not 0 to 30000"), ("LayeredChute", 295, "there is no such spot"), ("LayeredChute", 306, "what is not 0 to 2"), ("LayeredChute", 310, "there is no such event"), ("LayeredChute", 313, "what is not 0 to 3"), ("LayeredChute", 318, "what is not 0 to 9"), ("LayeredChute", 327, "there is no such layer"), ("LayeredChute", 353, "landing takes more than 3000 seconds"), ("LayeredChute", 379, "seconds is not 1 to 200"), ("LayeredChute", 402, "slip is not -9 to 9"), ("LayeredChute", 404, "height is not 1 to 30000"), ("LayeredChute", 406, "speed is not 1 to 400"), ("LayeredChute", 432, "there is no such byte"), ("LayeredChute", 437, "there is no act to undo"), ("LayeredChute", 442, "slot is neither 0 nor 1"), ("LayeredChute", 444, "nothing is saved there")]
def k_wds : List (List Int32) := [[99, 97, 112, 115, 117, 108, 101], [108, 97, 121, 101, 114], [114, 101, 115, 101, 114, 118, 101], [116, 97, 114, 103, 101, 116], [119, 105, 110, 100], [115, 112, 111, 116], [99, 111, 111, 108], [117, 110, 100, 101, 114], [106, 97, 109, 109, 101, 100], [97, 102, 116, 101, 114], [98, 101, 108, 111, 119], [116, 105, 99, 107], [102, 97, 108, 108], [111, 112, 101, 110], [114, 101, 115, 101, 114, 118, 101], [99, 117, 116], [115, 116, 101, 101, 114], [98, 101, 108, 111, 119], [117, 110, 100, 101, 114], [106, 97, 109, 109, 101, 100], [97, 102, 116, 101, 114], [108, 97, 121, 101, 114], [114, 101, 115, 101, 114, 118, 101], [116, 97, 114, 103, 101, 116], [119, 105, 110, 100], [115, 112, 111, 116], [99, 111, 111, 108], [99, 97, 112, 115, 117, 108, 101], [116, 105, 99, 107], [102, 97, 108, 108], [111, 112, 101, 110], [99, 117, 116], [115, 116, 101, 101, 114]]
def k_wd (t : Nat) : List Int32 := k_wds.getD t []
def k_wlen (t : Nat) : Int32 := Int32.ofNat (k_wd t).length
def k_wchr (t j : Nat) : Int32 := ((((k_wd t).getD j 0) &&& 255).toUInt32 % 65536).toInt32
def k_dcl : List MethodName := [⟨"java/lang/RuntimeException", "<init>", "(Ljava/lang/String;)V"⟩, ⟨"java/lang/Exception", "<init>", "(Ljava/lang/String;)V"⟩, ⟨"java/lang/Throwable", "<init>", "(Ljava/lang/String;)V"⟩]
def k_exs : List String := ["java/lang/IllegalStateException", "java/lang/IllegalArgumentException", "java/lang/IndexOutOfBoundsException", "java/util/NoSuchElementException"]
def k_ncs : List (String × String) := [("java/lang/IllegalArgumentException", "java/lang/IndexOutOfBoundsException"), ("java/lang/IllegalArgumentException", "java/util/NoSuchElementException"), ("java/lang/IllegalStateException", "java/lang/IndexOutOfBoundsException")]
/-- what lies beside: the words of the texts, the statics that are read -/
def k_Wd (ad : Nat → Nat → Nat) (A : Nat → Prop) (U : State) (H : Heap) : Prop :=
  (∀ i : Nat, i < 33 → va_O "java/lang/String" (ad 30 i) A U H ∧ va_OF "java/lang/String" "coder" "B" (.int 0) (ad 30 i) A U H ∧ va_OF "java/lang/String" "value" "[B" (.ref (ad 31 i)) (ad 30 i) A U H ∧ va_T .byte (ad 31 i) (k_wd i).length (fun j => .int ((k_wd i).getD j 0)) A U H) ∧
  va_Z "java/lang/String" "COMPACT_STRINGS" "Z" (.int 1) A U H ∧ va_Zq "jdk/internal/util/Preconditions" "SIOOBE_FORMATTER" "Ljava/util/function/BiFunction;" A U H ∧
  vx_Zq Bundle.tN "UNASSIGNED_STACK" Bundle.steD A U H ∧ vx_Zq Bundle.tN "SUPPRESSED_SENTINEL" Bundle.listD A U H ∧
  (∀ (i : Nat) (q : String × Nat × String), k_str[i]? = some q → vk_R q.1 q.2.1 q.2.2 (ad 30 i) U) ∧ (∀ x ∈ k_dcl, va_Nw (.declares x) U) ∧ (∀ x ∈ k_exs, va_Nw (.castable x x) U) ∧ (∀ q ∈ k_ncs, va_Nc q.1 q.2 U)
theorem k_Wd.kept {ad : Nat → Nat → Nat} {A : Nat → Prop} {U : State} {H H1 : Heap} (h : k_Wd ad A U H) (hq : ∀ a : Nat, a < H.size → ¬ A a → H1[a]? = H[a]?) : k_Wd ad A U H1 :=
  ⟨fun i hi => ⟨(h.1 i hi).1.kept hq, (h.1 i hi).2.1.kept hq, (h.1 i hi).2.2.1.kept hq, (h.1 i hi).2.2.2.kept hq⟩, h.2.1.kept hq, h.2.2.1.kept hq, h.2.2.2.1.kept hq, h.2.2.2.2.1.kept hq, h.2.2.2.2.2⟩
theorem k_Wd.narrow {ad : Nat → Nat → Nat} {A B : Nat → Prop} {U : State} {H : Heap} (h : k_Wd ad A U H) (hAB : ∀ q, B q → A q) : k_Wd ad B U H :=
  ⟨fun i hi => ⟨(h.1 i hi).1.narrow hAB, (h.1 i hi).2.1.narrow hAB, (h.1 i hi).2.2.1.narrow hAB, (h.1 i hi).2.2.2.narrow hAB⟩, h.2.1.narrow hAB, h.2.2.1.narrow hAB, h.2.2.2.1.narrow hAB, h.2.2.2.2.1.narrow hAB, h.2.2.2.2.2⟩
theorem k_Wd.moved {ad : Nat → Nat → Nat} {A : Nat → Prop} {U U' : State} {H : Heap} (h : k_Wd ad A U H) (hvm : U.vm.Alike U'.vm) (hR : ∀ (own tx : String) (k a : Nat), vk_R own k tx a U → vk_R own k tx a U') (hD : ∀ x, va_Nw (.declares x) U → va_Nw (.declares x) U') (hC : ∀ x y, va_Nw (.castable x y) U → va_Nw (.castable x y) U') : k_Wd ad A U' H :=
  ⟨fun i hi => ⟨(h.1 i hi).1.moved hvm, (h.1 i hi).2.1.moved hvm, (h.1 i hi).2.2.1.moved hvm, (h.1 i hi).2.2.2.moved hvm⟩, h.2.1.moved hvm, h.2.2.1.moved hvm, h.2.2.2.1.moved hvm, h.2.2.2.2.1.moved hvm, fun i q hq => hR _ _ _ _ (h.2.2.2.2.2.1 i q hq), fun x hx => hD x (h.2.2.2.2.2.2.1 x hx), fun x hx => hC x x (h.2.2.2.2.2.2.2.1 x hx), fun q hq => va_Nc.moved hvm (h.2.2.2.2.2.2.2.2 q hq)⟩
theorem k_Wd.same {ad : Nat → Nat → Nat} {A : Nat → Prop} {U U' : State} {H : Heap} (h : k_Wd ad A U H) (hvm : U'.vm = U.vm) : k_Wd ad A U' H :=
  h.moved (by rw [hvm]; exact Vm.Alike.refl _) (fun _ _ _ _ hr => vk_R.same hvm hr) (fun _ hr => va_Nw.same rfl hvm.symm hr) (fun _ _ hr => va_Nw.same rfl hvm.symm hr)
theorem k_Wd.warm {ad : Nat → Nat → Nat} {A : Nat → Prop} {U U' : State} {H : Heap} (h : k_Wd ad A U H) (hW : U.WarmedH U'.vm) : k_Wd ad A U' H :=
  h.moved hW.alike (fun _ _ _ _ hr => vk_R.warm hW hr) (fun _ hr => va_Nw.warmD hW hr) (fun _ _ hr => va_Nw.warmC hW hr)
/-! the context of a walk -/
def kCx (sh : k_Sh) (p : Program) (s : State) (m : MethodId) (args : Array Value) (c : Code) (own : String) (cc : ByteArray) (nL : Nat) (D : va_G) (G : Nat → ClassId) (ad : Nat → Nat → Nat) (sz : Nat) : Prop :=
  p.tables.exec = Jvm.exec ∧ c.code = cc ∧ c.maxLocals = nL ∧ s.vm.findClass own = some m.cls ∧ (∀ w ∈ lw_g, w.before args s = true) ∧ va_K D vwCl (k_tys G) s ∧ kok sh ad ∧ s.heap.size = sz ∧ k_Wd ad (kA sh ad sz) s s.heap
abbrev k_Cx := kCx k_sh
/-- field i of class number tag, as the code of the class own names it -/
def k_FL (own : String) (index tag i N : Nat) : Prop := ∃ (C : String) (T : u_T), vwCl[tag]? = some (C, T, N) ∧ (∀ w ∈ u_ws C T N, w ∈ lw_g) ∧ i < N ∧ tag < 20 ∧ Cond.fieldLink own index (T i).1 (T i).2.1 (T i).2.2.1 ∈ lw_g
def k_FP (own : String) (index tag i N : Nat) (ty : FieldType) : Prop := ∃ (C : String) (T : u_T) (ty0 : Nat → FieldType), vwCl[tag]? = some (C, T, N) ∧ (∀ w ∈ u_ws C T N, w ∈ lw_g) ∧ i < N ∧ tag < 20 ∧ Cond.fieldLink own index (T i).1 (T i).2.1 (T i).2.2.1 ∈ lw_g ∧ (∀ k, k < N → parseFieldDescriptor (T k).2.2.1 = some (ty0 k)) ∧ (∀ a, a < N → ∀ b, b < N → a ≠ b → (T a).2.1 ≠ (T b).2.1) ∧ (T i).2.2.2 = false ∧ parseFieldDescriptor (T i).2.2.1 = some ty
/-- in range -/
theorem k_vin {i : Int32} {n : Nat} {N : Int32} (h : 0 ≤ i ∧ i < N) (hN : N.toInt = (n : Int)) : vp_in i n := by
  rw [vp_in_iff]
  have h1 := Int32.le_iff_toInt_le.mp h.1
  have h2 := Int32.lt_iff_toInt_lt.mp h.2
  rw [hN] at h2
  exact ⟨by simpa using h1, h2⟩
theorem k_vlt {i : Int32} {n : Nat} (h : vp_in i n) : i.toNatClampNeg < n := Nat.not_le.mp fun q => h (Or.inr q)
/-! what a computation has come to -/
def k_lt {α β : Type} (x : α) (f : α → Option β) : Option β := f x
theorem k_ltE {α β : Type} {x : α} {f : α → Option β} {r : β} (h : k_lt x f = some r) : ∃ y, y = x ∧ f y = some r := ⟨x, rfl, h⟩
def k_bd {α β : Type} (x : Option α) (f : α → Option β) : Option β := match x with
  | none => none
  | some a => f a
theorem k_bdE {α β : Type} {x : Option α} {f : α → Option β} {r : β} (h : k_bd x f = some r) : ∃ a, x = some a ∧ f a = some r := by
  cases x with
  | none => cases h
  | some a => exact ⟨a, rfl, h⟩
theorem k_ifP {α : Type} {c : Prop} [Decidable c] {a b r : α} (h : (if c then a else b) = r) (hc : c) : a = r := by rw [if_pos hc] at h; exact h
theorem k_ifN {α : Type} {c : Prop} [Decidable c] {a b r : α} (h : (if c then a else b) = r) (hc : ¬ c) : b = r := by rw [if_neg hc] at h; exact h
def k_ck {β : Type} (c : Prop) [Decidable c] (x : Option β) : Option β := if c then x else none
theorem k_ckE {β : Type} {c : Prop} [Decidable c] {x : Option β} {r : β} (h : k_ck c x = some r) : c ∧ x = some r := by
  unfold k_ck at h
  by_cases hc : c
  · rw [if_pos hc] at h; exact ⟨hc, h⟩
  · rw [if_neg hc] at h; cases h
theorem k_so {α : Type} {a b : α} (h : some a = some b) : b = a := (Option.some.inj h).symm
def k_N : Nat := 4000
def k_maxi (x y : Int32) : Int32 := if x < y then y else x
def k_mini (x y : Int32) : Int32 := if y < x then y else x
def k_maxl (x y : Int64) : Int64 := if y < x then x else y
theorem k_nb {x : Int32} (h : x = 0 ∨ x = 1) : narrow .boolean (.int x) = .int x := by
  rcases h with rfl | rfl <;> rfl
theorem k_fb {x : Int32} (h : x = 0 ∨ x = 1) : fits .boolean (.int x) = true := by
  rcases h with rfl | rfl <;> rfl
theorem k_tne {x n : Int32} {z : Int} (h : ¬ x = n) (hn : n.toInt = z) : x.toInt ≠ z := fun e => h (Int32.toInt_inj.mp (e.trans hn.symm))
theorem k_rWl_at {k : Nat} {i : Int32} (h : vp_in i 8) : k_rWl k i.toNatClampNeg = some (some (k, 15 + i.toNatClampNeg)) := if_pos (k_vlt h)
theorem k_rSv_at {i : Int32} (h : vp_in i 2) : k_rSv i.toNatClampNeg = some (some (12 + i.toNatClampNeg, 0)) := if_pos (k_vlt h)
theorem k_rSt_at {i : Int32} (h : vp_in i 8) : k_rSt i.toNatClampNeg = some (some (15 + i.toNatClampNeg, 0)) := if_pos (k_vlt h)
theorem sW_0 {k : Nat} (h : k_isW k) : k_sh k 0 = some (9, 18, k_rW k) := k_sW h rfl
theorem sW_1 {k : Nat} (h : k_isW k) : k_sh k 1 = some (23, 8, k_rWl k) := k_sW h rfl
theorem sW_2 {k : Nat} (h : k_isW k) : k_sh k 2 = some (0, 8, k_r0) := k_sW h rfl
theorem sW_3 {k : Nat} (h : k_isW k) : k_sh k 3 = some (2, 3, k_rHT k 3) := k_sW h rfl
theorem sW_4 {k : Nat} (h : k_isW k) : k_sh k 4 = some (20, 8, k_r0) := k_sW h rfl
theorem sW_5 {k : Nat} (h : k_isW k) : k_sh k 5 = some (20, 8, k_r0) := k_sW h rfl
theorem sW_6 {k : Nat} (h : k_isW k) : k_sh k 6 = some (2, 3, k_rHT k 6) := k_sW h rfl
theorem sW_7 {k : Nat} (h : k_isW k) : k_sh k 7 = some (20, 8, k_r0) := k_sW h rfl
theorem sW_8 {k : Nat} (h : k_isW k) : k_sh k 8 = some (20, 8, k_r0) := k_sW h rfl
theorem sW_9 {k : Nat} (h : k_isW k) : k_sh k 9 = some (8, 4, k_rSp k) := k_sW h rfl
theorem sW_10 {k : Nat} (h : k_isW k) : k_sh k 10 = some (20, 8, k_r0) := k_sW h rfl
theorem sW_11 {k : Nat} (h : k_isW k) : k_sh k 11 = some (20, 8, k_r0) := k_sW h rfl
theorem sW_12 {k : Nat} (h : k_isW k) : k_sh k 12 = some (20, 8, k_r0) := k_sW h rfl
theorem sW_13 {k : Nat} (h : k_isW k) : k_sh k 13 = some (1, 3, k_rEv k) := k_sW h rfl
theorem sW_14 {k : Nat} (h : k_isW k) : k_sh k 14 = some (20, 120, k_r0) := k_sW h rfl
theorem sh_0_0 : k_sh 0 0 = some (10, 10, k_rX) := rfl
theorem sh_0_1 : k_sh 0 1 = some (24, 2, k_rSv) := rfl
theorem sh_0_2 : k_sh 0 2 = some (21, 2, k_r0) := rfl
theorem sh_0_3 : k_sh 0 3 = some (20, 10, k_r0) := rfl
theorem sh_0_4 : k_sh 0 4 = some (6, 1, k_rSu) := rfl
theorem sh_1_0 : k_sh 1 0 = some (4, 10, k_rRe) := rfl
theorem sh_1_1 : k_sh 1 1 = some (20, 600, k_r0) := rfl
theorem sh_1_2 : k_sh 1 2 = some (20, 600, k_r0) := rfl
theorem sh_2_0 : k_sh 2 0 = some (5, 3, k_rSc) := rfl
theorem sh_2_1 : k_sh 2 1 = some (20, 40, k_r0) := rfl
theorem sh_2_2 : k_sh 2 2 = some (20, 40, k_r0) := rfl
theorem sh_3_0 : k_sh 3 0 = some (7, 2, k_rSl) := rfl
theorem sh_3_1 : k_sh 3 1 = some (20, 64, k_r0) := rfl
theorem sh_4_0 : k_sh 4 0 = some (3, 3, k_rHi) := rfl
theorem sh_4_1 : k_sh 4 1 = some (24, 8, k_rSt) := rfl
theorem sh_5_0 : k_sh 5 0 = some (11, 22, k_rMo) := rfl
theorem sh_5_1 : k_sh 5 1 = some (20, 268, k_r0) := rfl
theorem sh_5_2 : k_sh 5 2 = some (20, 268, k_r0) := rfl
theorem sh_5_3 : k_sh 5 3 = some (20, 268, k_r0) := rfl
theorem sh_5_4 : k_sh 5 4 = some (20, 2144, k_r0) := rfl
theorem sh_5_5 : k_sh 5 5 = some (20, 536, k_r0) := rfl
theorem sh_5_6 : k_sh 5 6 = some (21, 2, k_r0) := rfl
theorem sh_5_7 : k_sh 5 7 = some (20, 10, k_r0) := rfl
theorem sh_5_9 : k_sh 5 9 = some (22, 600, k_r0) := rfl
theorem sh_5_18 : k_sh 5 18 = some (20, 80, k_r0) := rfl
theorem sh_6_0 : k_sh 6 0 = some (25, 1, k_r0) := rfl
theorem sh_5_20 : k_sh 5 20 = some (20, 60, k_r0) := rfl

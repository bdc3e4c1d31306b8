def fsX11 : List Value := [.int 0, .null, .null, .null, .null, .null, .null, .null, .int 0, .null, .int 0, .int 0, .int 0, .int 0, .int 0, .int 0, .int 0, .int 0, .null, .int 0, .null, .int 0]
def wsX11 (G : Nat → ClassId) (b sz : Nat) : va_W := ([(b, .inr (11, [.int 0, .ref sz, .ref (sz + 1), .ref (sz + 2), .ref (sz + 3), .ref (sz + 4), .ref (sz + 5), .ref (sz + 6), .int 0, .ref (sz + 7), .int 0, .int 0, .int 0, .int 0, .int 0, .int 0, .int (-1), .int 0, .ref (sz + 8), .int 0, .ref (sz + 9), .int 0]))] ++ (((((((((([] ++ [(sz, .inl (G 0, 268, .inl (fun _ => 0)))]) ++ [((sz + 1), .inl (G 0, 268, .inl (fun _ => 0)))]) ++ [((sz + 2), .inl (G 0, 268, .inl (fun _ => 0)))]) ++ [((sz + 3), .inl (G 0, 2144, .inl (fun _ => 0)))]) ++ [((sz + 4), .inl (G 0, 536, .inl (fun _ => 0)))]) ++ [((sz + 5), .inl (G 1, 2, .inl (fun _ => 0)))]) ++ [((sz + 6), .inl (G 0, 10, .inl (fun _ => 0)))]) ++ [((sz + 7), .inl (G 2, 600, .inl (fun _ => 0)))]) ++ [((sz + 8), .inl (G 0, 80, .inl (fun _ => 0)))]) ++ [((sz + 9), .inl (G 0, 60, .inl (fun _ => 0)))]))
set_option maxRecDepth 100000 in
set_option maxHeartbeats 8000000 in
theorem kb_M {D : va_G} {G : Nat → ClassId} {B : Nat} {st : Nat → Nat → Nat} {H : Heap} (hP : va_P D vwCl (wsX11 G (B + 314) (B + 315)) H) : kUv k_shM D G (kAd B st) kU0 H := by
  have hA := kp_l hP
  have hB := kp_r hP
  have g9 := kp_r hB
  have g8 := kp_r (kp_l hB)
  have g7 := kp_r (kp_l (kp_l hB))
  have g6 := kp_r (kp_l (kp_l (kp_l hB)))
  have g5 := kp_r (kp_l (kp_l (kp_l (kp_l hB))))
  have g4 := kp_r (kp_l (kp_l (kp_l (kp_l (kp_l hB)))))
  have g3 := kp_r (kp_l (kp_l (kp_l (kp_l (kp_l (kp_l hB))))))
  have g2 := kp_r (kp_l (kp_l (kp_l (kp_l (kp_l (kp_l (kp_l hB)))))))
  have g1 := kp_r (kp_l (kp_l (kp_l (kp_l (kp_l (kp_l (kp_l (kp_l hB))))))))
  have g0 := kp_r (kp_l (kp_l (kp_l (kp_l (kp_l (kp_l (kp_l (kp_l (kp_l hB)))))))))
  clear hP hB
  refine k_build fun k c S h => ?_
  have hk : k = 5 := by
    unfold k_shM at h
    by_cases hk : k = 5
    · exact hk
    · rw [if_neg hk] at h
      cases h
  subst hk
  have h1 : k_shN 5 c = some S := h
  clear h
  have hc : c = 0 ∨ c = 1 ∨ c = 2 ∨ c = 3 ∨ c = 4 ∨ c = 5 ∨ c = 6 ∨ c = 7 ∨ c = 9 ∨ c = 18 ∨ c = 20 := by
    simp only [k_shN] at h1
    split at h1 <;> first | omega | cases h1
  rcases hc with rfl | rfl | rfl | rfl | rfl | rfl | rfl | rfl | rfl | rfl | rfl
  · obtain rfl := Option.some.inj h1
    exact hA 0 _ rfl
  · obtain rfl := Option.some.inj h1
    exact g0 0 _ rfl
  · obtain rfl := Option.some.inj h1
    exact g1 0 _ rfl
  · obtain rfl := Option.some.inj h1
    exact g2 0 _ rfl
  · obtain rfl := Option.some.inj h1
    exact g3 0 _ rfl
  · obtain rfl := Option.some.inj h1
    exact g4 0 _ rfl
  · obtain rfl := Option.some.inj h1
    exact g5 0 _ rfl
  · obtain rfl := Option.some.inj h1
    exact g6 0 _ rfl
  · obtain rfl := Option.some.inj h1
    exact g7 0 _ rfl
  · obtain rfl := Option.some.inj h1
    exact g8 0 _ rfl
  · obtain rfl := Option.some.inj h1
    exact g9 0 _ rfl

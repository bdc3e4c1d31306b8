/-! the bound that the statement sets to what the law makes: no end that it allows has more than 521680 new cells, nor more than 7536660 new slots -/
theorem rm_cells {tb : Jvm.Tables} {e : Jvm.Env} {a : Array Jvm.Value} {s t : Jvm.State} {o : Jvm.Outcome} (h : Post_1_2 tb e a s o t) : t.heap.size ≤ s.heap.size + 521680 := h.2.1.2.2.2.2.1
theorem rm_slots {tb : Jvm.Tables} {e : Jvm.Env} {a : Array Jvm.Value} {s t : Jvm.State} {o : Jvm.Outcome} (h : Post_1_2 tb e a s o t) : ((t.heap.toList.drop s.heap.size).map (fun c => c.slots.size)).sum ≤ 7536660 := h.2.1.2.2.2.2.2.2.1
theorem rm_cells1 {tb : Jvm.Tables} {e : Jvm.Env} {a : Array Jvm.Value} {s t : Jvm.State} {o : Jvm.Outcome} (h : Post_1_1 tb e a s o t) : t.heap.size ≤ s.heap.size + 521680 := h.2.1.2.2.2.2.1

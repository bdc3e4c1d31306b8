section
/-! the bound that the statement sets to what the law makes: no end that it allows has more than 521680 new cells, nor more than 7536660 new slots -/
theorem rm_cells {tb : Jvm.Tables} {e : Jvm.Env} {a : Array Jvm.Value} {s t : Jvm.State} {o : Jvm.Outcome} (h : Post_1_2 tb e a s o t) : t.heap.size ≤ s.heap.size + 521680 := h.2.1.2.2.2.2.1
theorem rm_slots {tb : Jvm.Tables} {e : Jvm.Env} {a : Array Jvm.Value} {s t : Jvm.State} {o : Jvm.Outcome} (h : Post_1_2 tb e a s o t) : ((t.heap.toList.drop s.heap.size).map (fun c => c.slots.size)).sum ≤ 7536660 := h.2.1.2.2.2.2.2.2.1
theorem rm_cells1 {tb : Jvm.Tables} {e : Jvm.Env} {a : Array Jvm.Value} {s t : Jvm.State} {o : Jvm.Outcome} (h : Post_1_1 tb e a s o t) : t.heap.size ≤ s.heap.size + 521680 := h.2.1.2.2.2.2.1
end
section
/-! THE COUNT. A capsule of the law's own, in plain numbers: x (where it is) leaves no trace in what is made, and is left out.
A chute is one number, its parts to the base 16384: area, lines, strength, ceiling, most, jammed, whether it is the reserve, state, torn lines (the torn lines are the first ones, as a line's strength grows along the row). -/
noncomputable def fc {α : Type} (x : Nat) (k : Nat → α) : α := @Nat.rec (fun _ => α) (k 0) (fun n _ => k (Nat.succ n)) x
def cp (x i : Nat) : Nat := Nat.mod (Nat.div x (Nat.pow 16384 i)) 16384
def ca (x : Nat) : Nat := cp x 0
def cl (x : Nat) : Nat := cp x 1
def cs (x : Nat) : Nat := cp x 2
def cc (x : Nat) : Nat := cp x 3
def cm (x : Nat) : Nat := cp x 4
def cj (x : Nat) : Nat := cp x 5
def cr (x : Nat) : Nat := cp x 6
def ct (x : Nat) : Nat := cp x 7
def cg (x : Nat) : Nat := cp x 8
/-- the same chute with another state and other torn lines -/
def cw (x s g : Nat) : Nat := Nat.add (Nat.mod x (Nat.pow 16384 7)) (Nat.add (Nat.mul s (Nat.pow 16384 7)) (Nat.mul g (Nat.pow 16384 8)))
/-- the first line from t on that holds -/
noncomputable def ch (L s w ld : Nat) (n : Nat) : Nat → Nat := @Nat.rec (fun _ => Nat → Nat) (fun t => t) (fun _ ih t => cond (Nat.ble L t) t (cond (Nat.ble ld (Nat.div (Nat.mul (Nat.add s (Nat.mul 3 t)) w) 1000)) t (fc (Nat.succ t) ih))) n
/-- a load: all, on l lines -/
def co (p sl l : Nat) : Nat := Nat.add (Nat.div (Nat.div (Nat.mul p sl) 100) l) (cond (Nat.ble 1 (Nat.mod (Nat.div (Nat.mul p sl) 100) l)) 1 0)
/-- the tearing of an open chute; n counts the rows of flags that it copies -/
noncomputable def ce {α : Type} (L s w p sl f : Nat) : Nat → Nat → (Nat → Nat → α) → α := @Nat.rec (fun _ => Nat → Nat → (Nat → Nat → α) → α) (fun t n k => k t n) (fun _ ih t n k => cond (Nat.ble L t) (k t n) (fc (co p sl (Nat.sub L t)) fun ld => fc (ch L s w ld 13 t) fun u => fc (Nat.succ n) fun n1 => cond (Nat.beq u t) (k t n1) (ih u n1 k))) f
/-- all chutes, one after the other: their tearing, their brake -/
noncomputable def ck {α : Type} (v a w sl : Nat) (l : List Nat) : Nat → Nat → (List Nat → Nat → Nat → α) → α := @List.rec Nat (fun _ => Nat → Nat → (List Nat → Nat → Nat → α) → α) (fun b n k => k [] b n) (fun x _ ih b n k => cond (Nat.beq (ct x) 1) (fc (Nat.div (Nat.mul (Nat.mul (Nat.mul (ca x) a) v) v) 10000) fun p => fc (cl x) fun L => fc (cs x) fun s => fc (cg x) fun t => ce L s w p sl 14 t n fun u n1 => cond (Nat.ble L u) (fc (cw x 2 u) fun y => ih b n1 fun l1 b1 n2 => k (y :: l1) b1 n2) (fc (cw x 1 u) fun y => fc (Nat.add b p) fun b0 => ih b0 n1 fun l1 b1 n2 => k (y :: l1) b1 n2)) (ih b n fun l1 b1 n2 => k (x :: l1) b1 n2)) l
noncomputable def cf (l : List Nat) : Nat := @List.rec Nat (fun _ => Nat) 0 (fun x _ ih => Nat.add ih (cond (Nat.beq (cr x) 0) (cond (Nat.beq (ct x) 2) 1 (cond (Nat.beq (ct x) 3) 1 0)) 0)) l
/-- the first that may open opens (the reserve stands last) -/
noncomputable def cn {α : Type} (h v F : Nat) (l : List Nat) : (List Nat → α) → α := @List.rec Nat (fun _ => (List Nat → α) → α) (fun k => k []) (fun x xs ih k => cond (cond (Nat.beq (ct x) 0) (cond (Nat.ble h (cc x)) (cond (Nat.beq (cr x) 0) (Nat.ble v (cm x)) (Nat.ble (cm x) F)) false) false) (fc (cw x (cond (Nat.beq (cj x) 0) 1 3) (cg x)) fun y => k (y :: xs)) (ih fun l1 => k (x :: l1))) l
/-- the target at a height, plus one; 0 where there is none -/
noncomputable def cq (h : Nat) (l : List (Nat × Nat)) : Nat → Nat → Nat := @List.rec (Nat × Nat) (fun _ => Nat → Nat → Nat) (fun _ i => i) (fun x _ ih m i => cond (cond (Nat.ble h x.1) (Nat.ble x.1 m) false) (ih x.1 (Nat.succ x.2)) (ih m i)) l
/-- a second; k is told height, speed, heat, chutes and the count -/
noncomputable def cx {α : Type} (ma co1 sl : Nat) (T : List (Nat × Nat)) (h v he : Nat) (l : List Nat) (n : Nat) (k : Nat → Nat → Nat → List Nat → Nat → α) : α :=
  fc (Nat.sub 100 (Nat.div h 400)) fun a => fc (Nat.sub 1000 he) fun w => fc (cq h T 99999 0) fun q =>
  (fun (z : List Nat → α) => cond (cond (Nat.ble 1 q) (Nat.ble q v) false) (fc (cf l) fun F => cn h v F l z) (z l)) fun l0 =>
  ck v a w sl l0 (Nat.div (Nat.mul (Nat.mul (Nat.mul 2 a) v) v) 10000) n fun l1 b n1 =>
  fc (Nat.div b ma) fun sb => fc (cond (Nat.ble (Nat.add (Nat.div v 2) sb) (Nat.add v 10)) (Nat.sub (Nat.add v 10) sb) (Nat.div v 2)) fun v0 => fc (cond (Nat.ble v0 1) 1 v0) fun v1 =>
  fc (Nat.sub (Nat.add he (Nat.div (Nat.mul (Nat.mul v1 v1) a) 100000)) co1) fun e0 => fc (cond (Nat.ble e0 999) e0 999) fun e1 =>
  fc (Nat.sub h v1) fun h1 => k h1 v1 e1 l1 n1
/-- a fall of at most f seconds to the height g, with all that k makes of its end -/
noncomputable def cy {α : Type} (ma co1 sl g : Nat) (T : List (Nat × Nat)) (f : Nat) : Nat → Nat → Nat → List Nat → Nat → (Nat → Nat → Nat → List Nat → Nat → α) → α := @Nat.rec (fun _ => Nat → Nat → Nat → List Nat → Nat → (Nat → Nat → Nat → List Nat → Nat → α) → α) (fun h v he l n k => k h v he l n) (fun _ ih h v he l n k => cond (Nat.ble h g) (k h v he l n) (cx ma co1 sl T h v he l n fun h1 v1 e1 l1 n1 => ih h1 v1 e1 l1 n1 k)) f
/-- the rows of flags that a fall to the ground copies, at a slip whose burden is sl -/
noncomputable def cz (ma co1 sl : Nat) (T : List (Nat × Nat)) (h v he : Nat) (l : List Nat) : Nat := cy ma co1 sl 0 T 3000 h v he l 0 fun _ _ _ _ n => n
end
section
/-! THE COURSE: the draws, the setup and the acts of a capsule, to its looks ahead. -/
/-- a draw below m -/
noncomputable def dr {α : Type} (g m : Nat) (k : Nat → Nat → α) : α := fc (Nat.mod (Nat.add (Nat.mul g 1664525) 1013904223) 4294967296) fun g1 => fc (Nat.mod (Nat.div g1 256) m) fun v => k g1 v
def dp (a li s c m j r : Nat) : Nat := Nat.add a (Nat.mul 16384 (Nat.add li (Nat.mul 16384 (Nat.add s (Nat.mul 16384 (Nat.add c (Nat.mul 16384 (Nat.add m (Nat.mul 16384 (Nat.add j (Nat.mul 16384 r)))))))))))
/-- n chutes more, the first of them the i-th -/
noncomputable def db {α : Type} (la n : Nat) : Nat → Nat → (Nat → List Nat → α) → α := @Nat.rec (fun _ => Nat → Nat → (Nat → List Nat → α) → α) (fun _ g k => k g []) (fun _ ih i g k => dr g 40 fun g a => dr g 12 fun g li => dr g 2 fun g q => dr g (cond (Nat.beq q 0) 60 900) fun g s => dr g 9000 fun g c => cond (Nat.beq i la) (dr g 3 fun g m => fc (dp (Nat.succ a) (Nat.succ li) (Nat.succ s) (Nat.add 200 c) (Nat.succ m) 0 1) fun x => fc (Nat.succ i) fun i1 => ih i1 g fun g l => k g (x :: l)) (dr g 370 fun g m => dr g 5 fun g j => fc (dp (Nat.succ a) (Nat.succ li) (Nat.succ s) (Nat.add 200 c) (Nat.add 30 m) (cond (Nat.beq j 0) 1 0) 0) fun x => fc (Nat.succ i) fun i1 => ih i1 g fun g l => k g (x :: l))) n
noncomputable def di (at1 : Nat) (T : List (Nat × Nat)) : Bool := @List.rec (Nat × Nat) (fun _ => Bool) false (fun x _ ih => cond (Nat.beq x.1 at1) true ih) T
/-- a target is put: its value is changed where its height is there, else it comes behind all others -/
noncomputable def du (at1 v : Nat) (T : List (Nat × Nat)) : List (Nat × Nat) := @List.rec (Nat × Nat) (fun _ => List (Nat × Nat)) [(at1, v)] (fun x xs ih => cond (Nat.beq x.1 at1) ((x.1, v) :: xs) (x :: ih)) T
noncomputable def dt {α : Type} (n : Nat) : Nat → List (Nat × Nat) → (Nat → List (Nat × Nat) → α) → α := @Nat.rec (fun _ => Nat → List (Nat × Nat) → (Nat → List (Nat × Nat) → α) → α) (fun g T k => k g T) (fun _ ih g T k => dr g 9000 fun g a => dr g 200 fun g v => fc (Nat.succ a) fun a1 => fc (Nat.succ v) fun v1 => cond (di a1 T) (ih g T k) (ih g (du a1 v1 T) k)) n
/-- the winds' and the spots' draws -/
noncomputable def dw {α : Type} (n : Nat) : Nat → (Nat → α) → α := @Nat.rec (fun _ => Nat → (Nat → α) → α) (fun g k => k g) (fun _ ih g k => dr g 5000 fun g _ => dr g 81 fun g _ => ih g k) n
noncomputable def ds {α : Type} (n : Nat) : Nat → (Nat → α) → α := @Nat.rec (fun _ => Nat → (Nat → α) → α) (fun g k => k g) (fun _ ih g k => dr g 400 fun g _ => dr g 100 fun g _ => dr g 99 fun g _ => ih g k) n
/-- the i-th chute is seen by f: another chute, or none where it stays -/
noncomputable def dv {α : Type} (f : Nat → Option Nat) (l : List Nat) : Nat → (List Nat → α) → α := @List.rec Nat (fun _ => Nat → (List Nat → α) → α) (fun _ k => k []) (fun x xs ih i k => @Nat.rec (fun _ => α) (@Option.rec Nat (fun _ => α) (k (x :: xs)) (fun y => fc y fun y => k (y :: xs)) (f x)) (fun j _ => ih j fun l1 => k (x :: l1)) i) l
noncomputable def dm (h v : Nat) (l : List Nat) : Bool := @List.rec Nat (fun _ => Bool) false (fun x _ ih => cond (cond (Nat.beq (cr x) 0) (cond (Nat.beq (ct x) 0) (cond (Nat.ble h (cc x)) (Nat.ble v (cm x)) false) false) false) true ih) l
noncomputable def dq (l : List Nat) : Nat := @List.rec Nat (fun _ => Nat) 0 (fun x _ ih => Nat.add ih (cond (Nat.beq (ct x) 1) 1 0)) l
def do1 (x : Nat) : Nat := cw x (cond (Nat.beq (cj x) 0) 1 3) (cg x)
/-- an act; la layers, mn chutes, sp the slip without its sign -/
noncomputable def da {α : Type} (ma co1 la mn g h v he sp : Nat) (l : List Nat) (T : List (Nat × Nat)) (k : Nat → Nat → Nat → Nat → Nat → List Nat → List (Nat × Nat) → α) : α :=
  (fun (z : Nat → Nat → α) => cond (Nat.beq la 0) (z g 0) (dr g la z)) fun g i => dr g 11 fun g d =>
  cond (Nat.ble d 2) (dr g 9 fun g n => cy ma co1 (Nat.add 100 (Nat.mul 5 sp)) 0 T (Nat.succ n) h v he l 0 fun h v he l _ => k g h v he sp l T) <|
  cond (Nat.beq d 3) (dr g 700 fun g q => fc (Nat.sub h q) fun g1 => cy ma co1 (Nat.add 100 (Nat.mul 5 sp)) g1 T 3000 h v he l 0 fun h v he l _ => k g h v he sp l T) <|
  cond (Nat.beq d 4) (cond (Nat.beq la 0) (k g h v he sp l T) (dv (fun x => cond (cond (Nat.beq h 0) false (cond (Nat.beq (ct x) 0) (cond (Nat.ble h (cc x)) (Nat.ble v (cm x)) false) false)) (some (do1 x)) none) l i fun l => k g h v he sp l T)) <|
  cond (Nat.beq d 5) (cond (Nat.beq la mn) (k g h v he sp l T) (dv (fun x => cond (cond (Nat.beq h 0) false (cond (Nat.beq (ct x) 0) (cond (Nat.ble h (cc x)) (cond (Nat.ble (cm x) (cf l)) (cond (dm h v l) false true) false) false) false)) (some (do1 x)) none) l la fun l => k g h v he sp l T)) <|
  cond (Nat.beq d 6) (cond (Nat.beq mn 0) (k g h v he sp l T) (dr g mn fun g j => dv (fun x => cond (cond (Nat.beq h 0) false (Nat.beq (ct x) 1)) (some (cw x 4 (cg x))) none) l j fun l => k g h v he sp l T)) <|
  cond (Nat.beq d 7) (dr g 19 fun g q => cond (cond (Nat.beq h 0) true (Nat.beq (dq l) 0)) (k g h v he sp l T) (fc (cond (Nat.ble 9 q) (Nat.sub q 9) (Nat.sub 9 q)) fun s => k g h v he s l T)) <|
  cond (Nat.beq d 8) (dr g 9000 fun g a => dr g 200 fun g w => dr g 3 fun g r => fc (Nat.succ w) fun w1 => fc (cond (Nat.beq r 0) (@List.rec (Nat × Nat) (fun _ => Nat) (Nat.succ a) (fun x _ _ => x.1) T) (Nat.succ a)) fun a1 => cond (cond (di a1 T) false (Nat.beq T.length 8)) (k g h v he sp l T) (k g h v he sp l (du a1 w1 T))) <|
  cond (Nat.beq d 9) (cond (Nat.beq la 0) (k g h v he sp l T) (dr g 2 fun g q => dv (fun x => cond (Nat.beq (ct x) 0) (some (Nat.add (Nat.sub x (Nat.mul (cj x) (Nat.pow 16384 5))) (Nat.mul (cond (Nat.beq q 0) 1 0) (Nat.pow 16384 5)))) none) l i fun l => k g h v he sp l T)) <|
  dr g 5 fun g n => cy ma co1 (Nat.add 100 (Nat.mul 5 sp)) 0 T (Nat.succ (Nat.succ n)) h v he l 0 fun h v he l _ => k g h v he sp l T
/-- a look: mass, cooling, the slip without its sign, height, speed, heat, chutes, targets -/
abbrev dl := (Nat × Nat × Nat) × (Nat × Nat × Nat) × List Nat × List (Nat × Nat)
noncomputable def dc (ma co1 la mn ns n : Nat) : Nat → Nat → Nat → Nat → Nat → Nat → List Nat → List (Nat × Nat) → List dl := @Nat.rec (fun _ => Nat → Nat → Nat → Nat → Nat → Nat → List Nat → List (Nat × Nat) → List dl) (fun _ _ _ _ _ _ _ _ => []) (fun _ ih i g h v he sp l T => da ma co1 la mn g h v he sp l T fun g h v he sp l T => fc (Nat.succ i) fun i1 => cond (Nat.beq (Nat.mod i 5) 0) (((ma, co1, sp), (h, v, he), l, T) :: cond (Nat.beq ns 0) (ih i1 g h v he sp l T) (dr g ns fun g _ => ih i1 g h v he sp l T)) (ih i1 g h v he sp l T)) n
/-- the looks of the capsule that an int (as 32 bits) draws -/
noncomputable def dg (g : Nat) : List dl :=
  dr g 8000 fun g h => dr g 400 fun g v => dr g 60 fun g ma => dr g 60 fun g co1 => dr g 6 fun g la => dr g 3 fun g r => fc (Nat.add la (cond (Nat.beq r 0) 0 1)) fun mn => db la mn 0 g fun g l => dr g 4 fun g nt => dt nt g [] fun g T => dr g 3 fun g nw => dw nw g fun g => dr g 4 fun g ns => ds ns g fun g => fc (Nat.add 500 h) fun h => fc (Nat.succ ma) fun ma => dc ma co1 la mn ns 22 0 g h v 0 0 l T
/-- what the twenty falls of a look copy: one at its own slip, nineteen at -9 to 9 -/
noncomputable def dz (x : dl) (k : Nat) : Nat := cz x.1.1 x.1.2.1 (Nat.add 100 (Nat.mul 5 k)) x.2.2.2 x.2.1.1 x.2.1.2.1 x.2.1.2.2 x.2.2.1
noncomputable def dy (x : dl) : Nat := dz x x.1.2.2 + dz x 0 + 2 * (dz x 1 + dz x 2 + dz x 3 + dz x 4 + dz x 5 + dz x 6 + dz x 7 + dz x 8 + dz x 9)
def lk_0 : dl := ((1, 47, 0), (7479, 15, 0), [1194744741105041047588, 14590682228829749284, 15100129748874985491, 8394780084094926857, 15384265546409377797, 19342813225368670466752552], [(7963, 33), (1833, 96), (7728, 3)])
def lk_1 : dl := ((1, 47, 0), (7479, 15, 0), [1194744741105041047588, 14590682228829749284, 15100129748874985491, 1188986400801506230281, 15384265546409377797, 19342813225368670466752552], [(7963, 4), (1833, 96), (7728, 3), (474, 41)])
def lk_2 : dl := ((1, 47, 0), (7207, 3, 0), [14153120387629744164, 316912650071648032603005550628, 316912650072157480123050786835, 950737951360158451924033634313, 316912650072441615920585179141, 316931992870282719044642553896], [(7963, 4), (1833, 96), (7728, 3), (474, 41)])
def lk_3 : dl := ((1, 47, 0), (7092, 4, 0), [14153120387629744164, 316912650071648032603005550628, 316912650072157480123050786835, 950737951360158451924033634313, 316912650072441615920585179141, 1267669943041454770167169957928], [(7963, 4), (1833, 96), (7728, 3), (474, 41)])
def lk_4 : dl := ((1, 47, 0), (5960, 4, 0), [316912650071210470761805545508, 316912650071648032603005550628, 316912650072157480123050786835, 950737951360158451924033634313, 316912650072441615920585179141, 1267669943041454770167169957928], [(7963, 4), (1833, 96), (7728, 3), (474, 41)])
set_option maxRecDepth 100000 in
theorem dg_looks : dg 3538847227 = [lk_0, lk_1, lk_2, lk_3, lk_4] := by decide +kernel
end
section
set_option maxRecDepth 100000 in
theorem dz_0_0 : dz lk_0 0 = 6444 := by decide +kernel
set_option maxRecDepth 100000 in
theorem dz_0_1 : dz lk_0 1 = 6444 := by decide +kernel
set_option maxRecDepth 100000 in
theorem dz_0_2 : dz lk_0 2 = 6444 := by decide +kernel
set_option maxRecDepth 100000 in
theorem dz_0_3 : dz lk_0 3 = 6444 := by decide +kernel
set_option maxRecDepth 100000 in
theorem dz_0_4 : dz lk_0 4 = 6444 := by decide +kernel
set_option maxRecDepth 100000 in
theorem dz_0_5 : dz lk_0 5 = 6377 := by decide +kernel
set_option maxRecDepth 100000 in
theorem dz_0_6 : dz lk_0 6 = 6023 := by decide +kernel
set_option maxRecDepth 100000 in
theorem dz_0_7 : dz lk_0 7 = 6023 := by decide +kernel
set_option maxRecDepth 100000 in
theorem dz_0_8 : dz lk_0 8 = 5669 := by decide +kernel
set_option maxRecDepth 100000 in
theorem dz_0_9 : dz lk_0 9 = 5318 := by decide +kernel
end
section
set_option maxRecDepth 100000 in
theorem dz_1_0 : dz lk_1 0 = 6258 := by decide +kernel
set_option maxRecDepth 100000 in
theorem dz_1_1 : dz lk_1 1 = 6258 := by decide +kernel
set_option maxRecDepth 100000 in
theorem dz_1_2 : dz lk_1 2 = 6258 := by decide +kernel
set_option maxRecDepth 100000 in
theorem dz_1_3 : dz lk_1 3 = 6258 := by decide +kernel
set_option maxRecDepth 100000 in
theorem dz_1_4 : dz lk_1 4 = 6258 := by decide +kernel
set_option maxRecDepth 100000 in
theorem dz_1_5 : dz lk_1 5 = 6258 := by decide +kernel
set_option maxRecDepth 100000 in
theorem dz_1_6 : dz lk_1 6 = 6258 := by decide +kernel
set_option maxRecDepth 100000 in
theorem dz_1_7 : dz lk_1 7 = 6258 := by decide +kernel
set_option maxRecDepth 100000 in
theorem dz_1_8 : dz lk_1 8 = 6258 := by decide +kernel
set_option maxRecDepth 100000 in
theorem dz_1_9 : dz lk_1 9 = 6258 := by decide +kernel
end
section
set_option maxRecDepth 100000 in
theorem dz_2_0 : dz lk_2 0 = 7125 := by decide +kernel
set_option maxRecDepth 100000 in
theorem dz_2_1 : dz lk_2 1 = 7125 := by decide +kernel
set_option maxRecDepth 100000 in
theorem dz_2_2 : dz lk_2 2 = 7125 := by decide +kernel
set_option maxRecDepth 100000 in
theorem dz_2_3 : dz lk_2 3 = 7125 := by decide +kernel
set_option maxRecDepth 100000 in
theorem dz_2_4 : dz lk_2 4 = 7125 := by decide +kernel
set_option maxRecDepth 100000 in
theorem dz_2_5 : dz lk_2 5 = 7125 := by decide +kernel
set_option maxRecDepth 100000 in
theorem dz_2_6 : dz lk_2 6 = 7125 := by decide +kernel
set_option maxRecDepth 100000 in
theorem dz_2_7 : dz lk_2 7 = 7125 := by decide +kernel
set_option maxRecDepth 100000 in
theorem dz_2_8 : dz lk_2 8 = 7125 := by decide +kernel
set_option maxRecDepth 100000 in
theorem dz_2_9 : dz lk_2 9 = 7125 := by decide +kernel
end
section
set_option maxRecDepth 100000 in
theorem dz_3_0 : dz lk_3 0 = 5296 := by decide +kernel
set_option maxRecDepth 100000 in
theorem dz_3_1 : dz lk_3 1 = 5296 := by decide +kernel
set_option maxRecDepth 100000 in
theorem dz_3_2 : dz lk_3 2 = 5296 := by decide +kernel
set_option maxRecDepth 100000 in
theorem dz_3_3 : dz lk_3 3 = 5296 := by decide +kernel
set_option maxRecDepth 100000 in
theorem dz_3_4 : dz lk_3 4 = 5296 := by decide +kernel
set_option maxRecDepth 100000 in
theorem dz_3_5 : dz lk_3 5 = 5226 := by decide +kernel
set_option maxRecDepth 100000 in
theorem dz_3_6 : dz lk_3 6 = 4875 := by decide +kernel
set_option maxRecDepth 100000 in
theorem dz_3_7 : dz lk_3 7 = 4875 := by decide +kernel
set_option maxRecDepth 100000 in
theorem dz_3_8 : dz lk_3 8 = 4521 := by decide +kernel
set_option maxRecDepth 100000 in
theorem dz_3_9 : dz lk_3 9 = 4311 := by decide +kernel
end
section
set_option maxRecDepth 100000 in
theorem dz_4_0 : dz lk_4 0 = 4320 := by decide +kernel
set_option maxRecDepth 100000 in
theorem dz_4_1 : dz lk_4 1 = 4320 := by decide +kernel
set_option maxRecDepth 100000 in
theorem dz_4_2 : dz lk_4 2 = 4320 := by decide +kernel
set_option maxRecDepth 100000 in
theorem dz_4_3 : dz lk_4 3 = 4320 := by decide +kernel
set_option maxRecDepth 100000 in
theorem dz_4_4 : dz lk_4 4 = 4320 := by decide +kernel
set_option maxRecDepth 100000 in
theorem dz_4_5 : dz lk_4 5 = 4250 := by decide +kernel
set_option maxRecDepth 100000 in
theorem dz_4_6 : dz lk_4 6 = 3899 := by decide +kernel
set_option maxRecDepth 100000 in
theorem dz_4_7 : dz lk_4 7 = 3899 := by decide +kernel
set_option maxRecDepth 100000 in
theorem dz_4_8 : dz lk_4 8 = 3545 := by decide +kernel
set_option maxRecDepth 100000 in
theorem dz_4_9 : dz lk_4 9 = 3335 := by decide +kernel
end
section
theorem dy_0 : dy lk_0 = 123260 := by
  unfold dy
  rw [show lk_0.1.2.2 = 0 from rfl, dz_0_0, dz_0_1, dz_0_2, dz_0_3, dz_0_4, dz_0_5, dz_0_6, dz_0_7, dz_0_8, dz_0_9]
theorem dy_1 : dy lk_1 = 125160 := by
  unfold dy
  rw [show lk_1.1.2.2 = 0 from rfl, dz_1_0, dz_1_1, dz_1_2, dz_1_3, dz_1_4, dz_1_5, dz_1_6, dz_1_7, dz_1_8, dz_1_9]
theorem dy_2 : dy lk_2 = 142500 := by
  unfold dy
  rw [show lk_2.1.2.2 = 0 from rfl, dz_2_0, dz_2_1, dz_2_2, dz_2_3, dz_2_4, dz_2_5, dz_2_6, dz_2_7, dz_2_8, dz_2_9]
theorem dy_3 : dy lk_3 = 100576 := by
  unfold dy
  rw [show lk_3.1.2.2 = 0 from rfl, dz_3_0, dz_3_1, dz_3_2, dz_3_3, dz_3_4, dz_3_5, dz_3_6, dz_3_7, dz_3_8, dz_3_9]
theorem dy_4 : dy lk_4 = 81056 := by
  unfold dy
  rw [show lk_4.1.2.2 = 0 from rfl, dz_4_0, dz_4_1, dz_4_2, dz_4_3, dz_4_4, dz_4_5, dz_4_6, dz_4_7, dz_4_8, dz_4_9]
/-- the looks ahead of the one capsule that the script [-756120069] draws copy more rows of flags than the statement has cells -/
theorem rm_count : 521680 < ((dg 3538847227).map dy).sum := by
  rw [dg_looks]
  simp only [List.map_cons, List.map_nil, dy_0, dy_1, dy_2, dy_3, dy_4]
  decide
end

/-! THE COUNT. A capsule of the law's own, in plain numbers: x (where it is) leaves no trace in what is made, and is left out.
A chute is one number, its parts to the base 16384: area, lines, strength, ceiling, most, jammed, whether it is the reserve, state, torn lines (the torn lines are the first ones, as a line's strength grows along the row). -/
noncomputable def fc {α : Type} (x : Nat) (k : Nat → α) : α := @Nat.rec (fun _ => α) (k 0) (fun n _ => k (Nat.succ n)) x
def cp (x i : Nat) : Nat := Nat.mod (Nat.div x (Nat.pow 16384 i)) 16384
def ca (x : Nat) : Nat := cp x 0
def cl (x : Nat) : Nat := cp x 1
def cs (x : Nat) : Nat := cp x 2
def cc (x : Nat) : Nat := cp x 3
def cm (x : Nat) : Nat := cp x 4
def cj (x : Nat) : Nat := cp x 5
def cr (x : Nat) : Nat := cp x 6
def ct (x : Nat) : Nat := cp x 7
def cg (x : Nat) : Nat := cp x 8
/-- the same chute with another state and other torn lines -/
def cw (x s g : Nat) : Nat := Nat.add (Nat.mod x (Nat.pow 16384 7)) (Nat.add (Nat.mul s (Nat.pow 16384 7)) (Nat.mul g (Nat.pow 16384 8)))
/-- the first line from t on that holds -/
noncomputable def ch (L s w ld : Nat) (n : Nat) : Nat → Nat := @Nat.rec (fun _ => Nat → Nat) (fun t => t) (fun _ ih t => cond (Nat.ble L t) t (cond (Nat.ble ld (Nat.div (Nat.mul (Nat.add s (Nat.mul 3 t)) w) 1000)) t (fc (Nat.succ t) ih))) n
/-- a load: all, on l lines -/
def co (p sl l : Nat) : Nat := Nat.add (Nat.div (Nat.div (Nat.mul p sl) 100) l) (cond (Nat.ble 1 (Nat.mod (Nat.div (Nat.mul p sl) 100) l)) 1 0)
/-- the tearing of an open chute; n counts the rows of flags that it copies -/
noncomputable def ce {α : Type} (L s w p sl f : Nat) : Nat → Nat → (Nat → Nat → α) → α := @Nat.rec (fun _ => Nat → Nat → (Nat → Nat → α) → α) (fun t n k => k t n) (fun _ ih t n k => cond (Nat.ble L t) (k t n) (fc (co p sl (Nat.sub L t)) fun ld => fc (ch L s w ld 13 t) fun u => fc (Nat.succ n) fun n1 => cond (Nat.beq u t) (k t n1) (ih u n1 k))) f
/-- all chutes, one after the other: their tearing, their brake -/
noncomputable def ck {α : Type} (v a w sl : Nat) (l : List Nat) : Nat → Nat → (List Nat → Nat → Nat → α) → α := @List.rec Nat (fun _ => Nat → Nat → (List Nat → Nat → Nat → α) → α) (fun b n k => k [] b n) (fun x _ ih b n k => cond (Nat.beq (ct x) 1) (fc (Nat.div (Nat.mul (Nat.mul (Nat.mul (ca x) a) v) v) 10000) fun p => fc (cl x) fun L => fc (cs x) fun s => fc (cg x) fun t => ce L s w p sl 14 t n fun u n1 => cond (Nat.ble L u) (fc (cw x 2 u) fun y => ih b n1 fun l1 b1 n2 => k (y :: l1) b1 n2) (fc (cw x 1 u) fun y => fc (Nat.add b p) fun b0 => ih b0 n1 fun l1 b1 n2 => k (y :: l1) b1 n2)) (ih b n fun l1 b1 n2 => k (x :: l1) b1 n2)) l
noncomputable def cf (l : List Nat) : Nat := @List.rec Nat (fun _ => Nat) 0 (fun x _ ih => Nat.add ih (cond (Nat.beq (cr x) 0) (cond (Nat.beq (ct x) 2) 1 (cond (Nat.beq (ct x) 3) 1 0)) 0)) l
/-- the first that may open opens (the reserve stands last) -/
noncomputable def cn {α : Type} (h v F : Nat) (l : List Nat) : (List Nat → α) → α := @List.rec Nat (fun _ => (List Nat → α) → α) (fun k => k []) (fun x xs ih k => cond (cond (Nat.beq (ct x) 0) (cond (Nat.ble h (cc x)) (cond (Nat.beq (cr x) 0) (Nat.ble v (cm x)) (Nat.ble (cm x) F)) false) false) (fc (cw x (cond (Nat.beq (cj x) 0) 1 3) (cg x)) fun y => k (y :: xs)) (ih fun l1 => k (x :: l1))) l
/-- the target at a height, plus one; 0 where there is none -/
noncomputable def cq (h : Nat) (l : List (Nat × Nat)) : Nat → Nat → Nat := @List.rec (Nat × Nat) (fun _ => Nat → Nat → Nat) (fun _ i => i) (fun x _ ih m i => cond (cond (Nat.ble h x.1) (Nat.ble x.1 m) false) (ih x.1 (Nat.succ x.2)) (ih m i)) l
/-- a second; k is told height, speed, heat, chutes and the count -/
noncomputable def cx {α : Type} (ma co1 sl : Nat) (T : List (Nat × Nat)) (h v he : Nat) (l : List Nat) (n : Nat) (k : Nat → Nat → Nat → List Nat → Nat → α) : α :=
  fc (Nat.sub 100 (Nat.div h 400)) fun a => fc (Nat.sub 1000 he) fun w => fc (cq h T 99999 0) fun q =>
  (fun (z : List Nat → α) => cond (cond (Nat.ble 1 q) (Nat.ble q v) false) (fc (cf l) fun F => cn h v F l z) (z l)) fun l0 =>
  ck v a w sl l0 (Nat.div (Nat.mul (Nat.mul (Nat.mul 2 a) v) v) 10000) n fun l1 b n1 =>
  fc (Nat.div b ma) fun sb => fc (cond (Nat.ble (Nat.add (Nat.div v 2) sb) (Nat.add v 10)) (Nat.sub (Nat.add v 10) sb) (Nat.div v 2)) fun v0 => fc (cond (Nat.ble v0 1) 1 v0) fun v1 =>
  fc (Nat.sub (Nat.add he (Nat.div (Nat.mul (Nat.mul v1 v1) a) 100000)) co1) fun e0 => fc (cond (Nat.ble e0 999) e0 999) fun e1 =>
  fc (Nat.sub h v1) fun h1 => k h1 v1 e1 l1 n1
/-- a fall of at most f seconds to the height g, with all that k makes of its end -/
noncomputable def cy {α : Type} (ma co1 sl g : Nat) (T : List (Nat × Nat)) (f : Nat) : Nat → Nat → Nat → List Nat → Nat → (Nat → Nat → Nat → List Nat → Nat → α) → α := @Nat.rec (fun _ => Nat → Nat → Nat → List Nat → Nat → (Nat → Nat → Nat → List Nat → Nat → α) → α) (fun h v he l n k => k h v he l n) (fun _ ih h v he l n k => cond (Nat.ble h g) (k h v he l n) (cx ma co1 sl T h v he l n fun h1 v1 e1 l1 n1 => ih h1 v1 e1 l1 n1 k)) f
/-- the rows of flags that a fall to the ground copies, at a slip whose burden is sl -/
noncomputable def cz (ma co1 sl : Nat) (T : List (Nat × Nat)) (h v he : Nat) (l : List Nat) : Nat := cy ma co1 sl 0 T 3000 h v he l 0 fun _ _ _ _ n => n

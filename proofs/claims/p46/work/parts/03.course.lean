/-! THE COURSE: the draws, the setup and the acts of a capsule, to its looks ahead. -/
/-- a draw below m -/
noncomputable def dr {α : Type} (g m : Nat) (k : Nat → Nat → α) : α := fc (Nat.mod (Nat.add (Nat.mul g 1664525) 1013904223) 4294967296) fun g1 => fc (Nat.mod (Nat.div g1 256) m) fun v => k g1 v
def dp (a li s c m j r : Nat) : Nat := Nat.add a (Nat.mul 16384 (Nat.add li (Nat.mul 16384 (Nat.add s (Nat.mul 16384 (Nat.add c (Nat.mul 16384 (Nat.add m (Nat.mul 16384 (Nat.add j (Nat.mul 16384 r)))))))))))
/-- n chutes more, the first of them the i-th -/
noncomputable def db {α : Type} (la n : Nat) : Nat → Nat → (Nat → List Nat → α) → α := @Nat.rec (fun _ => Nat → Nat → (Nat → List Nat → α) → α) (fun _ g k => k g []) (fun _ ih i g k => dr g 40 fun g a => dr g 12 fun g li => dr g 2 fun g q => dr g (cond (Nat.beq q 0) 60 900) fun g s => dr g 9000 fun g c => cond (Nat.beq i la) (dr g 3 fun g m => fc (dp (Nat.succ a) (Nat.succ li) (Nat.succ s) (Nat.add 200 c) (Nat.succ m) 0 1) fun x => fc (Nat.succ i) fun i1 => ih i1 g fun g l => k g (x :: l)) (dr g 370 fun g m => dr g 5 fun g j => fc (dp (Nat.succ a) (Nat.succ li) (Nat.succ s) (Nat.add 200 c) (Nat.add 30 m) (cond (Nat.beq j 0) 1 0) 0) fun x => fc (Nat.succ i) fun i1 => ih i1 g fun g l => k g (x :: l))) n
noncomputable def di (at1 : Nat) (T : List (Nat × Nat)) : Bool := @List.rec (Nat × Nat) (fun _ => Bool) false (fun x _ ih => cond (Nat.beq x.1 at1) true ih) T
/-- a target is put: its value is changed where its height is there, else it comes behind all others -/
noncomputable def du (at1 v : Nat) (T : List (Nat × Nat)) : List (Nat × Nat) := @List.rec (Nat × Nat) (fun _ => List (Nat × Nat)) [(at1, v)] (fun x xs ih => cond (Nat.beq x.1 at1) ((x.1, v) :: xs) (x :: ih)) T
noncomputable def dt {α : Type} (n : Nat) : Nat → List (Nat × Nat) → (Nat → List (Nat × Nat) → α) → α := @Nat.rec (fun _ => Nat → List (Nat × Nat) → (Nat → List (Nat × Nat) → α) → α) (fun g T k => k g T) (fun _ ih g T k => dr g 9000 fun g a => dr g 200 fun g v => fc (Nat.succ a) fun a1 => fc (Nat.succ v) fun v1 => cond (di a1 T) (ih g T k) (ih g (du a1 v1 T) k)) n
/-- the winds' and the spots' draws -/
noncomputable def dw {α : Type} (n : Nat) : Nat → (Nat → α) → α := @Nat.rec (fun _ => Nat → (Nat → α) → α) (fun g k => k g) (fun _ ih g k => dr g 5000 fun g _ => dr g 81 fun g _ => ih g k) n
noncomputable def ds {α : Type} (n : Nat) : Nat → (Nat → α) → α := @Nat.rec (fun _ => Nat → (Nat → α) → α) (fun g k => k g) (fun _ ih g k => dr g 400 fun g _ => dr g 100 fun g _ => dr g 99 fun g _ => ih g k) n
/-- the i-th chute is seen by f: another chute, or none where it stays -/
noncomputable def dv {α : Type} (f : Nat → Option Nat) (l : List Nat) : Nat → (List Nat → α) → α := @List.rec Nat (fun _ => Nat → (List Nat → α) → α) (fun _ k => k []) (fun x xs ih i k => @Nat.rec (fun _ => α) (@Option.rec Nat (fun _ => α) (k (x :: xs)) (fun y => fc y fun y => k (y :: xs)) (f x)) (fun j _ => ih j fun l1 => k (x :: l1)) i) l
noncomputable def dm (h v : Nat) (l : List Nat) : Bool := @List.rec Nat (fun _ => Bool) false (fun x _ ih => cond (cond (Nat.beq (cr x) 0) (cond (Nat.beq (ct x) 0) (cond (Nat.ble h (cc x)) (Nat.ble v (cm x)) false) false) false) true ih) l
noncomputable def dq (l : List Nat) : Nat := @List.rec Nat (fun _ => Nat) 0 (fun x _ ih => Nat.add ih (cond (Nat.beq (ct x) 1) 1 0)) l
def do1 (x : Nat) : Nat := cw x (cond (Nat.beq (cj x) 0) 1 3) (cg x)
/-- an act; la layers, mn chutes, sp the slip without its sign -/
noncomputable def da {α : Type} (ma co1 la mn g h v he sp : Nat) (l : List Nat) (T : List (Nat × Nat)) (k : Nat → Nat → Nat → Nat → Nat → List Nat → List (Nat × Nat) → α) : α :=
  (fun (z : Nat → Nat → α) => cond (Nat.beq la 0) (z g 0) (dr g la z)) fun g i => dr g 11 fun g d =>
  cond (Nat.ble d 2) (dr g 9 fun g n => cy ma co1 (Nat.add 100 (Nat.mul 5 sp)) 0 T (Nat.succ n) h v he l 0 fun h v he l _ => k g h v he sp l T) <|
  cond (Nat.beq d 3) (dr g 700 fun g q => fc (Nat.sub h q) fun g1 => cy ma co1 (Nat.add 100 (Nat.mul 5 sp)) g1 T 3000 h v he l 0 fun h v he l _ => k g h v he sp l T) <|
  cond (Nat.beq d 4) (cond (Nat.beq la 0) (k g h v he sp l T) (dv (fun x => cond (cond (Nat.beq h 0) false (cond (Nat.beq (ct x) 0) (cond (Nat.ble h (cc x)) (Nat.ble v (cm x)) false) false)) (some (do1 x)) none) l i fun l => k g h v he sp l T)) <|
  cond (Nat.beq d 5) (cond (Nat.beq la mn) (k g h v he sp l T) (dv (fun x => cond (cond (Nat.beq h 0) false (cond (Nat.beq (ct x) 0) (cond (Nat.ble h (cc x)) (cond (Nat.ble (cm x) (cf l)) (cond (dm h v l) false true) false) false) false)) (some (do1 x)) none) l la fun l => k g h v he sp l T)) <|
  cond (Nat.beq d 6) (cond (Nat.beq mn 0) (k g h v he sp l T) (dr g mn fun g j => dv (fun x => cond (cond (Nat.beq h 0) false (Nat.beq (ct x) 1)) (some (cw x 4 (cg x))) none) l j fun l => k g h v he sp l T)) <|
  cond (Nat.beq d 7) (dr g 19 fun g q => cond (cond (Nat.beq h 0) true (Nat.beq (dq l) 0)) (k g h v he sp l T) (fc (cond (Nat.ble 9 q) (Nat.sub q 9) (Nat.sub 9 q)) fun s => k g h v he s l T)) <|
  cond (Nat.beq d 8) (dr g 9000 fun g a => dr g 200 fun g w => dr g 3 fun g r => fc (Nat.succ w) fun w1 => fc (cond (Nat.beq r 0) (@List.rec (Nat × Nat) (fun _ => Nat) (Nat.succ a) (fun x _ _ => x.1) T) (Nat.succ a)) fun a1 => cond (cond (di a1 T) false (Nat.beq T.length 8)) (k g h v he sp l T) (k g h v he sp l (du a1 w1 T))) <|
  cond (Nat.beq d 9) (cond (Nat.beq la 0) (k g h v he sp l T) (dr g 2 fun g q => dv (fun x => cond (Nat.beq (ct x) 0) (some (Nat.add (Nat.sub x (Nat.mul (cj x) (Nat.pow 16384 5))) (Nat.mul (cond (Nat.beq q 0) 1 0) (Nat.pow 16384 5)))) none) l i fun l => k g h v he sp l T)) <|
  dr g 5 fun g n => cy ma co1 (Nat.add 100 (Nat.mul 5 sp)) 0 T (Nat.succ (Nat.succ n)) h v he l 0 fun h v he l _ => k g h v he sp l T
/-- a look: mass, cooling, the slip without its sign, height, speed, heat, chutes, targets -/
abbrev dl := (Nat × Nat × Nat) × (Nat × Nat × Nat) × List Nat × List (Nat × Nat)
noncomputable def dc (ma co1 la mn ns n : Nat) : Nat → Nat → Nat → Nat → Nat → Nat → List Nat → List (Nat × Nat) → List dl := @Nat.rec (fun _ => Nat → Nat → Nat → Nat → Nat → Nat → List Nat → List (Nat × Nat) → List dl) (fun _ _ _ _ _ _ _ _ => []) (fun _ ih i g h v he sp l T => da ma co1 la mn g h v he sp l T fun g h v he sp l T => fc (Nat.succ i) fun i1 => cond (Nat.beq (Nat.mod i 5) 0) (((ma, co1, sp), (h, v, he), l, T) :: cond (Nat.beq ns 0) (ih i1 g h v he sp l T) (dr g ns fun g _ => ih i1 g h v he sp l T)) (ih i1 g h v he sp l T)) n
/-- the looks of the capsule that an int (as 32 bits) draws -/
noncomputable def dg (g : Nat) : List dl :=
  dr g 8000 fun g h => dr g 400 fun g v => dr g 60 fun g ma => dr g 60 fun g co1 => dr g 6 fun g la => dr g 3 fun g r => fc (Nat.add la (cond (Nat.beq r 0) 0 1)) fun mn => db la mn 0 g fun g l => dr g 4 fun g nt => dt nt g [] fun g T => dr g 3 fun g nw => dw nw g fun g => dr g 4 fun g ns => ds ns g fun g => fc (Nat.add 500 h) fun h => fc (Nat.succ ma) fun ma => dc ma co1 la mn ns 22 0 g h v 0 0 l T
/-- what the twenty falls of a look copy: one at its own slip, nineteen at -9 to 9 -/
noncomputable def dz (x : dl) (k : Nat) : Nat := cz x.1.1 x.1.2.1 (Nat.add 100 (Nat.mul 5 k)) x.2.2.2 x.2.1.1 x.2.1.2.1 x.2.1.2.2 x.2.2.1
noncomputable def dy (x : dl) : Nat := dz x x.1.2.2 + dz x 0 + 2 * (dz x 1 + dz x 2 + dz x 3 + dz x 4 + dz x 5 + dz x 6 + dz x 7 + dz x 8 + dz x 9)
def lk_0 : dl := ((1, 47, 0), (7479, 15, 0), [1194744741105041047588, 14590682228829749284, 15100129748874985491, 8394780084094926857, 15384265546409377797, 19342813225368670466752552], [(7963, 33), (1833, 96), (7728, 3)])
def lk_1 : dl := ((1, 47, 0), (7479, 15, 0), [1194744741105041047588, 14590682228829749284, 15100129748874985491, 1188986400801506230281, 15384265546409377797, 19342813225368670466752552], [(7963, 4), (1833, 96), (7728, 3), (474, 41)])
def lk_2 : dl := ((1, 47, 0), (7207, 3, 0), [14153120387629744164, 316912650071648032603005550628, 316912650072157480123050786835, 950737951360158451924033634313, 316912650072441615920585179141, 316931992870282719044642553896], [(7963, 4), (1833, 96), (7728, 3), (474, 41)])
def lk_3 : dl := ((1, 47, 0), (7092, 4, 0), [14153120387629744164, 316912650071648032603005550628, 316912650072157480123050786835, 950737951360158451924033634313, 316912650072441615920585179141, 1267669943041454770167169957928], [(7963, 4), (1833, 96), (7728, 3), (474, 41)])
def lk_4 : dl := ((1, 47, 0), (5960, 4, 0), [316912650071210470761805545508, 316912650071648032603005550628, 316912650072157480123050786835, 950737951360158451924033634313, 316912650072441615920585179141, 1267669943041454770167169957928], [(7963, 4), (1833, 96), (7728, 3), (474, 41)])
set_option maxRecDepth 100000 in
theorem dg_looks : dg 3538847227 = [lk_0, lk_1, lk_2, lk_3, lk_4] := by decide +kernel

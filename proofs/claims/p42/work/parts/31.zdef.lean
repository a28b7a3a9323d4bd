/-! ===== an evaluator of the bytecode over symbols with bounds; cells have tags =====
a code (k, s, b): k 0: the int of symbol s, b - 2^31 more (symbol 0 is the int 0); k 1: the ref of symbol s (or null), to a cell of tag b; k 2, b 0: null; k 2, b + 1: an int that is 0 just if the long of symbol s is the long constant b; k 3: the long of symbol s (s > 0), or the long constant b (s = 0); k 4: the text constant b; k 9: nothing known
numbers are taken 2^31 higher than they are -/
abbrev z_C : Type := Nat × Nat × Nat
/-- what a cell holds: symbol of the ref, its tag, the place, the value -/
abbrev z_A : Type := Nat × Nat × z_C × z_C
/-- an int read at a place of an array of a tag -/
abbrev z_B : Type := Nat × Nat × z_C
/-- how many symbols, their lower and upper bounds (of a ref: lower bound 1: not null), facts, dependents, Sands made -/
abbrev z_V : Type := Nat × Nat × Nat × List z_A × List z_B × Nat
/-- an end: pc, symbols, locals, stack -/
abbrev z_O : Type := Nat × z_V × List z_C × List z_C
/-- kind (0 object; 1 int, 3 byte, 5 boolean, 7 long, 9 Sand array), class or length, fields or segments, period, 1: dependents are noted, 2: facts at any place -/
abbrev z_T : Type := Nat × Nat × List z_C × Nat × Nat
/-- a loop: method and pc, locals in bounds, long locals, dead locals, facts that go, facts in bounds, facts that are a local's, the measure -/
abbrev z_N : Type := Nat × Nat × List z_C × List Nat × List Nat × List z_C × List (Nat × Nat × Nat × Nat) × List z_C × List (Nat × Nat)
/-- a contract: method, args, facts that it wants, what it writes, Sands made, depth, is there an answer, answers, facts behind it -/
abbrev z_M : Type := Nat × List z_C × List (Nat × Nat × z_C) × List z_C × Nat × Nat × Bool × List z_C × List (Nat × Nat × z_C)
/-- a loop that is being gone through: method's pc, symbols before, bounds of the new ones, where they come from, locals, facts, Sands made, the measure -/
abbrev z_X : Type := Nat × Nat × List z_C × List (Nat × Nat × Nat × z_C) × List z_C × List z_A × Nat × List (Nat × Nat)
def z_max (a b : Nat) : Nat := bif Nat.ble a b then b else a
def z_min (a b : Nat) : Nat := bif Nat.ble a b then a else b
def z_ceq (a b : z_C) : Bool := Nat.beq a.1 b.1 && (Nat.beq a.2.1 b.2.1 && Nat.beq a.2.2 b.2.2)
def z_il (v : z_V) (c : z_C) : Nat := Nat.sub (Nat.add (q_get v.2.1 c.2.1) c.2.2) 2147483648
def z_ih (v : z_V) (c : z_C) : Nat := Nat.sub (Nat.add (q_get v.2.2.1 c.2.1) c.2.2) 2147483648
def z_nn (v : z_V) (c : z_C) : Bool := Nat.beq c.1 1 && Nat.beq (q_get v.2.1 c.2.1) 1
def z_push (v : z_V) (a b : Nat) : z_V := (Nat.succ v.1, q_set v.2.1 v.1 a, q_set v.2.2.1 v.1 b, v.2.2.2)
noncomputable def z_frv {α : Type} (v : z_V) (k : z_V → α) : α := q_fr v.1 (fun n => q_fr v.2.1 (fun lo => q_fr v.2.2.1 (fun hi => k (n, lo, hi, v.2.2.2))))
/-- an int between bounds -/
noncomputable def z_fi {α : Type} (v : z_V) (lo hi : Nat) (k : z_V → z_C → Option α) : Option α := bif Nat.beq lo hi then q_fr lo (fun l => k v (0, 0, l)) else bif Nat.ble lo 4294967295 && Nat.ble hi 4294967295 then q_fr lo (fun l => q_fr hi (fun h => z_frv (z_push v l h) (fun w => k w (0, v.1, 2147483648)))) else none
/-- what a type gives -/
noncomputable def z_ld {α : Type} (v : z_V) (t : z_C) (k : z_V → z_C → Option α) : Option α := bif Nat.beq t.1 0 then z_fi v t.2.1 t.2.2 k else bif Nat.beq t.1 1 then z_frv (z_push v 1 0) (fun w => k w (1, v.1, t.2.1)) else bif Nat.beq t.1 2 then z_frv (z_push v 0 0) (fun w => k w (1, v.1, t.2.1)) else bif Nat.beq t.1 3 then z_frv (z_push v 0 0) (fun w => k w (3, v.1, 0)) else none
/-- is a code of a type -/
def z_fit (v : z_V) (t c : z_C) : Bool := bif Nat.beq t.1 0 then Nat.beq c.1 0 && (Nat.ble t.2.1 (z_il v c) && Nat.ble (z_ih v c) t.2.2) else bif Nat.beq t.1 1 then z_nn v c && Nat.beq c.2.2 t.2.1 else bif Nat.beq t.1 2 then (Nat.beq c.1 1 && Nat.beq c.2.2 t.2.1) || (Nat.beq c.1 2 && Nat.beq c.2.2 0) else bif Nat.beq t.1 3 then Nat.beq c.1 3 else false
/-- a code's int between bounds -/
noncomputable def z_rf (v : z_V) (c : z_C) (lo hi : Nat) : Option z_V := bif Nat.beq c.2.1 0 then (bif Nat.ble lo c.2.2 && Nat.ble c.2.2 hi then some v else none) else q_fr (z_max (q_get v.2.1 c.2.1) (z_min (Nat.sub (Nat.add lo 2147483648) c.2.2) 17179869183)) (fun a => q_fr (z_min (q_get v.2.2.1 c.2.1) (Nat.sub (Nat.add hi 2147483648) c.2.2)) (fun b => bif Nat.ble a b then q_fr (q_set v.2.1 c.2.1 a) (fun l => q_fr (q_set v.2.2.1 c.2.1 b) (fun h => some (v.1, l, h, v.2.2.2))) else none))
noncomputable def z_rf2 (v : z_V) (c : z_C) (lo hi : Nat) (e : z_C) (lo2 hi2 : Nat) : Option z_V := match z_rf v c lo hi with
  | none => none
  | some w => z_rf w e lo2 hi2
/-- a is below b -/
noncomputable def z_lt (v : z_V) (a b : z_C) : Option z_V := bif Nat.beq a.2.1 b.2.1 then (bif Nat.blt a.2.2 b.2.2 then some v else none) else z_rf2 v a 0 (Nat.sub (z_ih v b) 1) b (Nat.succ (z_il v a)) 4294967295
noncomputable def z_ge (v : z_V) (a b : z_C) : Option z_V := bif Nat.beq a.2.1 b.2.1 then (bif Nat.ble b.2.2 a.2.2 then some v else none) else z_rf2 v a (z_il v b) 4294967295 b 0 (z_ih v a)
noncomputable def z_eq (v : z_V) (a b : z_C) : Option z_V := bif Nat.beq a.2.1 b.2.1 then (bif Nat.beq a.2.2 b.2.2 then some v else none) else z_rf2 v a (z_il v b) (z_ih v b) b (z_il v a) (z_ih v a)
/-- a is not c, which is told -/
noncomputable def z_ne1 (v : z_V) (a : z_C) (c : Nat) : Option z_V := bif Nat.beq (z_il v a) c then (bif Nat.beq (z_ih v a) c then none else z_rf v a (Nat.succ c) 4294967295) else bif Nat.beq (z_ih v a) c then z_rf v a 0 (Nat.sub c 1) else some v
noncomputable def z_ne (v : z_V) (a b : z_C) : Option z_V := bif Nat.beq a.2.1 b.2.1 then (bif Nat.beq a.2.2 b.2.2 then none else some v) else bif Nat.beq b.2.1 0 then z_ne1 v a b.2.2 else bif Nat.beq a.2.1 0 then z_ne1 v b a.2.2 else some v
noncomputable def z_opl {α : Type} (o : Option α) : List α := match o with
  | none => []
  | some x => [x]
/-- the symbols where a comparison holds: none, one, or two lots -/
noncomputable def z_cs (v : z_V) (c : ClassFile.Cond) (a b : z_C) : List z_V := match c with
  | .lt => z_opl (z_lt v a b)
  | .ge => z_opl (z_ge v a b)
  | .gt => z_opl (z_lt v b a)
  | .le => z_opl (z_ge v b a)
  | .eq => z_opl (z_eq v a b)
  | .ne => bif z_ceq b (0, 0, 2147483648) && (Nat.blt (z_il v a) 2147483648 && Nat.blt 2147483648 (z_ih v a)) then z_opl (z_lt v a b) ++ z_opl (z_lt v b a) else z_opl (z_ne v a b)
def z_ng (c : ClassFile.Cond) : ClassFile.Cond := match c with
  | .lt => .ge
  | .ge => .lt
  | .gt => .le
  | .le => .gt
  | .eq => .ne
  | .ne => .eq
/-- the fact at a place -/
noncomputable def z_fg (fs : List z_A) (s : Nat) (ic : z_C) : Option z_C := List.rec none (fun f _ ih => bif Nat.beq f.1 s && z_ceq f.2.2.1 ic then some f.2.2.2 else ih) fs
noncomputable def z_flt {α : Type} (p : α → Bool) (l : List α) : List α := List.rec [] (fun a _ ih => bif p a then a :: ih else ih) l
noncomputable def z_any {α : Type} (p : α → Bool) (l : List α) : Bool := List.rec false (fun a _ ih => bif p a then true else ih) l
noncomputable def z_all {α : Type} (p : α → Bool) (l : List α) : Bool := List.rec true (fun a _ ih => bif p a then ih else false) l
/-- a write of c at place ic (between lo and hi) of a cell of tag t: which facts stay -/
def z_kp (v : z_V) (t : Nat) (ic : z_C) (lo hi : Nat) (c : z_C) (f : z_A) : Bool := bif Nat.beq f.2.1 t then z_ceq f.2.2.2 c || ((Nat.beq f.2.2.1.2.1 ic.2.1 && not (Nat.beq f.2.2.1.2.2 ic.2.2)) || (Nat.blt (z_ih v f.2.2.1) lo || Nat.blt hi (z_il v f.2.2.1))) else true
/-- writes between lo and hi of cells of tag t -/
def z_kq (v : z_V) (k : z_C) (f : z_A) : Bool := bif Nat.beq f.2.1 k.1 then Nat.blt (z_ih v f.2.2.1) k.2.1 || Nat.blt k.2.2 (z_il v f.2.2.1) else true
noncomputable def z_kw (kw : List z_C) (t lo hi : Nat) : Bool := z_any (fun e => Nat.beq e.1 t && (Nat.ble e.2.1 lo && Nat.ble hi e.2.2)) kw
/-- the segment of a place; bounds of those between a and b: widest, narrowest -/
noncomputable def z_el (fl : List z_C) : Nat → Nat × Nat := List.rec (fun _ => (0, 4294967295)) (fun s _ ih j => bif Nat.blt j s.1 then s.2 else ih j) fl
noncomputable def z_hu (fl : List z_C) : Nat → Nat → Nat × Nat := List.rec (fun _ _ => (0, 4294967295)) (fun s _ ih a b => bif Nat.ble s.1 a then ih a b else bif Nat.blt b s.1 then s.2 else (fun r : Nat × Nat => (z_min s.2.1 r.1, z_max s.2.2 r.2)) (ih s.1 b)) fl
noncomputable def z_na (fl : List z_C) : Nat → Nat → Nat × Nat := List.rec (fun _ _ => (0, 4294967295)) (fun s _ ih a b => bif Nat.ble s.1 a then ih a b else bif Nat.blt b s.1 then s.2 else (fun r : Nat × Nat => (z_max s.2.1 r.1, z_min s.2.2 r.2)) (ih s.1 b)) fl
noncomputable def z_rng {α : Type} (per a b : Nat) (k : Nat → Nat → α) : α := bif Nat.beq (Nat.div a per) (Nat.div b per) then q_fr (Nat.mod a per) (fun x => q_fr (Nat.mod b per) (fun y => k x y)) else q_fr (Nat.sub per 1) (fun y => k 0 y)
noncomputable def z_leq (a : List z_C) : List z_C → Bool := List.rec (fun b => match b with
  | [] => true
  | _ => false) (fun x _ ih b => match b with
  | [] => false
  | y :: t => z_ceq x y && ih t) a
def z_addF (v : z_V) (f : z_A) : z_V := (v.1, v.2.1, v.2.2.1, f :: v.2.2.2.1, v.2.2.2.2)
def z_setF (v : z_V) (fs : List z_A) : z_V := (v.1, v.2.1, v.2.2.1, fs, v.2.2.2.2)
def z_addD (v : z_V) (d : z_B) : z_V := (v.1, v.2.1, v.2.2.1, v.2.2.2.1, d :: v.2.2.2.2.1, v.2.2.2.2.2)
def z_addM (v : z_V) (a : Nat) : z_V := (v.1, v.2.1, v.2.2.1, v.2.2.2.1, v.2.2.2.2.1, Nat.add v.2.2.2.2.2 a)
def z_setM (v : z_V) (a : Nat) : z_V := (v.1, v.2.1, v.2.2.1, v.2.2.2.1, v.2.2.2.2.1, a)
def z_kc (k : Nat) : z_C := (0, 0, Nat.add 2147483648 k)
/-! arithmetic -/
noncomputable def z_an {α : Type} (v : z_V) (k : z_V → z_C → Option α) : Option α := z_fi v 0 4294967295 k
noncomputable def z_oadd {α : Type} (v : z_V) (a b : z_C) (k : z_V → z_C → Option α) : Option α := bif Nat.ble 2147483648 (Nat.add (z_il v a) (z_il v b)) && Nat.blt (Nat.add (z_ih v a) (z_ih v b)) 6442450944 then (bif Nat.ble 2147483648 (Nat.add a.2.2 b.2.2) && (Nat.beq a.2.1 0 || Nat.beq b.2.1 0) then q_fr (Nat.sub (Nat.add a.2.2 b.2.2) 2147483648) (fun o => k v (0, Nat.add a.2.1 b.2.1, o)) else z_fi v (Nat.sub (Nat.add (z_il v a) (z_il v b)) 2147483648) (Nat.sub (Nat.add (z_ih v a) (z_ih v b)) 2147483648) k) else z_an v k
noncomputable def z_osub {α : Type} (v : z_V) (a b : z_C) (k : z_V → z_C → Option α) : Option α := bif Nat.ble (z_ih v b) (Nat.add (z_il v a) 2147483648) && Nat.blt (Nat.add (z_ih v a) 2147483648) (Nat.add (z_il v b) 4294967296) then (bif Nat.ble b.2.2 (Nat.add a.2.2 2147483648) && Nat.beq b.2.1 0 then q_fr (Nat.sub (Nat.add a.2.2 2147483648) b.2.2) (fun o => k v (0, a.2.1, o)) else z_fi v (Nat.sub (Nat.add (z_il v a) 2147483648) (z_ih v b)) (Nat.sub (Nat.add (z_ih v a) 2147483648) (z_il v b)) k) else z_an v k
def z_po (v : z_V) (a : z_C) : Bool := Nat.ble 2147483648 (z_il v a)
def z_ul (v : z_V) (a : z_C) : Nat := Nat.sub (z_il v a) 2147483648
def z_uh (v : z_V) (a : z_C) : Nat := Nat.sub (z_ih v a) 2147483648
noncomputable def z_omul {α : Type} (v : z_V) (a b : z_C) (k : z_V → z_C → Option α) : Option α := bif z_po v a && (z_po v b && Nat.blt (Nat.mul (z_uh v a) (z_uh v b)) 2147483648) then z_fi v (Nat.add 2147483648 (Nat.mul (z_ul v a) (z_ul v b))) (Nat.add 2147483648 (Nat.mul (z_uh v a) (z_uh v b))) k else z_an v k
noncomputable def z_oand {α : Type} (v : z_V) (a b : z_C) (k : z_V → z_C → Option α) : Option α := bif z_po v a then z_fi v 2147483648 (bif z_po v b then z_min (z_ih v a) (z_ih v b) else z_ih v a) k else bif z_po v b then z_fi v 2147483648 (z_ih v b) k else z_an v k
noncomputable def z_oor {α : Type} (v : z_V) (a b : z_C) (k : z_V → z_C → Option α) : Option α := bif z_po v a && z_po v b then z_fi v 2147483648 4294967295 k else z_an v k
noncomputable def z_odiv {α : Type} (v : z_V) (a b : z_C) (k : z_V → z_C → Option α) : Option α := bif Nat.blt 2147483648 (z_il v b) then (bif z_po v a then z_fi v (Nat.add 2147483648 (Nat.div (z_ul v a) (z_uh v b))) (Nat.add 2147483648 (Nat.div (z_uh v a) (z_ul v b))) k else z_an v k) else bif Nat.blt (z_ih v b) 2147483648 then z_an v k else none
noncomputable def z_orem {α : Type} (v : z_V) (a b : z_C) (k : z_V → z_C → Option α) : Option α := bif Nat.blt 2147483648 (z_il v b) then (bif z_po v a then z_fi v 2147483648 (z_min (z_ih v a) (Nat.sub (z_ih v b) 1)) k else z_fi v (Nat.sub 4294967297 (z_ih v b)) (Nat.sub (z_ih v b) 1) k) else bif Nat.blt (z_ih v b) 2147483648 then z_an v k else none
noncomputable def z_oshl {α : Type} (v : z_V) (a b : z_C) (k : z_V → z_C → Option α) : Option α := bif z_ceq a (0, 0, 2147483649) && (z_po v b && Nat.ble (z_ih v b) 2147483678) then z_fi v (Nat.add 2147483648 (Nat.pow 2 (z_ul v b))) (Nat.add 2147483648 (Nat.pow 2 (z_uh v b))) k else z_an v k
noncomputable def z_oshr {α : Type} (v : z_V) (a : z_C) (k : z_V → z_C → Option α) : Option α := bif z_po v a then z_fi v 2147483648 (z_ih v a) k else z_an v k
noncomputable def z_oneg {α : Type} (v : z_V) (a : z_C) (k : z_V → z_C → Option α) : Option α := bif Nat.ble 1 (z_il v a) then z_fi v (Nat.sub 4294967296 (z_ih v a)) (Nat.sub 4294967296 (z_il v a)) k else z_an v k
/-! ends -/
def z_app (a b : Option (List z_O)) : Option (List z_O) := match a with
  | none => none
  | some x => (match b with
    | none => none
    | some y => some (x ++ y))
noncomputable def z_fold {α : Type} (l : List α) (f : α → Option (List z_O)) : Option (List z_O) := List.rec (some []) (fun a _ acc => z_app (f a) acc) l
abbrev z_F : Type := Nat × Nat → Nat → List q_I → List q_I → z_V → List z_C → List z_C → List Nat → List z_X → Option (List z_O)
noncomputable def z_nth (l : List z_C) (k : Nat) : z_C := q_nth l (9, 0, 0) k
noncomputable def z_lset (l : List z_C) : Nat → z_C → List z_C := List.rec (fun _ _ => []) (fun a t ih k c => Nat.rec (c :: t) (fun k' _ => a :: ih k' c) k) l
/-- a local is stored: a long that lies over its slot is gone -/
noncomputable def z_st1 (L : List z_C) (x : Nat) (c : z_C) : List z_C := Nat.rec (z_lset L 0 c) (fun y _ => bif Nat.beq (z_nth L y).1 3 then z_lset (z_lset L y (9, 0, 0)) (Nat.succ y) c else z_lset L (Nat.succ y) c) x
noncomputable def z_st2 (L : List z_C) (x : Nat) (c : z_C) : List z_C := z_lset (z_st1 L x c) (Nat.succ x) (9, 0, 0)
/-- slots of the args -/
noncomputable def z_sl (as : List z_C) : List z_C := List.rec [] (fun c _ ih => bif Nat.beq c.1 3 then c :: (9, 0, 0) :: ih else c :: ih) as
noncomputable def z_pad (n : Nat) (l : List z_C) : List z_C := l ++ List.replicate (Nat.sub n (q_len l)) (9, 0, 0)
noncomputable def z_pp (n : Nat) : List z_C → List z_C → Option (List z_C × List z_C) := Nat.rec (fun s acc => some (acc, s)) (fun _ ih s acc => match s with
  | [] => none
  | a :: r => ih r (a :: acc)) n
/-- words of the stack -/
noncomputable def z_cats (st : List z_C) : Nat := List.rec 0 (fun c _ ih => Nat.add (bif Nat.beq c.1 3 then 2 else 1) ih) st
/-! loops -/
noncomputable def z_find {α : Type} (p : α → Bool) (l : List α) : Option α := List.rec none (fun a _ ih => bif p a then some a else ih) l
noncomputable def z_map {α β : Type} (f : α → β) (l : List α) : List β := List.rec [] (fun a _ ih => f a :: ih) l
/-- where the new symbols come from, and their types -/
noncomputable def z_sF (fs : List z_A) (gs : List (Nat × Nat × Nat × Nat)) : Option (List (Nat × Nat × Nat × z_C) × List z_C) := List.rec (some ([], [])) (fun g _ ih => match ih with
  | none => none
  | some (a, b) => (match z_find (fun f : z_A => Nat.beq f.2.1 g.1 && z_ceq f.2.2.1 (z_kc g.2.1)) fs with
    | none => none
    | some f => some ((1, f.1, f.2.1, f.2.2.1) :: a, (0, g.2.2.1, g.2.2.2) :: b))) gs
/-- the new symbol that comes from a local, or from a fact -/
noncomputable def z_qL (src : List (Nat × Nat × Nat × z_C)) (j : Nat) : Nat → Option (Nat × Nat) := List.rec (fun _ => none) (fun s _ ih q => bif (Nat.beq s.1 0 || Nat.beq s.1 2) && Nat.beq s.2.1 j then some (s.1, q) else ih (Nat.succ q)) src
noncomputable def z_qF (src : List (Nat × Nat × Nat × z_C)) (f : z_A) : Nat → Option Nat := List.rec (fun _ => none) (fun s _ ih q => bif Nat.beq s.1 1 && (Nat.beq s.2.1 f.1 && z_ceq s.2.2.2 f.2.2.1) then some q else ih (Nat.succ q)) src
noncomputable def z_nC (src : List (Nat × Nat × Nat × z_C)) (n j : Nat) (c : z_C) : z_C := match z_qL src j n with
  | none => c
  | some (k, q) => bif Nat.beq k 0 then (0, q, 2147483648) else (3, q, 0)
noncomputable def z_tL (src : List (Nat × Nat × Nat × z_C)) (n : Nat) (dead : List Nat) (L : List z_C) : Nat → List z_C := List.rec (fun _ => []) (fun c _ ih j => (bif z_any (fun d => Nat.beq d j) dead then (9, 0, 0) else z_nC src n j c) :: ih (Nat.succ j)) L
/-- does a fact go -/
noncomputable def z_gone (gs : List z_C) (f : z_A) : Bool := z_any (fun g => Nat.beq g.1 f.2.1 && (not (Nat.beq f.2.2.1.2.1 0) || (Nat.ble g.2.1 f.2.2.1.2.2 && Nat.ble f.2.2.1.2.2 g.2.2))) gs
noncomputable def z_tF1 (src : List (Nat × Nat × Nat × z_C)) (n : Nat) (sh : List z_C) (f : z_A) : z_A := match z_qF src f n with
  | some q => (f.1, f.2.1, f.2.2.1, (0, q, 2147483648))
  | none => (match z_find (fun s : z_C => Nat.beq s.1 f.2.1 && z_ceq f.2.2.1 (z_kc s.2.1)) sh with
    | some s => (f.1, f.2.1, f.2.2.1, z_nC src n s.2.2 f.2.2.2)
    | none => f)
noncomputable def z_tF (src : List (Nat × Nat × Nat × z_C)) (n : Nat) (gs sh : List z_C) (fs : List z_A) : List z_A := List.rec [] (fun f _ ih => bif z_gone gs f then ih else z_tF1 src n sh f :: ih) fs
noncomputable def z_pT (ts : List z_C) : z_V → z_V := List.rec (fun v => v) (fun t _ ih v => ih (z_push v (bif Nat.beq t.1 0 then t.2.1 else 0) (bif Nat.beq t.1 0 then t.2.2 else 0))) ts
/-- the code that a new symbol comes from, here -/
noncomputable def z_src (v : z_V) (L : List z_C) (s : Nat × Nat × Nat × z_C) : z_C := bif Nat.beq s.1 1 then (match z_fg v.2.2.2.1 s.2.1 s.2.2.2 with
  | some c => c
  | none => (9, 0, 0)) else z_nth L s.2.1
/-- a code of the template, here -/
noncomputable def z_sb (n m : Nat) (th : List z_C) (c : z_C) : z_C := bif Nat.blt c.2.1 n then c else bif Nat.blt c.2.1 (Nat.add n m) && (z_ceq c (0, c.2.1, 2147483648) || z_ceq c (3, c.2.1, 0)) then (fun e : z_C => bif Nat.beq e.1 c.1 then e else (8, 0, 0)) (z_nth th (Nat.sub c.2.1 n)) else (8, 0, 0)
noncomputable def z_fits (v : z_V) (ts : List z_C) : List z_C → Bool := List.rec (fun cs => match cs with
  | [] => true
  | _ => false) (fun t _ ih cs => match cs with
  | [] => false
  | c :: r => (Nat.beq t.1 0 || Nat.beq t.1 3) && (Nat.ble t.2.2 4294967295 && (z_fit v t c && ih r))) ts
noncomputable def z_mL (n m : Nat) (th : List z_C) (T : List z_C) : List z_C → Bool := List.rec (fun L => match L with
  | [] => true
  | _ => false) (fun c _ ih L => match L with
  | [] => false
  | d :: r => (Nat.beq c.1 9 || z_ceq (z_sb n m th c) d) && ih r) T
noncomputable def z_mF (v : z_V) (n m : Nat) (th : List z_C) (T : List z_A) : Bool := z_all (fun f => Nat.blt f.1 n && (Nat.blt f.2.2.1.2.1 n && z_any (fun g : z_A => Nat.beq g.1 f.1 && (Nat.beq g.2.1 f.2.1 && (z_ceq g.2.2.1 f.2.2.1 && z_ceq g.2.2.2 (z_sb n m th f.2.2.2)))) v.2.2.2.1)) T
noncomputable def z_th (X : z_X) (v : z_V) (L : List z_C) : List z_C := z_map (fun s => z_src v L s) X.2.2.2.1
/-- the template fits -/
noncomputable def z_mt (X : z_X) (v : z_V) (L th : List z_C) : Bool := Nat.ble X.2.1 v.1 && (z_fits v X.2.2.1 th && (z_mL X.2.1 (q_len X.2.2.1) th X.2.2.2.2.1 L && (z_mF v X.2.1 (q_len X.2.2.1) th X.2.2.2.2.2.1 && (Nat.beq X.2.2.2.2.2.2.1 v.2.2.2.2.2 && (Nat.ble 1 X.2.1 && z_all (fun g : Nat × Nat => Nat.blt g.1 (q_len X.2.2.1)) X.2.2.2.2.2.2.2)))))
/-- a component of the measure: no less, more -/
noncomputable def z_m0 (v : z_V) (n : Nat) (th : List z_C) (g : Nat × Nat) : Bool := bif Nat.beq g.2 0 then (Nat.beq (z_nth th g.1).2.1 (Nat.add n g.1) && Nat.ble 2147483648 (z_nth th g.1).2.2) || Nat.ble (q_get v.2.2.1 (Nat.add n g.1)) (z_il v (z_nth th g.1)) else (Nat.beq (z_nth th g.1).2.1 (Nat.add n g.1) && Nat.ble (z_nth th g.1).2.2 2147483648) || Nat.ble (z_ih v (z_nth th g.1)) (q_get v.2.1 (Nat.add n g.1))
noncomputable def z_m1 (v : z_V) (n : Nat) (th : List z_C) (g : Nat × Nat) : Bool := bif Nat.beq g.2 0 then (Nat.beq (z_nth th g.1).2.1 (Nat.add n g.1) && Nat.blt 2147483648 (z_nth th g.1).2.2) || Nat.blt (q_get v.2.2.1 (Nat.add n g.1)) (z_il v (z_nth th g.1)) else (Nat.beq (z_nth th g.1).2.1 (Nat.add n g.1) && Nat.blt (z_nth th g.1).2.2 2147483648) || Nat.blt (z_ih v (z_nth th g.1)) (q_get v.2.1 (Nat.add n g.1))
noncomputable def z_ms (X : z_X) (v : z_V) (th : List z_C) : Bool := z_all (fun g : Nat × Nat => Nat.blt g.1 (q_len X.2.2.1) && (Nat.beq (z_nth X.2.2.1 g.1).1 0 && z_m0 v X.2.1 th g)) X.2.2.2.2.2.2.2 && z_any (fun g => z_m1 v X.2.1 th g) X.2.2.2.2.2.2.2
/-- a loop is come to for the first time: its template -/
noncomputable def z_new (N : z_N) (v : z_V) (L : List z_C) (k : z_X → z_V → List z_C → Option (List z_O)) : Option (List z_O) := match z_sF v.2.2.2.1 N.2.2.2.2.2.2.1 with
  | none => none
  | some (sf, tf) => (fun (src : List (Nat × Nat × Nat × z_C)) (ts : List z_C) => (fun (LT : List z_C) (FT : List z_A) => z_frv (z_setF (z_pT ts v) FT) (fun w => k (N.2.1, v.1, ts, src, LT, FT, v.2.2.2.2.2, N.2.2.2.2.2.2.2.2) w LT)) (z_tL src v.1 N.2.2.2.2.1 L 0) (z_tF src v.1 N.2.2.2.2.2.1 N.2.2.2.2.2.2.2.1 v.2.2.2.1)) (z_map (fun l : z_C => ((0, l.1, 0, (0, 0, 0)) : Nat × Nat × Nat × z_C)) N.2.2.1 ++ (z_map (fun j => ((2, j, 0, (0, 0, 0)) : Nat × Nat × Nat × z_C)) N.2.2.2.1 ++ sf)) (z_map (fun l : z_C => ((0, l.2.1, l.2.2) : z_C)) N.2.2.1 ++ (z_map (fun _ => ((3, 0, 0) : z_C)) N.2.2.2.1 ++ tf))
/-! contracts -/
noncomputable def z_cA (v : z_V) (ts : List z_C) : List z_C → Bool := List.rec (fun cs => match cs with
  | [] => true
  | _ => false) (fun t _ ih cs => match cs with
  | [] => false
  | c :: r => z_fit v t c && ih r) ts
/-- the facts that a contract wants: the codes bound so far, then theirs -/
noncomputable def z_cF (v : z_V) (ps : List (Nat × Nat × z_C)) : List z_C → Option (List z_C) := List.rec (fun cs => some cs) (fun p _ ih cs => bif Nat.beq (z_nth cs p.1).1 1 && Nat.ble p.2.1 100000 then (match z_fg v.2.2.2.1 (z_nth cs p.1).2.1 (z_kc p.2.1) with
  | none => none
  | some c => bif z_fit v p.2.2 c then ih (cs ++ [c]) else none) else none) ps
noncomputable def z_kls (v : z_V) (ks : List z_C) (fs : List z_A) : List z_A := z_flt (fun f => z_all (fun k => z_kq v k f) ks) fs
/-- the facts behind a contract -/
noncomputable def z_cP (cs : List z_C) (ps : List (Nat × Nat × z_C)) : z_V → (z_V → Option (List z_O)) → Option (List z_O) := List.rec (fun v k => k v) (fun p _ ih v k => bif Nat.beq (z_nth cs p.1).1 1 && Nat.ble p.2.1 100000 then z_ld v p.2.2 (fun w c => ih (z_addF w ((z_nth cs p.1).2.1, (z_nth cs p.1).2.2, z_kc p.2.1, c)) k) else none) ps
noncomputable def z_use (kw : List z_C) (d : Nat × Nat) (M : z_M) (v : z_V) (as : List z_C) (k : z_V → List z_C → Option (List z_O)) : Option (List z_O) := bif z_cA v M.2.1 as then (match z_cF v M.2.2.1 as with
  | none => none
  | some cs => bif z_all (fun e => z_kw kw e.1 e.2.1 e.2.2) M.2.2.2.1 && (Nat.blt M.2.2.2.2.2.1 d.1 && Nat.ble (Nat.add v.2.2.2.2.2 M.2.2.2.2.1) d.2) then z_cP cs M.2.2.2.2.2.2.2.2 (z_addM (z_setF v (z_kls v M.2.2.2.1 v.2.2.2.1)) M.2.2.2.2.1) (fun w => bif M.2.2.2.2.2.2.1 then z_fold M.2.2.2.2.2.2.2.1 (fun t => z_ld w t (fun w2 c => k w2 [c])) else k w []) else none) else none
/-! instructions -/
def z_i1 (ins : Instr) : Bool := match ins with
  | .dup => true
  | _ => false
def z_i2 (ins : Instr) : Bool := match ins with
  | .invokespecial _ => true
  | _ => false
noncomputable def z_bin (st : List z_C) (k : z_C → z_C → List z_C → Option (List z_O)) : Option (List z_O) := match st with
  | b :: a :: r => bif Nat.beq a.1 0 && Nat.beq b.1 0 then k a b r else none
  | _ => none
noncomputable def z_un (st : List z_C) (k : z_C → List z_C → Option (List z_O)) : Option (List z_O) := match st with
  | a :: r => bif Nat.beq a.1 0 then k a r else none
  | _ => none
/-- a place of an array: its code, bounds -/
noncomputable def z_ix {α : Type} (tt : Nat → z_T) (v : z_V) (a j : z_C) (k : z_T → z_C → Nat → Nat → Option α) : Option α := bif z_nn v a && (Nat.beq j.1 0 && (Nat.ble 2147483648 (z_il v j) && (Nat.blt (z_ih v j) (Nat.add 2147483648 (tt a.2.2).2.1) && (Nat.ble (tt a.2.2).2.1 100000 && not (Nat.beq (tt a.2.2).1 0))))) then q_fr (z_il v j) (fun lo => q_fr (z_ih v j) (fun hi => k (tt a.2.2) (bif Nat.beq lo hi then (0, 0, lo) else j) lo hi)) else none
noncomputable def z_ldi (v : z_V) (T : z_T) (a ic : z_C) (lo hi : Nat) (k : z_V → z_C → Option (List z_O)) : Option (List z_O) := bif Nat.beq T.1 3 then z_an v k else z_rng T.2.2.2.1 (Nat.sub lo 2147483648) (Nat.sub hi 2147483648) (fun x y => (fun r : Nat × Nat => z_fi v r.1 r.2 (fun w c => bif Nat.beq T.2.2.2.2 1 && (not (Nat.beq lo hi) && (not (Nat.beq c.2.1 0) && Nat.beq c.2.2 2147483648)) then k (z_addD w (c.2.1, a.2.2, ic)) c else k w c)) (z_hu T.2.2.1 x y))
noncomputable def z_ial (tt : Nat → z_T) (v : z_V) (a j : z_C) (ok : Nat → Bool) (k : z_V → z_C → Option (List z_O)) : Option (List z_O) := z_ix tt v a j (fun T ic lo hi => bif ok T.1 then (bif Nat.beq lo hi || Nat.beq T.2.2.2.2 2 then (match z_fg v.2.2.2.1 a.2.1 ic with
  | some c => k v c
  | none => z_ldi v T a ic lo hi (fun w c => k (z_addF w (a.2.1, a.2.2, ic, c)) c)) else z_ldi v T a ic lo hi k) else none)
/-- is the value fit for the places -/
noncomputable def z_sto (tt : Nat → z_T) (v : z_V) (T : z_T) (ic : z_C) (lo hi : Nat) (c : z_C) : Bool := bif z_rng T.2.2.2.1 (Nat.sub lo 2147483648) (Nat.sub hi 2147483648) (fun x y => (fun r : Nat × Nat => Nat.ble r.1 (z_il v c) && Nat.ble (z_ih v c) r.2) (z_na T.2.2.1 x y)) then true else Nat.beq c.2.2 2147483648 && z_any (fun d : z_B => Nat.beq d.1 c.2.1 && (Nat.beq d.2.2.2.1 ic.2.1 && (Nat.beq (Nat.mod d.2.2.2.2 T.2.2.2.1) (Nat.mod ic.2.2 T.2.2.2.1) && (z_leq (tt d.2.1).2.2.1 T.2.2.1 && Nat.beq (tt d.2.1).2.2.2.1 T.2.2.2.1)))) v.2.2.2.2.1
noncomputable def z_ias (tt : Nat → z_T) (kw : List z_C) (v : z_V) (a j c : z_C) (k : z_V → Option (List z_O)) : Option (List z_O) := z_ix tt v a j (fun T ic lo hi => bif Nat.beq T.1 1 && (Nat.beq c.1 0 && (z_sto tt v T ic lo hi c && z_kw kw a.2.2 lo hi)) then (fun F : List z_A => k (z_setF v (bif Nat.beq lo hi || Nat.beq T.2.2.2.2 2 then (a.2.1, a.2.2, ic, c) :: F else F))) (z_flt (z_kp v a.2.2 ic lo hi c) v.2.2.2.1) else none)
noncomputable def z_bas (tt : Nat → z_T) (kw : List z_C) (v : z_V) (a j c : z_C) (k : z_V → Option (List z_O)) : Option (List z_O) := z_ix tt v a j (fun T ic lo hi => bif (Nat.beq T.1 3 || (Nat.beq T.1 5 && (z_sto tt v T ic lo hi c && (z_po v c && Nat.ble (z_ih v c) 2147483649)))) && (Nat.beq c.1 0 && z_kw kw a.2.2 lo hi) then (fun F : List z_A => k (z_setF v (bif Nat.beq lo hi && Nat.beq T.1 5 then (a.2.1, a.2.2, ic, c) :: F else F))) (z_flt (z_kp v a.2.2 ic lo hi (bif Nat.beq T.1 5 then c else (8, 0, 0))) v.2.2.2.1) else none)
noncomputable def z_cas (v : z_V) (ih : z_F) (d : Nat × Nat) (i : Nat) (cd tl : List q_I) (L st : List z_C) (sp : List Nat) (cx : List z_X) (c : ClassFile.Cond) (a b : z_C) (x : Nat) : Option (List z_O) := bif Nat.beq a.1 0 then z_app (z_fold (z_cs v c a b) (fun w => ih d i cd (q_jm cd x) w L st sp cx)) (z_fold (z_cs v (z_ng c) a b) (fun w => ih d i cd tl w L st sp cx)) else bif Nat.beq a.1 2 && (Nat.ble 1 a.2.2 && (Nat.ble a.2.2 1000 && z_ceq b (0, 0, 2147483648))) then (match c with
  | .eq => z_app (ih d i cd (q_jm cd x) (v.1, q_set v.2.1 a.2.1 a.2.2, v.2.2) L st sp cx) (ih d i cd tl v L st sp cx)
  | .ne => z_app (ih d i cd (q_jm cd x) v L st sp cx) (ih d i cd tl (v.1, q_set v.2.1 a.2.1 a.2.2, v.2.2) L st sp cx)
  | _ => none) else none
/-- the long constants, all from 0 on -/
noncomputable def z_kl (k : Nat) : Nat := q_nth z_lcs 0 k
/-- which constant a long is: 0 not known -/
def z_lk (v : z_V) (c : z_C) : Nat := bif Nat.beq c.2.1 0 then Nat.succ c.2.2 else q_get v.2.1 c.2.1
noncomputable def z_lc (v : z_V) (a b : z_C) (k : z_V → z_C → Option (List z_O)) : Option (List z_O) := bif Nat.beq a.1 3 && Nat.beq b.1 3 then Nat.rec (z_fi v 2147483647 2147483649 k) (fun kb _ => Nat.rec (bif Nat.beq a.2.1 0 then z_fi v 2147483647 2147483649 k else k v (2, a.2.1, Nat.succ kb)) (fun ka _ => bif Nat.beq (z_kl ka) (z_kl kb) then k v (0, 0, 2147483648) else bif Nat.blt (z_kl ka) (z_kl kb) then k v (0, 0, 2147483647) else k v (0, 0, 2147483649)) (z_lk v a)) (z_lk v b) else none
noncomputable def z_tsw (v : z_V) (ih : z_F) (d : Nat × Nat) (i : Nat) (cd : List q_I) (L st : List z_C) (sp : List Nat) (cx : List z_X) (pc : Nat) (a : z_C) (offs : List Int) : Nat → Option (List z_O) := List.rec (fun _ => some []) (fun o _ acc k => z_app (bif Nat.ble (z_il v a) (Nat.add 2147483648 k) && Nat.ble (Nat.add 2147483648 k) (z_ih v a) then z_fold (z_opl (z_rf v a (Nat.add 2147483648 k) (Nat.add 2147483648 k))) (fun w => ih d i cd (q_jm cd (Int.toNat (Int.add (Int.ofNat pc) o))) w L st sp cx) else some []) (acc (Nat.succ k))) offs
noncomputable def z_lsw (v : z_V) (ih : z_F) (d : Nat × Nat) (i : Nat) (cd : List q_I) (L st : List z_C) (sp : List Nat) (cx : List z_X) (pc : Nat) (a : z_C) (ps : List (Int × Int)) : Option (List z_O) := List.rec (some []) (fun o _ acc => z_app (bif Nat.ble (z_il v a) (Nat.add 2147483648 (Int.toNat o.1)) && Nat.ble (Nat.add 2147483648 (Int.toNat o.1)) (z_ih v a) then z_fold (z_opl (z_rf v a (Nat.add 2147483648 (Int.toNat o.1)) (Nat.add 2147483648 (Int.toNat o.1)))) (fun w => ih d i cd (q_jm cd (Int.toNat (Int.add (Int.ofNat pc) o.2))) w L st sp cx) else some []) acc) ps
/-- does a method make a Sand -/
def z_alm (x : Nat) : Bool := Nat.beq x z_kI
abbrev z_G : Type := (Nat → z_T) × List z_C × Nat × List z_N × List z_M
noncomputable def z_pick (mem : List z_M) (v : z_V) (x : Nat) (as : List z_C) : Option z_M := z_find (fun M : z_M => Nat.beq M.1 x && (z_cA v M.2.1 as && (match z_cF v M.2.2.1 as with
  | none => false
  | some _ => true))) mem
/-- an end is a return -/
noncomputable def z_rok (cdt : Nat → List q_I) (x mx : Nat) (o : z_O) : Bool := match q_jm (cdt x) o.1 with
  | [] => false
  | e :: _ => Nat.ble o.2.1.2.2.2.2.2 mx && (match e.2.2.1 with
    | .return_ => (match o.2.2.2 with
      | [] => true
      | _ => false)
    | .ireturn => (match o.2.2.2 with
      | [c] => Nat.beq c.1 0 && (Nat.beq e.2.2.2.1 0 || (Nat.beq e.2.2.2.1 1 && (z_po o.2.1 c && Nat.ble (z_ih o.2.1 c) 2147483649)))
      | _ => false)
    | .areturn => (match o.2.2.2 with
      | [c] => Nat.beq c.1 1
      | _ => false)
    | _ => false)
noncomputable def z_inl (cdt : Nat → List q_I) (ih : z_F) (dx : Nat × Nat) (x : Nat) (as : List z_C) (v : z_V) (k : List z_O → Option (List z_O)) : Option (List z_O) := match ih dx x (cdt x) (cdt x) v (z_pad (q_ml x) (z_sl as)) [] [] [] with
  | none => none
  | some os => bif z_all (z_rok cdt x dx.2) os then k os else none
noncomputable def z_cal (g : z_G) (cdt : Nat → List q_I) (ih : z_F) (d : Nat × Nat) (x : Nat) (as : List z_C) (v : z_V) (k : z_V → List z_C → Option (List z_O)) : Option (List z_O) := match z_pick g.2.2.2.2 v x as with
  | some M => z_use g.2.1 d M v as k
  | none => Nat.rec none (fun d' _ => bif z_alm x then (bif Nat.beq v.2.2.2.2.2 0 then z_inl cdt ih (d', d.2) x as v (fun os => z_fold os (fun o => k (z_setM o.2.1 d.2) o.2.2.2)) else none) else bif Nat.ble v.2.2.2.2.2 d.2 then z_inl cdt ih (d', 0) x as (z_setM v 0) (fun os => z_fold os (fun o => k (z_setM o.2.1 v.2.2.2.2.2) o.2.2.2)) else none) d.1
noncomputable def z_inv (g : z_G) (cdt : Nat → List q_I) (ih : z_F) (d : Nat × Nat) (i : Nat) (cd tl : List q_I) (v : z_V) (L : List z_C) (x y z : Nat) (st : List z_C) (sp : List Nat) (cx : List z_X) (virt : Bool) : Option (List z_O) := bif Nat.beq z 99 then none else match z_pp y st [] with
  | none => none
  | some (as, r) => bif (Nat.ble (z_cats r) 8 && Nat.ble (q_len (z_sl as)) (q_ml x)) && (bif virt then (match as with
      | [] => false
      | a :: _ => z_nn v a && (Nat.beq (g.1 a.2.2).1 0 && Nat.beq (g.1 a.2.2).2.1 z)) else true) then z_cal g cdt ih d x as v (fun w rt => ih d i cd tl w L (rt ++ r) sp cx) else none
noncomputable def z_cpk (g : z_G) (v : z_V) (n dp b s0 a : z_C) : Bool := z_nn v a && (z_nn v b && (Nat.beq (g.1 a.2.2).1 1 && (Nat.beq (g.1 b.2.2).1 1 && (z_ceq dp (0, 0, 2147483648) && (z_ceq s0 (0, 0, 2147483648) && (Nat.beq n.1 0 && (z_po v n && (Nat.ble (z_ih v n) (Nat.add 2147483648 (g.1 a.2.2).2.1) && Nat.ble (z_ih v n) (Nat.add 2147483648 (g.1 b.2.2).2.1)))))))))
noncomputable def z_cpt (g : z_G) (b a : z_C) : Bool := Nat.ble (g.1 a.2.2).2.1 100000 && (Nat.ble (g.1 b.2.2).2.1 100000 && (Nat.ble 1 (g.1 a.2.2).2.2.2.1 && (Nat.ble 1 (g.1 b.2.2).2.2.2.1 && (z_kw g.2.1 b.2.2 2147483648 (Nat.add 2147483647 (g.1 b.2.2).2.1) && (fun (p q : Nat × Nat) => Nat.ble q.1 p.1 && Nat.ble p.2 q.2) (z_hu (g.1 a.2.2).2.2.1 0 (Nat.sub (g.1 a.2.2).2.2.2.1 1)) (z_na (g.1 b.2.2).2.2.1 0 (Nat.sub (g.1 b.2.2).2.2.2.1 1))))))
noncomputable def z_cpy (g : z_G) (ih : z_F) (d : Nat × Nat) (i : Nat) (cd tl : List q_I) (v : z_V) (L st : List z_C) (sp : List Nat) (cx : List z_X) : Option (List z_O) := match st with
  | n :: dp :: b :: s0 :: a :: r => bif z_cpk g v n dp b s0 a && (z_cpt g b a && (Nat.ble (z_cats r) 8 && Nat.ble 1 d.1)) then ih d i cd tl (z_setF v (z_flt (z_kq v (b.2.2, 2147483648, Nat.add 2147483647 (g.1 b.2.2).2.1)) v.2.2.2.1)) L r sp cx else none
  | _ => none
/-- length, charAt, indexOf of a text constant -/
noncomputable def z_txt (ih : z_F) (d : Nat × Nat) (i : Nat) (cd tl : List q_I) (v : z_V) (L : List z_C) (x : Nat) (st : List z_C) (sp : List Nat) (cx : List z_X) : Option (List z_O) := bif Nat.ble 6 d.1 && Nat.ble v.2.2.2.2.2 d.2 then (bif Nat.beq x 0 then (match st with
  | a :: r => bif Nat.beq a.1 4 && (Nat.blt a.2.2 2 && Nat.ble (z_cats r) 8) then ih d i cd tl v L ((0, 0, Nat.add 2147483648 (q_nth z_lens 0 a.2.2)) :: r) sp cx else none
  | _ => none) else (match st with
  | j :: a :: r => bif Nat.beq a.1 4 && (Nat.blt a.2.2 2 && (Nat.beq j.1 0 && Nat.ble (z_cats r) 8)) then (bif Nat.beq x 1 then (bif z_po v j && Nat.blt (z_ih v j) (Nat.add 2147483648 (q_nth z_lens 0 a.2.2)) then z_an v (fun w c => ih d i cd tl w L (c :: r) sp cx) else none) else z_an v (fun w c => ih d i cd tl w L (c :: r) sp cx)) else none
  | _ => none)) else none
noncomputable def z_step (g : z_G) (cdt : Nat → List q_I) (ih : z_F) (d : Nat × Nat) (i : Nat) (cd : List q_I) (pc : Nat) (ins : Instr) (x y z : Nat) (tl : List q_I) (v : z_V) (L st : List z_C) (sp : List Nat) (cx : List z_X) : Option (List z_O) := match ins with
  | .iconst _ | .bipush _ | .sipush _ => ih d i cd tl v L ((0, 0, q_bi x) :: st) sp cx
  | .ldc _ => bif Nat.beq z 99 then Nat.rec none (fun s _ => ih d i cd tl v L ((4, 0, s) :: st) sp cx) y else ih d i cd tl v L ((0, 0, q_bi x) :: st) sp cx
  | .ldc_w _ => bif Nat.beq z 99 then none else ih d i cd tl v L ((0, 0, q_bi x) :: st) sp cx
  | .ldc2_w _ => bif Nat.beq z 99 then none else ih d i cd tl v L ((3, 0, x) :: st) sp cx
  | .lconst _ => ih d i cd tl v L ((3, 0, x) :: st) sp cx
  | .aconst_null => ih d i cd tl v L ((2, 0, 0) :: st) sp cx
  | .iload _ | .iload_n _ => (fun c : z_C => bif Nat.beq c.1 0 then ih d i cd tl v L (c :: st) sp cx else none) (z_nth L x)
  | .aload _ | .aload_n _ => (fun c : z_C => bif Nat.beq c.1 1 || (Nat.beq c.1 2 && Nat.beq c.2.2 0) then ih d i cd tl v L (c :: st) sp cx else none) (z_nth L x)
  | .lload_n _ => (fun c : z_C => bif Nat.beq c.1 3 then ih d i cd tl v L (c :: st) sp cx else none) (z_nth L x)
  | .istore _ | .istore_n _ => (match st with
    | c :: r => bif Nat.beq c.1 0 then ih d i cd tl v (z_st1 L x c) r sp cx else none
    | _ => none)
  | .astore _ | .astore_n _ => (match st with
    | c :: r => bif Nat.beq c.1 1 || (Nat.beq c.1 2 && Nat.beq c.2.2 0) then ih d i cd tl v (z_st1 L x c) r sp cx else none
    | _ => none)
  | .lstore_n _ => (match st with
    | c :: r => bif Nat.beq c.1 3 then ih d i cd tl v (z_st2 L x c) r sp cx else none
    | _ => none)
  | .iinc _ _ => (fun c : z_C => bif Nat.beq c.1 0 then z_oadd v c (0, 0, q_bi y) (fun w e => ih d i cd tl w (z_st1 L x e) st sp cx) else none) (z_nth L x)
  | .iadd => z_bin st (fun a b r => z_oadd v a b (fun w c => ih d i cd tl w L (c :: r) sp cx))
  | .isub => z_bin st (fun a b r => z_osub v a b (fun w c => ih d i cd tl w L (c :: r) sp cx))
  | .imul => z_bin st (fun a b r => z_omul v a b (fun w c => ih d i cd tl w L (c :: r) sp cx))
  | .iand => z_bin st (fun a b r => z_oand v a b (fun w c => ih d i cd tl w L (c :: r) sp cx))
  | .ior => z_bin st (fun a b r => z_oor v a b (fun w c => ih d i cd tl w L (c :: r) sp cx))
  | .ixor => z_bin st (fun a b r => z_oor v a b (fun w c => ih d i cd tl w L (c :: r) sp cx))
  | .idiv => z_bin st (fun a b r => z_odiv v a b (fun w c => ih d i cd tl w L (c :: r) sp cx))
  | .irem => z_bin st (fun a b r => z_orem v a b (fun w c => ih d i cd tl w L (c :: r) sp cx))
  | .ishl => z_bin st (fun a b r => z_oshl v a b (fun w c => ih d i cd tl w L (c :: r) sp cx))
  | .ishr => z_bin st (fun a _ r => z_oshr v a (fun w c => ih d i cd tl w L (c :: r) sp cx))
  | .iushr => z_bin st (fun a _ r => z_oshr v a (fun w c => ih d i cd tl w L (c :: r) sp cx))
  | .ineg => z_un st (fun a r => z_oneg v a (fun w c => ih d i cd tl w L (c :: r) sp cx))
  | .i2b => z_un st (fun _ r => z_an v (fun w c => ih d i cd tl w L (c :: r) sp cx))
  | .i2c => z_un st (fun _ r => z_an v (fun w c => ih d i cd tl w L (c :: r) sp cx))
  | .i2l => z_un st (fun _ r => z_ld v (3, 0, 0) (fun w c => ih d i cd tl w L (c :: r) sp cx))
  | .lmul | .ladd | .lor => (match st with
    | b :: a :: r => bif Nat.beq a.1 3 && Nat.beq b.1 3 then z_ld v (3, 0, 0) (fun w c => ih d i cd tl w L (c :: r) sp cx) else none
    | _ => none)
  | .lshl => (match st with
    | b :: a :: r => bif Nat.beq a.1 3 && Nat.beq b.1 0 then z_ld v (3, 0, 0) (fun w c => ih d i cd tl w L (c :: r) sp cx) else none
    | _ => none)
  | .lcmp => (match st with
    | b :: a :: r => z_lc v a b (fun w c => ih d i cd tl w L (c :: r) sp cx)
    | _ => none)
  | .dup => (match st with
    | a :: r => bif Nat.beq a.1 3 then none else ih d i cd tl v L (a :: a :: r) sp cx
    | _ => none)
  | .dup2 => (match st with
    | b :: a :: r => bif Nat.beq a.1 3 || Nat.beq b.1 3 then none else ih d i cd tl v L (b :: a :: b :: a :: r) sp cx
    | _ => none)
  | .pop => (match st with
    | a :: r => bif Nat.beq a.1 3 then none else ih d i cd tl v L r sp cx
    | _ => none)
  | .ifCond c _ => (match st with
    | a :: r => z_cas v ih d i cd tl L r sp cx c a (0, 0, 2147483648) x
    | _ => none)
  | .if_icmp c _ => z_bin st (fun a b r => z_cas v ih d i cd tl L r sp cx c a b x)
  | .ifnull _ => (match st with
    | a :: r => bif z_nn v a then ih d i cd tl v L r sp cx else bif Nat.beq a.1 1 then z_app (ih d i cd (q_jm cd x) v L r sp cx) (ih d i cd tl (v.1, q_set v.2.1 a.2.1 1, v.2.2) L r sp cx) else none
    | _ => none)
  | .ifnonnull _ => (match st with
    | a :: r => bif z_nn v a then ih d i cd (q_jm cd x) v L r sp cx else bif Nat.beq a.1 1 then z_app (ih d i cd (q_jm cd x) (v.1, q_set v.2.1 a.2.1 1, v.2.2) L r sp cx) (ih d i cd tl v L r sp cx) else none
    | _ => none)
  | .goto _ => ih d i cd (q_jm cd x) v L st sp cx
  | .tableswitch df _ _ offs => z_un st (fun a r => z_app (z_tsw v ih d i cd L r sp cx pc a offs.toList x) (bif Nat.blt (z_il v a) (Nat.add 2147483648 x) || Nat.blt (Nat.add 2147483648 y) (z_ih v a) then ih d i cd (q_jm cd (Int.toNat (Int.add (Int.ofNat pc) df))) v L r sp cx else some []))
  | .lookupswitch df ps => z_un st (fun a r => z_app (z_lsw v ih d i cd L r sp cx pc a ps.toList) (ih d i cd (q_jm cd (Int.toNat (Int.add (Int.ofNat pc) df))) v L r sp cx))
  | .new _ => (match tl with
    | e1 :: e2 :: tl2 => bif z_i1 e1.2.2.1 && (z_i2 e2.2.2.1 && (Nat.beq e2.2.2.2.1 z_sI && (Nat.beq x 5 && (Nat.ble (z_cats st) 6 && (Nat.blt v.2.2.2.2.2 d.2 && Nat.ble 4 d.1))))) then ih d i cd tl2 (z_addM (z_push v 1 0) 1) L ((1, v.1, z_tS) :: st) sp cx else none
    | _ => none)
  | .arraylength => (match st with
    | a :: r => bif z_nn v a && (not (Nat.beq (g.1 a.2.2).1 0) && Nat.ble (g.1 a.2.2).2.1 100000) then ih d i cd tl v L ((0, 0, Nat.add 2147483648 (g.1 a.2.2).2.1) :: r) sp cx else none
    | _ => none)
  | .iaload => (match st with
    | j :: a :: r => z_ial g.1 v a j (fun k => Nat.beq k 1) (fun w c => ih d i cd tl w L (c :: r) sp cx)
    | _ => none)
  | .baload => (match st with
    | j :: a :: r => z_ial g.1 v a j (fun k => Nat.beq k 3 || Nat.beq k 5) (fun w c => ih d i cd tl w L (c :: r) sp cx)
    | _ => none)
  | .laload => (match st with
    | j :: a :: r => z_ix g.1 v a j (fun T _ _ _ => bif Nat.beq T.1 7 then z_ld v (3, 0, 0) (fun w c => ih d i cd tl w L (c :: r) sp cx) else none)
    | _ => none)
  | .aaload => (match st with
    | j :: a :: r => z_ix g.1 v a j (fun T _ _ _ => bif Nat.beq T.1 9 then z_ld v (2, z_tS, 0) (fun w c => ih d i cd tl w L (c :: r) sp cx) else none)
    | _ => none)
  | .iastore => (match st with
    | c :: j :: a :: r => z_ias g.1 g.2.1 v a j c (fun w => ih d i cd tl w L r sp cx)
    | _ => none)
  | .bastore => (match st with
    | c :: j :: a :: r => z_bas g.1 g.2.1 v a j c (fun w => ih d i cd tl w L r sp cx)
    | _ => none)
  | .lastore => (match st with
    | c :: j :: a :: r => z_ix g.1 v a j (fun T _ _ _ => bif Nat.beq T.1 7 && Nat.beq c.1 3 then ih d i cd tl v L r sp cx else none)
    | _ => none)
  | .aastore => (match st with
    | c :: j :: a :: r => z_ix g.1 v a j (fun T _ _ _ => bif Nat.beq T.1 9 && (z_nn v c && (Nat.beq c.2.2 z_tS && (Nat.beq (g.1 z_tS).1 0 && Nat.beq (g.1 z_tS).2.1 5))) then ih d i cd tl v L r sp cx else none)
    | _ => none)
  | .getfield _ => (match st with
    | a :: r => bif z_nn v a && (Nat.beq (g.1 a.2.2).1 0 && Nat.beq (g.1 a.2.2).2.1 x) then (match z_fg v.2.2.2.1 a.2.1 (z_kc y) with
      | some c => ih d i cd tl v L (c :: r) sp cx
      | none => z_ld v (z_nth (g.1 a.2.2).2.2.1 y) (fun w c => ih d i cd tl (z_addF w (a.2.1, a.2.2, z_kc y, c)) L (c :: r) sp cx)) else none
    | _ => none)
  | .putfield _ => (match st with
    | c :: a :: r => bif z_nn v a && (Nat.beq (g.1 a.2.2).1 0 && (Nat.beq (g.1 a.2.2).2.1 x && (z_fit v (z_nth (g.1 a.2.2).2.2.1 y) c && (z_kw g.2.1 a.2.2 (Nat.add 2147483648 y) (Nat.add 2147483648 y) && (bif Nat.beq z 0 then Nat.beq c.1 0 else bif Nat.beq z 1 then Nat.beq c.1 0 && (z_po v c && Nat.ble (z_ih v c) 2147483649) else bif Nat.beq z 2 then Nat.beq c.1 1 || (Nat.beq c.1 2 && Nat.beq c.2.2 0) else Nat.beq c.1 3))))) then ih d i cd tl (z_setF v ((a.2.1, a.2.2, z_kc y, c) :: z_flt (z_kp v a.2.2 (z_kc y) (Nat.add 2147483648 y) (Nat.add 2147483648 y) c) v.2.2.2.1)) L r sp cx else none
    | _ => none)
  | .invokevirtual _ => bif Nat.beq z 99 && Nat.beq y 88 then z_txt ih d i cd tl v L x st sp cx else z_inv g cdt ih d i cd tl v L x y z st sp cx true
  | .invokestatic _ => bif Nat.beq z 77 then z_cpy g ih d i cd tl v L st sp cx else z_inv g cdt ih d i cd tl v L x y z st sp cx false
  | .ireturn => (match st with
    | [c] => bif Nat.beq c.1 0 && (Nat.beq x 0 || (Nat.beq x 1 && (z_po v c && Nat.ble (z_ih v c) 2147483649))) then some [(pc, v, L, st)] else none
    | _ => none)
  | .areturn => (match st with
    | [c] => bif Nat.beq c.1 1 then some [(pc, v, L, st)] else none
    | _ => none)
  | .return_ => (match st with
    | [] => some [(pc, v, L, st)]
    | _ => none)
  | _ => none
noncomputable def z_run (g : z_G) (cdt : Nat → List q_I) (fuel : Nat) : z_F := Nat.rec (fun _ _ _ _ _ _ _ _ _ => none) (fun _ ih d i cd rest v L st sp cx => List.rec none (fun e tl _ => bif z_any (fun q => Nat.beq q e.1) sp then some [(e.1, v, L, st)] else (match z_find (fun N : z_N => Nat.beq N.2.1 e.1 && Nat.beq N.1 i) g.2.2.2.1 with
  | none => z_step g cdt ih d i cd e.1 e.2.2.1 e.2.2.2.1 e.2.2.2.2.1 e.2.2.2.2.2 tl v L st sp cx
  | some N => (match st with
    | _ :: _ => none
    | [] => (match z_find (fun X : z_X => Nat.beq X.1 e.1) cx with
      | some X => (fun th : List z_C => bif z_mt X v L th && z_ms X v th then some [] else none) (z_th X v L)
      | none => z_new N v L (fun X w LT => bif z_mt X v L (z_th X v L) then z_step g cdt ih d i cd e.1 e.2.2.1 e.2.2.2.1 e.2.2.2.2.1 e.2.2.2.2.2 tl w LT [] sp (X :: cx) else none))))) rest) fuel

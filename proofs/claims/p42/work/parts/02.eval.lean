/-! ===== an evaluator of the bytecode over numbers: ints, refs and what is unknown are codes; cells are packed =====
codes: c < 2^32 the int of these bits; 2^32 any int; 2^32+1+i the i-th told int (i < 13); 2^32+14 an int above 0, 2^32+15 one below 0; 2^32+16 null; 2^32+17 nothing known (of a long field); 2^32+18 a long; 2^32+32+k the k-th cell -/
abbrev q_C : Type := Nat × Nat × Nat
noncomputable def q_T (n : Nat) : Type := Nat.rec (motive := fun _ => Type) q_C (fun _ t => t × t) n
noncomputable def q_tg (n : Nat) : q_T n → Nat → q_C := Nat.rec (motive := fun n => q_T n → Nat → q_C) (fun c _ => c) (fun n ih t k => Bool.rec (ih (Prod.snd (α := q_T n) (β := q_T n) t) (Nat.div k 2)) (ih (Prod.fst (α := q_T n) (β := q_T n) t) (Nat.div k 2)) (Nat.beq (Nat.mod k 2) 0)) n
noncomputable def q_ts (n : Nat) : q_T n → Nat → q_C → q_T n := Nat.rec (motive := fun n => q_T n → Nat → q_C → q_T n) (fun _ _ c => c) (fun n ih t k c => Bool.rec (motive := fun _ => q_T (n + 1)) ((Prod.fst (α := q_T n) (β := q_T n) t, ih (Prod.snd (α := q_T n) (β := q_T n) t) (Nat.div k 2) c) : q_T n × q_T n) ((ih (Prod.fst (α := q_T n) (β := q_T n) t) (Nat.div k 2) c, Prod.snd (α := q_T n) (β := q_T n) t) : q_T n × q_T n) (Nat.beq (Nat.mod k 2) 0)) n
noncomputable def q_t0 (n : Nat) : q_T n := Nat.rec (motive := q_T) (0, 0, 0) (fun n t => ((t, t) : q_T n × q_T n)) n
abbrev q_H : Type := Nat × q_T 7
abbrev q_I : Type := Nat × Nat × Instr × Nat × Nat × Nat
abbrev q_R : Type := q_H × List Nat
/-- the j-th of the numbers of 34 bits in N -/
def q_get (N j : Nat) : Nat := Nat.mod (Nat.shiftRight N (Nat.mul 34 j)) 17179869184
def q_set (N j v : Nat) : Nat := Nat.xor N (Nat.shiftLeft (Nat.xor (q_get N j) v) (Nat.mul 34 j))
/-- go on with a number that is worked out -/
noncomputable def q_fr {α : Type} (n : Nat) (k : Nat → α) : α := Nat.rec (k 0) (fun m _ => k (Nat.succ m)) n
noncomputable def q_nth {α : Type} (l : List α) (d : α) : Nat → α := List.rec (fun _ => d) (fun a _ ih k => Nat.rec a (fun k' _ => ih k') k) l
noncomputable def q_ll {α : Type} (l : List (List α)) (d : α) (k : Nat) : α := q_nth (q_nth l [] (Nat.div k 14)) d (Nat.mod k 14)
def q_ex (c : Nat) : Bool := Nat.ble c 4294967295
def q_in (c : Nat) : Bool := Nat.ble c 4294967311
def q_e2 (a b : Nat) : Bool := Nat.ble a 4294967295 && Nat.ble b 4294967295
def q_i2 (a b : Nat) : Bool := Nat.ble a 4294967311 && Nat.ble b 4294967311
def q_w (n : Nat) : Nat := Nat.mod n 4294967296
def q_bi (c : Nat) : Nat := Nat.mod (Nat.add c 2147483648) 4294967296
def q_lo (rg : Nat → Nat × Nat) (c : Nat) : Nat := bif q_ex c then q_bi c else bif Nat.beq c 4294967296 then 0 else bif Nat.beq c 4294967310 then 2147483649 else bif Nat.beq c 4294967311 then 0 else (rg (c - 4294967297)).1
def q_hi (rg : Nat → Nat × Nat) (c : Nat) : Nat := bif q_ex c then q_bi c else bif Nat.beq c 4294967296 then 4294967295 else bif Nat.beq c 4294967310 then 4294967295 else bif Nat.beq c 4294967311 then 2147483647 else (rg (c - 4294967297)).2
/-- is a below b: known only where it is sure -/
def q_lt (rg : Nat → Nat × Nat) (a b : Nat) : Option Bool := bif q_e2 a b then some (Nat.blt (q_bi a) (q_bi b)) else bif q_i2 a b then (bif Nat.blt (q_hi rg a) (q_lo rg b) then some true else bif Nat.ble (q_hi rg b) (q_lo rg a) then some false else none) else none
def q_eq (rg : Nat → Nat × Nat) (a b : Nat) : Option Bool := bif q_e2 a b then some (Nat.beq a b) else bif q_i2 a b then (bif Nat.blt (q_hi rg a) (q_lo rg b) || Nat.blt (q_hi rg b) (q_lo rg a) then some false else none) else none
def q_not (o : Option Bool) : Option Bool := match o with
  | some b => some (!b)
  | none => none
def q_cm (rg : Nat → Nat × Nat) (c : ClassFile.Cond) (a b : Nat) : Option Bool := match c with
  | .eq => q_eq rg a b
  | .ne => q_not (q_eq rg a b)
  | .lt => q_lt rg a b
  | .ge => q_not (q_lt rg a b)
  | .gt => q_lt rg b a
  | .le => q_not (q_lt rg b a)
noncomputable def q_br {α : Type} (o : Option Bool) (t f : Option α) : Option α := match o with
  | some true => t
  | some false => f
  | none => none
noncomputable def q_ar {α : Type} (f : Nat → Nat → Nat) (st : List Nat) (k : List Nat → Option α) : Option α := match st with
  | b :: a :: r => bif q_e2 a b then q_fr (f a b) (fun v => k (v :: r)) else bif q_i2 a b then k (4294967296 :: r) else none
  | _ => none
/-- 'and' of an int that isn't told and a told one -/
def q_ax (rg : Nat → Nat × Nat) (a b : Nat) : Nat := bif Nat.beq b 4294967295 then a else bif Nat.ble 2147483648 (q_lo rg a) && (Nat.ble (q_hi rg a) 2147549183 && Nat.beq b 4294901760) then 0 else bif Nat.ble (q_hi rg a) 2147483647 && Nat.beq b 4294901760 then 4294967311 else bif Nat.ble 2147549184 (q_lo rg a) && Nat.beq b 4294901760 then 4294967310 else 4294967296
noncomputable def q_an {α : Type} (rg : Nat → Nat × Nat) (st : List Nat) (k : List Nat → Option α) : Option α := match st with
  | b :: a :: r => bif q_e2 a b then q_fr (Nat.land a b) (fun v => k (v :: r)) else bif q_i2 a b then q_fr (q_ax rg a b) (fun v => k (v :: r)) else none
  | _ => none
noncomputable def q_jm (cd : List q_I) (t : Nat) : List q_I := List.rec [] (fun e tl ih => Bool.rec ih (e :: tl) (Nat.beq e.1 t)) cd
noncomputable def q_pk (l : List Nat) : Nat := List.rec 0 (fun a _ ih => Nat.add (Nat.succ a) (Nat.shiftLeft ih 34)) l
/-- n args off the stack, the first one first -/
noncomputable def q_pp (n : Nat) : List Nat → List Nat → Option (List Nat × List Nat) := Nat.rec (fun s acc => some (acc, s)) (fun _ ih s acc => match s with
  | [] => none
  | a :: r => bif Nat.beq a 4294967314 then none else ih r (a :: acc)) n
noncomputable def q_len {α : Type} (l : List α) : Nat := List.rec 0 (fun _ _ ih => Nat.succ ih) l
/-- which cell a code names -/
def q_rf (c : Nat) : Nat := Nat.sub c 4294967328
theorem q_rf_eq (c : Nat) : q_rf c = c - 4294967328 := Nat.sub_eq
/-- a cell of a kind at a code -/
noncomputable def q_at {α : Type} (h : q_H) (c : Nat) (k : Nat → Nat → Nat → Nat → Option α) : Option α := bif Nat.ble 4294967328 c && (Nat.blt (q_rf c) h.1 && Nat.ble h.1 128) then q_fr (q_rf c) (fun j => k j (q_tg 7 h.2 j).1 (q_tg 7 h.2 j).2.1 (q_tg 7 h.2 j).2.2) else none
noncomputable def q_up (h : q_H) (j kd ln N : Nat) : q_H := (h.1, q_ts 7 h.2 j (kd, ln, N))
noncomputable def q_nw {α : Type} (h : q_H) (kd ln N : Nat) (k : q_H → Nat → Option α) : Option α := bif Nat.blt h.1 128 then q_fr (Nat.succ h.1) (fun n => k (n, q_ts 7 h.2 h.1 (kd, ln, N)) (Nat.add 4294967328 h.1)) else none
abbrev q_F : Type := Nat → Nat → List q_I → List q_I → Nat → List Nat → q_H → Option q_R
/-- calls that are known already: method, args, the heap before, the heap behind, the answer -/
abbrev q_M : Type := List (Nat × List Nat × q_H × q_R)
noncomputable def q_sm (n : Nat) : q_T n → q_T n → Bool := Nat.rec (motive := fun n => q_T n → q_T n → Bool) (fun (a b : q_C) => Nat.beq a.1 b.1 && (Nat.beq a.2.1 b.2.1 && Nat.beq a.2.2 b.2.2)) (fun n ih a b => ih (Prod.fst (α := q_T n) (β := q_T n) a) (Prod.fst (α := q_T n) (β := q_T n) b) && ih (Prod.snd (α := q_T n) (β := q_T n) a) (Prod.snd (α := q_T n) (β := q_T n) b)) n
noncomputable def q_sl (a : List Nat) : List Nat → Bool := List.rec (fun b => match b with
  | [] => true
  | _ => false) (fun x _ ih b => match b with
  | [] => false
  | y :: t => Nat.beq x y && ih t) a
noncomputable def q_lk (mem : q_M) (i : Nat) (as : List Nat) (h : q_H) : Option q_R := List.rec none (fun e _ ih => bif Nat.beq e.1 i && (q_sl e.2.1 as && (Nat.beq e.2.2.1.1 h.1 && q_sm 7 e.2.2.1.2 h.2)) then some e.2.2.2 else ih) mem
noncomputable def q_cal (cdt : Nat → List q_I) (mem : q_M) (ih : q_F) (d x : Nat) (as : List Nat) (h : q_H) : Option q_R := match q_lk mem x as h with
  | some r => bif Nat.blt 5 d then some r else none
  | none => Nat.rec none (fun d' _ => ih d' x (cdt x) (cdt x) (q_pk as) [] h) d
noncomputable def q_inv (cdt : Nat → List q_I) (mem : q_M) (ih : q_F) (d i : Nat) (cd tl : List q_I) (loc x y z : Nat) (st : List Nat) (h : q_H) (virt : Bool) : Option q_R := bif Nat.beq z 99 then none else match q_pp y st [] with
  | none => none
  | some (as, r) => bif Nat.ble (q_len r) 4 && (bif virt then (match as with
      | [] => false
      | a :: _ => bif Nat.ble 4294967328 a && Nat.blt (q_rf a) h.1 then Nat.beq (q_tg 7 h.2 (q_rf a)).1 (Nat.mul 2 z) else false) else true) then (match q_cal cdt mem ih d x as h with
    | none => none
    | some (h', rt) => ih d i cd tl loc (rt ++ r) h') else none
noncomputable def q_cpy (ih : q_F) (d i : Nat) (cd tl : List q_I) (loc : Nat) (st : List Nat) (h : q_H) : Option q_R := match st with
  | n :: dp :: b :: sp :: a :: r => q_at h a (fun _ ka la Na => q_at h b (fun kb kb2 lb _ => bif Nat.beq ka 1 && (Nat.beq kb2 1 && (Nat.beq la lb && (Nat.beq n la && (Nat.beq sp 0 && (Nat.beq dp 0 && (Nat.ble (q_len r) 4 && (Nat.ble 1 d && Nat.ble la 100000))))))) then ih d i cd tl loc r (q_up h kb kb2 lb Na) else none))
  | _ => none
noncomputable def q_oin (ih : q_F) (d i : Nat) (cd tl : List q_I) (loc : Nat) (st : List Nat) (h : q_H) : Option q_R := match st with
  | a :: r => bif Nat.ble 4294967328 a && (Nat.ble (q_len r) 4 && Nat.ble 1 d) then ih d i cd tl loc r h else none
  | _ => none
noncomputable def q_step (rg : Nat → Nat × Nat) (cdt : Nat → List q_I) (mem : q_M) (ih : q_F) (d i : Nat) (cd : List q_I) (pc : Nat) (ins : Instr) (x y z : Nat) (tl : List q_I) (loc : Nat) (st : List Nat) (h : q_H) : Option q_R := match ins with
  | .iconst _ | .bipush _ | .sipush _ => ih d i cd tl loc (x :: st) h
  | .ldc _ | .ldc_w _ => bif Nat.beq z 99 then none else ih d i cd tl loc (x :: st) h
  | .lconst _ => ih d i cd tl loc (4294967314 :: st) h
  | .aconst_null => ih d i cd tl loc (4294967312 :: st) h
  | .iload _ | .iload_n _ => Nat.rec none (fun c _ => bif q_in c then ih d i cd tl loc (c :: st) h else none) (q_get loc x)
  | .aload _ | .aload_n _ => Nat.rec none (fun c _ => bif Nat.ble 4294967328 c || Nat.beq c 4294967312 then ih d i cd tl loc (c :: st) h else none) (q_get loc x)
  | .istore _ | .istore_n _ => (match st with
    | c :: r => bif q_in c then q_fr (q_set loc x (Nat.succ c)) (fun l => ih d i cd tl l r h) else none
    | _ => none)
  | .astore _ | .astore_n _ => (match st with
    | c :: r => bif Nat.ble 4294967328 c || Nat.beq c 4294967312 then q_fr (q_set loc x (Nat.succ c)) (fun l => ih d i cd tl l r h) else none
    | _ => none)
  | .iinc _ _ => Nat.rec none (fun c _ => bif q_ex c then q_fr (q_set loc x (Nat.succ (q_w (Nat.add c y)))) (fun l => ih d i cd tl l st h) else none) (q_get loc x)
  | .iadd => q_ar (fun a b => q_w (Nat.add a b)) st (fun s => ih d i cd tl loc s h)
  | .isub => q_ar (fun a b => q_w (Nat.sub (Nat.add a 4294967296) b)) st (fun s => ih d i cd tl loc s h)
  | .imul => q_ar (fun a b => q_w (Nat.mul a b)) st (fun s => ih d i cd tl loc s h)
  | .iand => q_an rg st (fun s => ih d i cd tl loc s h)
  | .ior => q_ar Nat.lor st (fun s => ih d i cd tl loc s h)
  | .ixor => q_ar Nat.xor st (fun s => ih d i cd tl loc s h)
  | .ineg => (match st with
    | a :: r => bif q_ex a then q_fr (q_w (Nat.sub 4294967296 a)) (fun v => ih d i cd tl loc (v :: r) h) else none
    | _ => none)
  | .idiv => (match st with
    | b :: a :: r => bif Nat.ble a 2147483647 && (Nat.ble b 2147483647 && Nat.blt 0 b) then q_fr (Nat.div a b) (fun v => ih d i cd tl loc (v :: r) h) else none
    | _ => none)
  | .irem => (match st with
    | b :: a :: r => bif Nat.ble a 2147483647 && (Nat.ble b 2147483647 && Nat.blt 0 b) then q_fr (Nat.mod a b) (fun v => ih d i cd tl loc (v :: r) h) else none
    | _ => none)
  | .ishl => (match st with
    | b :: a :: r => bif Nat.blt b 32 && q_in a then (bif q_ex a then q_fr (q_w (Nat.shiftLeft a b)) (fun v => ih d i cd tl loc (v :: r) h) else ih d i cd tl loc (4294967296 :: r) h) else none
    | _ => none)
  | .ishr => (match st with
    | b :: a :: r => bif Nat.blt b 32 && q_in a then (bif q_ex a then q_fr (bif Nat.ble a 2147483647 then Nat.shiftRight a b else Nat.sub (Nat.add (Nat.shiftRight a b) 4294967296) (Nat.pow 2 (Nat.sub 32 b))) (fun v => ih d i cd tl loc (v :: r) h) else ih d i cd tl loc (4294967296 :: r) h) else none
    | _ => none)
  | .iushr => (match st with
    | b :: a :: r => bif Nat.blt b 32 && q_in a then (bif q_ex a then q_fr (Nat.shiftRight a b) (fun v => ih d i cd tl loc (v :: r) h) else ih d i cd tl loc (4294967296 :: r) h) else none
    | _ => none)
  | .i2b => (match st with
    | a :: r => bif q_in a then ih d i cd tl loc (4294967296 :: r) h else none
    | _ => none)
  | .dup => (match st with
    | a :: r => bif Nat.beq a 4294967314 then none else ih d i cd tl loc (a :: a :: r) h
    | _ => none)
  | .dup2 => (match st with
    | b :: a :: r => bif Nat.beq a 4294967314 || Nat.beq b 4294967314 then none else ih d i cd tl loc (b :: a :: b :: a :: r) h
    | _ => none)
  | .pop => (match st with
    | a :: r => bif Nat.beq a 4294967314 then none else ih d i cd tl loc r h
    | _ => none)
  | .ifCond c _ => (match st with
    | a :: r => q_br (q_cm rg c a 0) (ih d i cd (q_jm cd x) loc r h) (ih d i cd tl loc r h)
    | _ => none)
  | .if_icmp c _ => (match st with
    | b :: a :: r => q_br (q_cm rg c a b) (ih d i cd (q_jm cd x) loc r h) (ih d i cd tl loc r h)
    | _ => none)
  | .ifnull _ => (match st with
    | a :: r => bif Nat.ble 4294967328 a then ih d i cd tl loc r h else none
    | _ => none)
  | .ifnonnull _ => (match st with
    | a :: r => bif Nat.ble 4294967328 a then ih d i cd (q_jm cd x) loc r h else bif Nat.beq a 4294967312 then ih d i cd tl loc r h else none
    | _ => none)
  | .goto _ => ih d i cd (q_jm cd x) loc st h
  | .tableswitch df _ _ offs => (match st with
    | a :: r => bif q_ex a && (Nat.ble x a && Nat.ble a y) then ih d i cd (q_jm cd (Int.toNat (Int.add (Int.ofNat pc) (q_nth offs.toList 0 (Nat.sub a x))))) loc r h else bif q_in a && (Nat.blt (q_hi rg a) (q_bi x) || Nat.blt (q_bi y) (q_lo rg a)) then ih d i cd (q_jm cd (Int.toNat (Int.add (Int.ofNat pc) df))) loc r h else none
    | _ => none)
  | .new _ => q_nw h (Nat.mul 2 x) y z (fun h' c => ih d i cd tl loc (c :: st) h')
  | .newarray _ => (match st with
    | n :: r => bif Nat.ble n 100000 then q_nw h x n 0 (fun h' c => ih d i cd tl loc (c :: r) h') else none
    | _ => none)
  | .anewarray _ => (match st with
    | n :: r => bif Nat.ble n 100000 then q_nw h 9 n 0 (fun h' c => ih d i cd tl loc (c :: r) h') else none
    | _ => none)
  | .arraylength => (match st with
    | a :: r => q_at h a (fun _ kd ln _ => bif Nat.beq (Nat.mod kd 2) 1 && Nat.ble ln 100000 then ih d i cd tl loc (ln :: r) h else none)
    | _ => none)
  | .iaload => (match st with
    | j :: a :: r => q_at h a (fun _ kd ln N => bif Nat.beq kd 1 && Nat.blt j ln then q_fr (q_get N j) (fun v => ih d i cd tl loc (v :: r) h) else none)
    | _ => none)
  | .baload => (match st with
    | j :: a :: r => q_at h a (fun _ kd ln N => bif (Nat.beq kd 3 || Nat.beq kd 5) && Nat.blt j ln then q_fr (q_get N j) (fun v => ih d i cd tl loc (v :: r) h) else none)
    | _ => none)
  | .aaload => (match st with
    | j :: a :: r => q_at h a (fun _ kd ln N => bif Nat.beq kd 9 && Nat.blt j ln then q_fr (q_get N j) (fun v => ih d i cd tl loc ((bif Nat.beq v 0 then 4294967312 else v) :: r) h) else none)
    | _ => none)
  | .iastore => (match st with
    | v :: j :: a :: r => q_at h a (fun k kd ln N => bif Nat.beq kd 1 && (Nat.blt j ln && q_in v) then q_fr (q_set N j v) (fun N' => ih d i cd tl loc r (q_up h k kd ln N')) else none)
    | _ => none)
  | .bastore => (match st with
    | v :: j :: a :: r => q_at h a (fun k kd ln N => bif (Nat.beq kd 3 || (Nat.beq kd 5 && Nat.blt v 2)) && (Nat.blt j ln && q_in v) then q_fr (q_set N j (bif Nat.blt v 2 then v else 4294967296)) (fun N' => ih d i cd tl loc r (q_up h k kd ln N')) else none)
    | _ => none)
  | .aastore => (match st with
    | v :: j :: a :: r => q_at h a (fun k kd ln N => q_at h v (fun _ kv _ _ => bif Nat.beq kd 9 && (Nat.beq kv 10 && Nat.blt j ln) then q_fr (q_set N j v) (fun N' => ih d i cd tl loc r (q_up h k kd ln N')) else none))
    | _ => none)
  | .getfield _ => (match st with
    | a :: r => q_at h a (fun _ kd ln N => bif Nat.beq kd (Nat.mul 2 x) && Nat.blt y ln then q_fr (q_get N y) (fun v => bif Nat.beq v 4294967313 then none else ih d i cd tl loc (v :: r) h) else none)
    | _ => none)
  | .putfield _ => (match st with
    | v :: a :: r => q_at h a (fun k kd ln N => bif Nat.beq kd (Nat.mul 2 x) && (Nat.blt y ln && (bif Nat.beq z 0 then q_in v else bif Nat.beq z 1 then Nat.blt v 2 else bif Nat.beq z 2 then (Nat.ble 4294967328 v || Nat.beq v 4294967312) else Nat.beq v 4294967314)) then q_fr (q_set N y (bif Nat.beq z 3 then 4294967313 else v)) (fun N' => ih d i cd tl loc r (q_up h k kd ln N')) else none)
    | _ => none)
  | .invokevirtual _ => q_inv cdt mem ih d i cd tl loc x y z st h true
  | .invokestatic _ => bif Nat.beq z 77 then q_cpy ih d i cd tl loc st h else q_inv cdt mem ih d i cd tl loc x y z st h false
  | .invokespecial _ => bif Nat.beq z 78 then q_oin ih d i cd tl loc st h else q_inv cdt mem ih d i cd tl loc x y z st h true
  | .ireturn => (match st with
    | [v] => bif (bif Nat.beq x 0 then q_in v else bif Nat.beq x 1 then Nat.blt v 2 else false) then some (h, [v]) else none
    | _ => none)
  | .areturn => (match st with
    | [v] => bif Nat.ble 4294967328 v then some (h, [v]) else none
    | _ => none)
  | .return_ => (match st with
    | [] => some (h, [])
    | _ => none)
  | _ => none
noncomputable def q_run (rg : Nat → Nat × Nat) (cdt : Nat → List q_I) (mem : q_M) (fuel : Nat) : q_F := Nat.rec (fun _ _ _ _ _ _ _ => none) (fun _ ih d i cd rest loc st h => List.rec none (fun e tl _ => q_step rg cdt mem ih d i cd e.1 e.2.2.1 e.2.2.2.1 e.2.2.2.2.1 e.2.2.2.2.2 tl loc st h) rest) fuel

/-! ===== runs of the evaluator told backward: a rule for each instruction that guard's methods use ===== -/
def z_rg : Nat → Nat × Nat := fun _ => (0, 4294967295)
/-- from an instruction, locals l, stack st, heap h the evaluator ends in R, with every fuel from some on -/
def Z (d i : Nat) (rest : List q_I) (l st : List Nat) (h : q_H) (R : q_R) : Prop := ∃ f0, ∀ f, f0 ≤ f → ∀ loc, (∀ j, q_get loc j = l.getD j 0) → q_run z_rg q_code [] f d i (q_code i) rest loc st h = some R
def ZC (d x : Nat) (as : List Nat) (h : q_H) (R : q_R) : Prop := ∃ f0, ∀ f, f0 ≤ f → q_run z_rg q_code [] f d x (q_code x) (q_code x) (q_pk as) [] h = some R
section
variable {d i : Nat} {tl tl' : List q_I} {l st : List Nat} {h : q_H} {R : q_R} {pc ln x y z : Nat}
theorem z_1 (e : q_I) {l' st' : List Nat} {h' : q_H} (hs : ∀ (ih : q_F) (loc : Nat), (∀ j, q_get loc j = l.getD j 0) → ∃ loc', (∀ j, q_get loc' j = l'.getD j 0) ∧ q_step z_rg q_code [] ih d i (q_code i) e.1 e.2.2.1 e.2.2.2.1 e.2.2.2.2.1 e.2.2.2.2.2 tl loc st h = ih d i (q_code i) tl' loc' st' h') (k : Z d i tl' l' st' h' R) : Z d i (e :: tl) l st h R := by
  obtain ⟨f0, hf⟩ := k
  refine ⟨f0 + 1, fun f hle loc hl => ?_⟩
  obtain ⟨g, rfl⟩ : ∃ g, f = g + 1 := ⟨f - 1, by omega⟩
  obtain ⟨loc', hl', e'⟩ := hs (q_run z_rg q_code [] g) loc hl
  show q_step z_rg q_code [] (q_run z_rg q_code [] g) d i (q_code i) e.1 e.2.2.1 e.2.2.2.1 e.2.2.2.2.1 e.2.2.2.2.2 tl loc st h = some R
  rw [e']
  exact hf g (by omega) loc' hl'
theorem z_sl {loc v : Nat} (hl : ∀ j, q_get loc j = l.getD j 0) (hx : x < l.length) (hv : v < 2 ^ 34) : ∀ j, q_get (q_set loc x v) j = (l.set x v).getD j 0 := by
  intro j
  rw [q_get_set loc x v j hv, List.getD_eq_getElem?_getD, List.getElem?_set]
  by_cases e : j = x
  · subst e
    rw [if_pos rfl, if_pos rfl, if_pos hx]
    rfl
  · rw [if_neg e, if_neg (fun g => e g.symm), hl j, List.getD_eq_getElem?_getD]
theorem z_e2 {a b : Nat} (ha : a ≤ 4294967295) (hb : b ≤ 4294967295) : q_e2 a b = true := by
  unfold q_e2
  rw [q_ble.mpr ha, q_ble.mpr hb]
  rfl
theorem z_ic {n : _} (k : Z d i tl l (x :: st) h R) : Z d i ((pc, ln, .iconst n, x, y, z) :: tl) l st h R := z_1 _ (fun _ loc hl => ⟨loc, hl, rfl⟩) k
theorem z_bp {n : _} (k : Z d i tl l (x :: st) h R) : Z d i ((pc, ln, .bipush n, x, y, z) :: tl) l st h R := z_1 _ (fun _ loc hl => ⟨loc, hl, rfl⟩) k
theorem z_sp {n : _} (k : Z d i tl l (x :: st) h R) : Z d i ((pc, ln, .sipush n, x, y, z) :: tl) l st h R := z_1 _ (fun _ loc hl => ⟨loc, hl, rfl⟩) k
theorem z_il {n : _} {c : Nat} (hx : l.getD x 0 = c + 1) (hc : c ≤ 4294967295) (k : Z d i tl l (c :: st) h R) : Z d i ((pc, ln, .iload n, x, y, z) :: tl) l st h R := z_1 _ (fun ih loc hl => ⟨loc, hl, by
  show Nat.rec (motive := fun _ => Option q_R) none (fun c _ => bif q_in c then ih d i (q_code i) tl loc (c :: st) h else none) (q_get loc x) = _
  rw [hl x, hx]
  exact q_ift (ih d i (q_code i) tl loc (c :: st) h) none (q_in_iff.mpr (by omega : c ≤ 4294967311))⟩) k
theorem z_iln {n : _} {c : Nat} (hx : l.getD x 0 = c + 1) (hc : c ≤ 4294967295) (k : Z d i tl l (c :: st) h R) : Z d i ((pc, ln, .iload_n n, x, y, z) :: tl) l st h R := z_1 _ (fun ih loc hl => ⟨loc, hl, by
  show Nat.rec (motive := fun _ => Option q_R) none (fun c _ => bif q_in c then ih d i (q_code i) tl loc (c :: st) h else none) (q_get loc x) = _
  rw [hl x, hx]
  exact q_ift (ih d i (q_code i) tl loc (c :: st) h) none (q_in_iff.mpr (by omega : c ≤ 4294967311))⟩) k
theorem z_aln {n : _} {c : Nat} (hx : l.getD x 0 = c + 1) (hc : 4294967328 ≤ c) (k : Z d i tl l (c :: st) h R) : Z d i ((pc, ln, .aload_n n, x, y, z) :: tl) l st h R := z_1 _ (fun ih loc hl => ⟨loc, hl, by
  show Nat.rec (motive := fun _ => Option q_R) none (fun c _ => bif Nat.ble 4294967328 c || Nat.beq c 4294967312 then ih d i (q_code i) tl loc (c :: st) h else none) (q_get loc x) = _
  rw [hl x, hx]
  exact q_ift (ih d i (q_code i) tl loc (c :: st) h) none (by rw [q_ble.mpr hc]; rfl)⟩) k
theorem z_is {n : _} {c : Nat} {r : List Nat} (hx : x < l.length) (hc : c ≤ 4294967295) (k : Z d i tl (l.set x (c + 1)) r h R) : Z d i ((pc, ln, .istore n, x, y, z) :: tl) l (c :: r) h R := z_1 _ (fun ih loc hl => ⟨q_set loc x (c + 1), z_sl hl hx (by omega), by
  show (bif q_in c then q_fr (q_set loc x (Nat.succ c)) (fun l => ih d i (q_code i) tl l r h) else none) = _
  rw [q_ift _ _ (q_in_iff.mpr (by omega : c ≤ 4294967311)), q_fr_eq]⟩) k
theorem z_isn {n : _} {c : Nat} {r : List Nat} (hx : x < l.length) (hc : c ≤ 4294967295) (k : Z d i tl (l.set x (c + 1)) r h R) : Z d i ((pc, ln, .istore_n n, x, y, z) :: tl) l (c :: r) h R := z_1 _ (fun ih loc hl => ⟨q_set loc x (c + 1), z_sl hl hx (by omega), by
  show (bif q_in c then q_fr (q_set loc x (Nat.succ c)) (fun l => ih d i (q_code i) tl l r h) else none) = _
  rw [q_ift _ _ (q_in_iff.mpr (by omega : c ≤ 4294967311)), q_fr_eq]⟩) k
theorem z_we (n : Nat) : q_w n = n % 4294967296 := rfl
theorem z_wl {n : Nat} (hn : n ≤ 4294967295) : q_w n = n := by
  rw [z_we]
  exact Nat.mod_eq_of_lt (by omega)
theorem z_ii {n m : _} {c v : Nat} (hx : l.getD x 0 = c + 1) (hxl : x < l.length) (hv : c + y = v) (hb : v ≤ 4294967295) (k : Z d i tl (l.set x (v + 1)) st h R) : Z d i ((pc, ln, .iinc n m, x, y, z) :: tl) l st h R := z_1 _ (fun ih loc hl => ⟨q_set loc x (v + 1), z_sl hl hxl (by omega), by
  show Nat.rec (motive := fun _ => Option q_R) none (fun c _ => bif q_ex c then q_fr (q_set loc x (Nat.succ (q_w (Nat.add c y)))) (fun l => ih d i (q_code i) tl l st h) else none) (q_get loc x) = _
  rw [hl x, hx]
  show (bif q_ex c then q_fr (q_set loc x (Nat.succ (q_w (Nat.add c y)))) (fun l => ih d i (q_code i) tl l st h) else none) = _
  rw [q_ift _ _ (q_ex_iff.mpr (by omega : c ≤ 4294967295)), q_fr_eq, Nat.add_eq, hv, z_wl hb]⟩) k
theorem z_arr {f : Nat → Nat → Nat} {a b v : Nat} {r : List Nat} {loc : Nat} {ih : q_F} (ha : a ≤ 4294967295) (hb : b ≤ 4294967295) (hv : f a b = v) : q_ar f (b :: a :: r) (fun s => ih d i (q_code i) tl loc s h) = ih d i (q_code i) tl loc (v :: r) h := by
  show (bif q_e2 a b then q_fr (f a b) (fun v => ih d i (q_code i) tl loc (v :: r) h) else bif q_i2 a b then ih d i (q_code i) tl loc (4294967296 :: r) h else none) = _
  rw [q_ift _ _ (z_e2 ha hb), q_fr_eq, hv]
theorem z_add {a b v : Nat} {r : List Nat} (hv : a + b = v) (hb : v ≤ 4294967295) (k : Z d i tl l (v :: r) h R) : Z d i ((pc, ln, .iadd, x, y, z) :: tl) l (b :: a :: r) h R := z_1 _ (fun ih loc hl => ⟨loc, hl, z_arr (f := fun a b => q_w (Nat.add a b)) (by omega) (by omega) (by
  show q_w (Nat.add a b) = v
  rw [Nat.add_eq, hv, z_wl hb])⟩) k
theorem z_sub {a b v : Nat} {r : List Nat} (ha : a ≤ 4294967295) (hb : b ≤ 4294967295) (hv : (a + 4294967296 - b) % 4294967296 = v) (k : Z d i tl l (v :: r) h R) : Z d i ((pc, ln, .isub, x, y, z) :: tl) l (b :: a :: r) h R := z_1 _ (fun ih loc hl => ⟨loc, hl, z_arr (f := fun a b => q_w (Nat.sub (Nat.add a 4294967296) b)) ha hb (by
  show q_w (Nat.sub (Nat.add a 4294967296) b) = v
  rw [Nat.sub_eq, Nat.add_eq, z_we, hv])⟩) k
theorem z_mul {a b v : Nat} {r : List Nat} (ha : a ≤ 4294967295) (hb : b ≤ 4294967295) (hv : a * b = v) (hb2 : v ≤ 4294967295) (k : Z d i tl l (v :: r) h R) : Z d i ((pc, ln, .imul, x, y, z) :: tl) l (b :: a :: r) h R := z_1 _ (fun ih loc hl => ⟨loc, hl, z_arr (f := fun a b => q_w (Nat.mul a b)) ha hb (by
  show q_w (Nat.mul a b) = v
  rw [Nat.mul_eq, hv, z_wl hb2])⟩) k
theorem z_or {a b v : Nat} {r : List Nat} (ha : a ≤ 4294967295) (hb : b ≤ 4294967295) (hv : a ||| b = v) (k : Z d i tl l (v :: r) h R) : Z d i ((pc, ln, .ior, x, y, z) :: tl) l (b :: a :: r) h R := z_1 _ (fun ih loc hl => ⟨loc, hl, z_arr (f := Nat.lor) ha hb hv⟩) k
theorem z_xor {a b v : Nat} {r : List Nat} (ha : a ≤ 4294967295) (hb : b ≤ 4294967295) (hv : a ^^^ b = v) (k : Z d i tl l (v :: r) h R) : Z d i ((pc, ln, .ixor, x, y, z) :: tl) l (b :: a :: r) h R := z_1 _ (fun ih loc hl => ⟨loc, hl, z_arr (f := Nat.xor) ha hb hv⟩) k
theorem z_and {a b v : Nat} {r : List Nat} (ha : a ≤ 4294967295) (hb : b ≤ 4294967295) (hv : a &&& b = v) (k : Z d i tl l (v :: r) h R) : Z d i ((pc, ln, .iand, x, y, z) :: tl) l (b :: a :: r) h R := z_1 _ (fun ih loc hl => ⟨loc, hl, by
  show (bif q_e2 a b then q_fr (Nat.land a b) (fun v => ih d i (q_code i) tl loc (v :: r) h) else bif q_i2 a b then q_fr (q_ax z_rg a b) (fun v => ih d i (q_code i) tl loc (v :: r) h) else none) = _
  rw [q_ift _ _ (z_e2 ha hb), q_fr_eq, ← hv]
  rfl⟩) k
theorem z_sh {a b : Nat} (hb : b < 32) (ha : a ≤ 4294967295) : (Nat.blt b 32 && q_in a) = true := by
  rw [q_blt.mpr hb, q_in_iff.mpr (by omega : a ≤ 4294967311)]
  rfl
theorem z_shl {a b : Nat} {r : List Nat} (ha : a ≤ 4294967295) (hb : b < 32) (k : Z d i tl l (q_w (a <<< b) :: r) h R) : Z d i ((pc, ln, .ishl, x, y, z) :: tl) l (b :: a :: r) h R := z_1 _ (fun ih loc hl => ⟨loc, hl, by
  show (bif Nat.blt b 32 && q_in a then (bif q_ex a then q_fr (q_w (Nat.shiftLeft a b)) (fun v => ih d i (q_code i) tl loc (v :: r) h) else ih d i (q_code i) tl loc (4294967296 :: r) h) else none) = _
  rw [q_ift _ _ (z_sh hb ha), q_ift _ _ (q_ex_iff.mpr ha), q_fr_eq]
  rfl⟩) k
theorem z_shr {a b : Nat} {r : List Nat} (ha : a ≤ 2147483647) (hb : b < 32) (k : Z d i tl l ((a >>> b) :: r) h R) : Z d i ((pc, ln, .ishr, x, y, z) :: tl) l (b :: a :: r) h R := z_1 _ (fun ih loc hl => ⟨loc, hl, by
  show (bif Nat.blt b 32 && q_in a then (bif q_ex a then q_fr (bif Nat.ble a 2147483647 then Nat.shiftRight a b else Nat.sub (Nat.add (Nat.shiftRight a b) 4294967296) (Nat.pow 2 (Nat.sub 32 b))) (fun v => ih d i (q_code i) tl loc (v :: r) h) else ih d i (q_code i) tl loc (4294967296 :: r) h) else none) = _
  rw [q_ift _ _ (z_sh hb (by omega : a ≤ 4294967295)), q_ift _ _ (q_ex_iff.mpr (by omega : a ≤ 4294967295)), q_fr_eq, q_ift _ _ (q_ble.mpr ha)]
  rfl⟩) k
theorem z_ushr {a b : Nat} {r : List Nat} (ha : a ≤ 4294967295) (hb : b < 32) (k : Z d i tl l ((a >>> b) :: r) h R) : Z d i ((pc, ln, .iushr, x, y, z) :: tl) l (b :: a :: r) h R := z_1 _ (fun ih loc hl => ⟨loc, hl, by
  show (bif Nat.blt b 32 && q_in a then (bif q_ex a then q_fr (Nat.shiftRight a b) (fun v => ih d i (q_code i) tl loc (v :: r) h) else ih d i (q_code i) tl loc (4294967296 :: r) h) else none) = _
  rw [q_ift _ _ (z_sh hb ha), q_ift _ _ (q_ex_iff.mpr ha), q_fr_eq]
  rfl⟩) k
theorem z_dv {a b : Nat} (ha : a ≤ 2147483647) (hb : b ≤ 2147483647) (h0 : 0 < b) : (Nat.ble a 2147483647 && (Nat.ble b 2147483647 && Nat.blt 0 b)) = true := by
  rw [q_ble.mpr ha, q_ble.mpr hb, q_blt.mpr h0]
  rfl
theorem z_div {a b v : Nat} {r : List Nat} (ha : a ≤ 2147483647) (hb : b ≤ 2147483647) (h0 : 0 < b) (hv : a / b = v) (k : Z d i tl l (v :: r) h R) : Z d i ((pc, ln, .idiv, x, y, z) :: tl) l (b :: a :: r) h R := z_1 _ (fun ih loc hl => ⟨loc, hl, by
  show (bif Nat.ble a 2147483647 && (Nat.ble b 2147483647 && Nat.blt 0 b) then q_fr (Nat.div a b) (fun v => ih d i (q_code i) tl loc (v :: r) h) else none) = _
  rw [q_ift _ _ (z_dv ha hb h0), q_fr_eq, ← hv]
  rfl⟩) k
theorem z_rem {a b v : Nat} {r : List Nat} (ha : a ≤ 2147483647) (hb : b ≤ 2147483647) (h0 : 0 < b) (hv : a % b = v) (k : Z d i tl l (v :: r) h R) : Z d i ((pc, ln, .irem, x, y, z) :: tl) l (b :: a :: r) h R := z_1 _ (fun ih loc hl => ⟨loc, hl, by
  show (bif Nat.ble a 2147483647 && (Nat.ble b 2147483647 && Nat.blt 0 b) then q_fr (Nat.mod a b) (fun v => ih d i (q_code i) tl loc (v :: r) h) else none) = _
  rw [q_ift _ _ (z_dv ha hb h0), q_fr_eq, ← hv]
  rfl⟩) k
theorem z_neg {a v : Nat} {r : List Nat} (ha : a ≤ 4294967295) (hv : (4294967296 - a) % 4294967296 = v) (k : Z d i tl l (v :: r) h R) : Z d i ((pc, ln, .ineg, x, y, z) :: tl) l (a :: r) h R := z_1 _ (fun ih loc hl => ⟨loc, hl, by
  show (bif q_ex a then q_fr (q_w (Nat.sub 4294967296 a)) (fun v => ih d i (q_code i) tl loc (v :: r) h) else none) = _
  rw [q_ift _ _ (q_ex_iff.mpr ha), q_fr_eq, Nat.sub_eq, z_we, hv]⟩) k
theorem z_cT {c : _} {o : _} {a : Nat} {r : List Nat} (hb : q_cm z_rg c a 0 = some true) (hj : q_jm (q_code i) x = tl') (k : Z d i tl' l r h R) : Z d i ((pc, ln, .ifCond c o, x, y, z) :: tl) l (a :: r) h R := z_1 _ (fun ih loc hl => ⟨loc, hl, by
  show q_br (q_cm z_rg c a 0) (ih d i (q_code i) (q_jm (q_code i) x) loc r h) (ih d i (q_code i) tl loc r h) = _
  rw [hb, hj]
  rfl⟩) k
theorem z_cF {c : _} {o : _} {a : Nat} {r : List Nat} (hb : q_cm z_rg c a 0 = some false) (k : Z d i tl l r h R) : Z d i ((pc, ln, .ifCond c o, x, y, z) :: tl) l (a :: r) h R := z_1 _ (fun ih loc hl => ⟨loc, hl, by
  show q_br (q_cm z_rg c a 0) (ih d i (q_code i) (q_jm (q_code i) x) loc r h) (ih d i (q_code i) tl loc r h) = _
  rw [hb]
  rfl⟩) k
theorem z_iT {c : _} {o : _} {a b : Nat} {r : List Nat} (hb : q_cm z_rg c a b = some true) (hj : q_jm (q_code i) x = tl') (k : Z d i tl' l r h R) : Z d i ((pc, ln, .if_icmp c o, x, y, z) :: tl) l (b :: a :: r) h R := z_1 _ (fun ih loc hl => ⟨loc, hl, by
  show q_br (q_cm z_rg c a b) (ih d i (q_code i) (q_jm (q_code i) x) loc r h) (ih d i (q_code i) tl loc r h) = _
  rw [hb, hj]
  rfl⟩) k
theorem z_iF {c : _} {o : _} {a b : Nat} {r : List Nat} (hb : q_cm z_rg c a b = some false) (k : Z d i tl l r h R) : Z d i ((pc, ln, .if_icmp c o, x, y, z) :: tl) l (b :: a :: r) h R := z_1 _ (fun ih loc hl => ⟨loc, hl, by
  show q_br (q_cm z_rg c a b) (ih d i (q_code i) (q_jm (q_code i) x) loc r h) (ih d i (q_code i) tl loc r h) = _
  rw [hb]
  rfl⟩) k
theorem z_go {o : _} (hj : q_jm (q_code i) x = tl') (k : Z d i tl' l st h R) : Z d i ((pc, ln, .goto o, x, y, z) :: tl) l st h R := z_1 _ (fun ih loc hl => ⟨loc, hl, by
  show ih d i (q_code i) (q_jm (q_code i) x) loc st h = _
  rw [hj]⟩) k
theorem z_at {α : Type} {c j : Nat} (k : Nat → Nat → Nat → Nat → Option α) (hc : c = 4294967328 + j) (hj : j < h.1) (hh : h.1 ≤ 128) {C : q_C} (ht : q_tg 7 h.2 j = C) : q_at h c k = k j C.1 C.2.1 C.2.2 := by
  have e : q_rf c = j := by rw [q_rf_eq, hc, Nat.add_sub_cancel_left]
  have hb : (Nat.ble 4294967328 c && (Nat.blt (q_rf c) h.1 && Nat.ble h.1 128)) = true := by
    rw [e, q_ble.mpr (by omega : 4294967328 ≤ c), q_blt.mpr hj, q_ble.mpr hh]
    rfl
  show (bif Nat.ble 4294967328 c && (Nat.blt (q_rf c) h.1 && Nat.ble h.1 128) then q_fr (q_rf c) (fun j => k j (q_tg 7 h.2 j).1 (q_tg 7 h.2 j).2.1 (q_tg 7 h.2 j).2.2) else none) = _
  rw [q_ift _ _ hb, q_fr_eq, e, ht]
theorem z_gf {o : _} {c j n N v : Nat} {r : List Nat} (hc : c = 4294967328 + j) (hj : j < h.1) (hh : h.1 ≤ 128) (ht : q_tg 7 h.2 j = (Nat.mul 2 x, n, N)) (hy : y < n) (hv : q_get N y = v) (hn : ¬ v = 4294967313) (k : Z d i tl l (v :: r) h R) : Z d i ((pc, ln, .getfield o, x, y, z) :: tl) l (c :: r) h R := z_1 _ (fun ih loc hl => ⟨loc, hl, by
  show q_at h c (fun _ kd ln N => bif Nat.beq kd (Nat.mul 2 x) && Nat.blt y ln then q_fr (q_get N y) (fun v => bif Nat.beq v 4294967313 then none else ih d i (q_code i) tl loc (v :: r) h) else none) = _
  rw [z_at _ hc hj hh ht]
  show (bif Nat.beq (Nat.mul 2 x) (Nat.mul 2 x) && Nat.blt y n then q_fr (q_get N y) (fun v => bif Nat.beq v 4294967313 then none else ih d i (q_code i) tl loc (v :: r) h) else none) = _
  rw [q_ift _ _ (by rw [q_blt.mpr hy, q_beq.mpr rfl]; rfl), q_fr_eq, hv, q_iff _ _ (q_bneq.mpr hn)]⟩) k
theorem z_ia {c j m n N v : Nat} {r : List Nat} (hc : c = 4294967328 + j) (hj : j < h.1) (hh : h.1 ≤ 128) (ht : q_tg 7 h.2 j = (1, n, N)) (hm : m < n) (hv : q_get N m = v) (k : Z d i tl l (v :: r) h R) : Z d i ((pc, ln, .iaload, x, y, z) :: tl) l (m :: c :: r) h R := z_1 _ (fun ih loc hl => ⟨loc, hl, by
  show q_at h c (fun _ kd ln N => bif Nat.beq kd 1 && Nat.blt m ln then q_fr (q_get N m) (fun v => ih d i (q_code i) tl loc (v :: r) h) else none) = _
  rw [z_at _ hc hj hh ht]
  show (bif Nat.beq 1 1 && Nat.blt m n then q_fr (q_get N m) (fun v => ih d i (q_code i) tl loc (v :: r) h) else none) = _
  rw [q_ift _ _ (by rw [q_blt.mpr hm]; rfl), q_fr_eq, hv]⟩) k
theorem z_ias {c j m n N v : Nat} {r : List Nat} {h' : q_H} (hc : c = 4294967328 + j) (hj : j < h.1) (hh : h.1 ≤ 128) (ht : q_tg 7 h.2 j = (1, n, N)) (hm : m < n) (hv : v ≤ 4294967295) (hu : q_up h j 1 n (q_set N m v) = h') (k : Z d i tl l r h' R) : Z d i ((pc, ln, .iastore, x, y, z) :: tl) l (v :: m :: c :: r) h R := z_1 _ (fun ih loc hl => ⟨loc, hl, by
  show q_at h c (fun k kd ln N => bif Nat.beq kd 1 && (Nat.blt m ln && q_in v) then q_fr (q_set N m v) (fun N' => ih d i (q_code i) tl loc r (q_up h k kd ln N')) else none) = _
  rw [z_at _ hc hj hh ht]
  show (bif Nat.beq 1 1 && (Nat.blt m n && q_in v) then q_fr (q_set N m v) (fun N' => ih d i (q_code i) tl loc r (q_up h j 1 n N')) else none) = _
  rw [q_ift _ _ (by rw [q_blt.mpr hm, q_in_iff.mpr (by omega : v ≤ 4294967311)]; rfl), q_fr_eq, hu]⟩) k
theorem z_ir {v : Nat} (hx : x = 0) (hv : v ≤ 4294967295) : Z d i ((pc, ln, .ireturn, x, y, z) :: tl) l [v] h (h, [v]) := by
  refine ⟨1, fun f hf loc _ => ?_⟩
  obtain ⟨g, rfl⟩ : ∃ g, f = g + 1 := ⟨f - 1, by omega⟩
  subst hx
  show (bif q_in v then some (h, [v]) else none) = some (h, [v])
  rw [q_ift _ _ (q_in_iff.mpr (by omega : v ≤ 4294967311))]
theorem z_ir1 {v : Nat} (hx : x = 1) (hv : v < 2) : Z d i ((pc, ln, .ireturn, x, y, z) :: tl) l [v] h (h, [v]) := by
  refine ⟨1, fun f hf loc _ => ?_⟩
  obtain ⟨g, rfl⟩ : ∃ g, f = g + 1 := ⟨f - 1, by omega⟩
  subst hx
  show (bif Nat.blt v 2 then some (h, [v]) else none) = some (h, [v])
  rw [q_ift _ _ (q_blt.mpr hv)]
theorem z_rt : Z d i ((pc, ln, .return_, x, y, z) :: tl) l [] h (h, []) := by
  refine ⟨1, fun f hf loc _ => ?_⟩
  obtain ⟨g, rfl⟩ : ∃ g, f = g + 1 := ⟨f - 1, by omega⟩
  rfl
theorem z_pp : ∀ (sa r acc : List Nat), (∀ a ∈ sa, ¬ a = 4294967314) → q_pp sa.length (sa ++ r) acc = some (sa.reverse ++ acc, r)
  | [], _, _, _ => rfl
  | a :: sa, r, acc, hn => by
    show (bif Nat.beq a 4294967314 then none else q_pp sa.length (sa ++ r) (a :: acc)) = _
    rw [q_iff _ _ (q_bneq.mpr (hn a List.mem_cons_self)), z_pp sa r (a :: acc) (fun b hb => hn b (List.mem_cons_of_mem _ hb))]
    simp
theorem z_inv {cdt : Nat → List q_I} {mem : q_M} {ih : q_F} {cd : List q_I} {loc a : Nat} {as r rt : List Nat} {h' : q_H} {virt : Bool} (hz : Nat.beq z 99 = false) (hp : q_pp y st [] = some (a :: as, r)) (hr : Nat.ble (q_len r) 4 = true) (hw : (bif virt then (bif Nat.ble 4294967328 a && Nat.blt (q_rf a) h.1 then Nat.beq (q_tg 7 h.2 (q_rf a)).1 (Nat.mul 2 z) else false) else true) = true) (hc : q_cal cdt mem ih d x (a :: as) h = some (h', rt)) : q_inv cdt mem ih d i cd tl loc x y z st h virt = ih d i cd tl loc (rt ++ r) h' := by
  unfold q_inv
  rw [q_iff _ _ hz, hp]
  dsimp only
  rw [hr, hw, hc]
  rfl
theorem z_call {a : Nat} {as r rt : List Nat} {h' : q_H} {d' : Nat} {virt : Bool} (hd : d = d' + 1) (hz : Nat.beq z 99 = false) (hp : q_pp y st [] = some (a :: as, r)) (hr : Nat.ble (q_len r) 4 = true) (hw : (bif virt then (bif Nat.ble 4294967328 a && Nat.blt (q_rf a) h.1 then Nat.beq (q_tg 7 h.2 (q_rf a)).1 (Nat.mul 2 z) else false) else true) = true) (hC : ZC d' x (a :: as) h (h', rt)) (k : Z d i tl l (rt ++ r) h' R) (e : q_I) (he : ∀ (ih : q_F) (loc : Nat), q_step z_rg q_code [] ih d i (q_code i) e.1 e.2.2.1 e.2.2.2.1 e.2.2.2.2.1 e.2.2.2.2.2 tl loc st h = q_inv q_code [] ih d i (q_code i) tl loc x y z st h virt) : Z d i (e :: tl) l st h R := by
  obtain ⟨f1, hf1⟩ := hC
  obtain ⟨f2, hf2⟩ := k
  refine ⟨f1 + f2 + 1, fun f hle loc hl => ?_⟩
  obtain ⟨g, rfl⟩ : ∃ g, f = g + 1 := ⟨f - 1, by omega⟩
  show q_step z_rg q_code [] (q_run z_rg q_code [] g) d i (q_code i) e.1 e.2.2.1 e.2.2.2.1 e.2.2.2.2.1 e.2.2.2.2.2 tl loc st h = some R
  have ec : q_cal q_code [] (q_run z_rg q_code [] g) (d' + 1) x (a :: as) h = some (h', rt) := hf1 g (by omega)
  rw [he, hd, z_inv hz hp hr hw ec, ← hd]
  exact hf2 g (by omega) loc hl
theorem z_ist {o : _} {sa r rt : List Nat} {a : Nat} {as : List Nat} {h' : q_H} {d' : Nat} (hst : sa ++ r = st) (hd : d = d' + 1) (hz : Nat.beq z 99 = false) (hz7 : Nat.beq z 77 = false) (hy : y = sa.length) (ha : sa.reverse = a :: as) (hn : ∀ a ∈ sa, ¬ a = 4294967314) (hr : Nat.ble (q_len r) 4 = true) (hC : ZC d' x (a :: as) h (h', rt)) (k : Z d i tl l (rt ++ r) h' R) : Z d i ((pc, ln, .invokestatic o, x, y, z) :: tl) l st h R :=
  z_call (y := y) (z := z) (virt := false) hd hz (by rw [hy, ← hst, z_pp sa r [] hn, List.append_nil, ha]) hr rfl hC k _ (fun ih loc => by
    show (bif Nat.beq z 77 then q_cpy ih d i (q_code i) tl loc st h else q_inv q_code [] ih d i (q_code i) tl loc x y z st h false) = _
    rw [q_iff _ _ hz7])
theorem z_ivt {o : _} {sa r rt : List Nat} {a : Nat} {as : List Nat} {h' : q_H} {d' j : Nat} (hst : sa ++ r = st) (hd : d = d' + 1) (hz : Nat.beq z 99 = false) (hy : y = sa.length) (ha : sa.reverse = a :: as) (hn : ∀ a ∈ sa, ¬ a = 4294967314) (hr : Nat.ble (q_len r) 4 = true) (hc : a = 4294967328 + j) (hj : j < h.1) (ht : (q_tg 7 h.2 j).1 = Nat.mul 2 z) (hC : ZC d' x (a :: as) h (h', rt)) (k : Z d i tl l (rt ++ r) h' R) : Z d i ((pc, ln, .invokevirtual o, x, y, z) :: tl) l st h R :=
  z_call (y := y) (z := z) (virt := true) hd hz (by rw [hy, ← hst, z_pp sa r [] hn, List.append_nil, ha]) hr (by
    have e : q_rf a = j := by rw [q_rf_eq, hc, Nat.add_sub_cancel_left]
    show (bif Nat.ble 4294967328 a && Nat.blt (q_rf a) h.1 then Nat.beq (q_tg 7 h.2 (q_rf a)).1 (Nat.mul 2 z) else false) = true
    rw [e, q_ift _ _ (by rw [q_ble.mpr (by omega : 4294967328 ≤ a), q_blt.mpr hj]; rfl), ht, q_beq.mpr rfl]) hC k _ (fun ih loc => rfl)
theorem z_C {as : List Nat} {x : Nat} {rest : List q_I} (hb : ∀ a ∈ as, a + 1 < 2 ^ 34) (he : q_code x = rest) (hl : ∀ j, (match as[j]? with | some a => a + 1 | none => 0) = l.getD j 0) (k : Z d x rest l [] h R) : ZC d x as h R := by
  obtain ⟨f0, hf⟩ := k
  refine ⟨f0, fun f hle => ?_⟩
  have := hf f hle (q_pk as) (fun j => by rw [q_pk_get as hb j]; exact hl j)
  rw [← he] at this
  exact this
end
/-! comparing ints that aren't negative -/
theorem z_bi {a : Nat} (ha : a < 2147483648) : q_bi a = a + 2147483648 := by
  show (a + 2147483648) % 4294967296 = _
  omega
theorem z_bltf {a b : Nat} (h : b ≤ a) : Nat.blt a b = false := by
  cases e : Nat.blt a b with
  | true => have := q_blt.mp e; omega
  | false => rfl
theorem z_lt {a b : Nat} (ha : a < 2147483648) (hb : b < 2147483648) : q_lt z_rg a b = some (Nat.blt a b) := by
  have e : Nat.blt (a + 2147483648) (b + 2147483648) = Nat.blt a b := by
    rcases Nat.lt_or_ge a b with g | g
    · rw [q_blt.mpr g, q_blt.mpr (by omega : a + 2147483648 < b + 2147483648)]
    · rw [z_bltf g, z_bltf (by omega : b + 2147483648 ≤ a + 2147483648)]
  unfold q_lt
  rw [q_ift _ _ (z_e2 (by omega) (by omega)), z_bi ha, z_bi hb, e]
theorem z_eqq {a b : Nat} (ha : a ≤ 4294967295) (hb : b ≤ 4294967295) : q_eq z_rg a b = some (Nat.beq a b) := by
  unfold q_eq
  rw [q_ift _ _ (z_e2 ha hb)]
theorem z_geT {a b : Nat} (ha : a < 2147483648) (hb : b < 2147483648) (h : b ≤ a) : q_cm z_rg .ge a b = some true := by
  show q_not (q_lt z_rg a b) = _
  rw [z_lt ha hb, z_bltf h]
  rfl
theorem z_geF {a b : Nat} (ha : a < 2147483648) (hb : b < 2147483648) (h : a < b) : q_cm z_rg .ge a b = some false := by
  show q_not (q_lt z_rg a b) = _
  rw [z_lt ha hb, q_blt.mpr h]
  rfl
theorem z_ltT {a b : Nat} (ha : a < 2147483648) (hb : b < 2147483648) (h : a < b) : q_cm z_rg .lt a b = some true := by
  show q_lt z_rg a b = _
  rw [z_lt ha hb, q_blt.mpr h]
theorem z_ltF {a b : Nat} (ha : a < 2147483648) (hb : b < 2147483648) (h : b ≤ a) : q_cm z_rg .lt a b = some false := by
  show q_lt z_rg a b = _
  rw [z_lt ha hb, z_bltf h]
theorem z_gtT {a b : Nat} (ha : a < 2147483648) (hb : b < 2147483648) (h : b < a) : q_cm z_rg .gt a b = some true := by
  show q_lt z_rg b a = _
  rw [z_lt hb ha, q_blt.mpr h]
theorem z_gtF {a b : Nat} (ha : a < 2147483648) (hb : b < 2147483648) (h : a ≤ b) : q_cm z_rg .gt a b = some false := by
  show q_lt z_rg b a = _
  rw [z_lt hb ha, z_bltf h]
theorem z_eqT {a b : Nat} (ha : a ≤ 4294967295) (h : a = b) : q_cm z_rg .eq a b = some true := by
  show q_eq z_rg a b = _
  rw [z_eqq ha (by omega), q_beq.mpr h]
theorem z_eqF {a b : Nat} (ha : a ≤ 4294967295) (hb : b ≤ 4294967295) (h : ¬ a = b) : q_cm z_rg .eq a b = some false := by
  show q_eq z_rg a b = _
  rw [z_eqq ha hb, q_bneq.mpr h]
theorem z_neT {a b : Nat} (ha : a ≤ 4294967295) (hb : b ≤ 4294967295) (h : ¬ a = b) : q_cm z_rg .ne a b = some true := by
  show q_not (q_eq z_rg a b) = _
  rw [z_eqq ha hb, q_bneq.mpr h]
  rfl
theorem z_neF {a b : Nat} (ha : a ≤ 4294967295) (h : a = b) : q_cm z_rg .ne a b = some false := by
  show q_not (q_eq z_rg a b) = _
  rw [z_eqq ha (by omega), q_beq.mpr h]
  rfl
/-- a negative int is below 0 -/
theorem z_nl {a : Nat} (ha : a ≤ 4294967295) (hb : 2147483648 ≤ a) : q_lt z_rg a 0 = some true := by
  unfold q_lt
  rw [q_ift _ _ (z_e2 ha (by omega))]
  have e : q_bi a = a - 2147483648 := by
    show (a + 2147483648) % 4294967296 = _
    omega
  have e0 : q_bi 0 = 2147483648 := rfl
  rw [e, e0, q_blt.mpr (by omega)]
theorem z_geN {a : Nat} (ha : a ≤ 4294967295) (hb : 2147483648 ≤ a) : q_cm z_rg .ge a 0 = some false := by
  show q_not (q_lt z_rg a 0) = _
  rw [z_nl ha hb]
  rfl
theorem z_ltN {a : Nat} (ha : a ≤ 4294967295) (hb : 2147483648 ≤ a) : q_cm z_rg .lt a 0 = some true := by
  show q_lt z_rg a 0 = _
  rw [z_nl ha hb]
theorem z_orl {a b : Nat} (ha : a ≤ 4294967295) (hb : b ≤ 4294967295) : a ||| b ≤ 4294967295 := by
  have := Nat.or_lt_two_pow (n := 32) (by omega : a < 2 ^ 32) (by omega : b < 2 ^ 32)
  omega
theorem z_xol {a b : Nat} (ha : a ≤ 4294967295) (hb : b ≤ 4294967295) : a ^^^ b ≤ 4294967295 := by
  have := Nat.xor_lt_two_pow (n := 32) (by omega : a < 2 ^ 32) (by omega : b < 2 ^ 32)
  omega
theorem z_anl {a b : Nat} (ha : a ≤ 4294967295) : a &&& b ≤ 4294967295 := Nat.le_trans Nat.and_le_left ha
theorem z_shl' {a b : Nat} (ha : a ≤ 4294967295) : a >>> b ≤ 4294967295 := by
  rw [Nat.shiftRight_eq_div_pow]
  exact Nat.le_trans (Nat.div_le_self _ _) ha
theorem z_tsts : ∀ (n : Nat) (t : q_T n) (k : Nat) (c c' : q_C), q_ts n (q_ts n t k c) k c' = q_ts n t k c'
  | 0, _, _, _, _ => rfl
  | n + 1, t, k, c, c' => by
    rcases q_ev k with ⟨hk0, _⟩ | ⟨hk0, _⟩
    · refine (congrArg (fun u => q_ts (n + 1) u k c') (q_ts_0 n t k c hk0)).trans ((q_ts_0 n _ k c' hk0).trans (Eq.trans ?_ (q_ts_0 n t k c' hk0).symm))
      exact congrArg (fun u => ((u, Prod.snd (α := q_T n) (β := q_T n) t) : q_T n × q_T n)) (z_tsts n (Prod.fst (α := q_T n) (β := q_T n) t) (k / 2) c c')
    · refine (congrArg (fun u => q_ts (n + 1) u k c') (q_ts_1 n t k c hk0)).trans ((q_ts_1 n _ k c' hk0).trans (Eq.trans ?_ (q_ts_1 n t k c' hk0).symm))
      exact congrArg (fun u => ((Prod.fst (α := q_T n) (β := q_T n) t, u) : q_T n × q_T n)) (z_tsts n (Prod.snd (α := q_T n) (β := q_T n) t) (k / 2) c c')
theorem z_upup (h : q_H) (j kd n N kd' n' N' : Nat) : q_up (q_up h j kd n N) j kd' n' N' = q_up h j kd' n' N' := congrArg (fun u => ((h.1, u) : q_H)) (z_tsts 7 h.2 j (kd, n, N) (kd', n', N'))
theorem z_hn : ∀ a ∈ ([] : List Nat), ¬ a = 4294967314 := fun _ h => nomatch h
theorem z_hc {a : Nat} {l : List Nat} (ha : ¬ a = 4294967314) (hl : ∀ b ∈ l, ¬ b = 4294967314) : ∀ b ∈ a :: l, ¬ b = 4294967314 := fun b hb => by
  rcases List.mem_cons.mp hb with rfl | hb
  · exact ha
  · exact hl b hb
theorem z_ne {a : Nat} (ha : a ≤ 4294967295) : ¬ a = 4294967314 := by omega
theorem z_bn : ∀ a ∈ ([] : List Nat), a + 1 < 2 ^ 34 := fun _ h => nomatch h
theorem z_bc {a : Nat} {l : List Nat} (ha : a ≤ 4294967455) (hl : ∀ b ∈ l, b + 1 < 2 ^ 34) : ∀ b ∈ a :: l, b + 1 < 2 ^ 34 := fun b hb => by
  rcases List.mem_cons.mp hb with rfl | hb
  · omega
  · exact hl b hb
theorem z_em {a : Nat} (ha : a ≤ 4294967295) : a ≤ 4294967455 := by omega

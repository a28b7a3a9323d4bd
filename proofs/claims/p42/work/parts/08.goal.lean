/-! ===== what the tables must say; what a run of the evaluator means for the machine ===== -/
def q_lnk (i : Nat) (pc ln : Nat) (ins : Instr) (x y z : Nat) : Prop := match ins with
  | .iconst n => ln = 1 ∧ x ≤ 4294967295 ∧ Int32.ofInt n = nI x
  | .bipush n => ln = 2 ∧ x ≤ 4294967295 ∧ (Int8.ofInt n).toInt32 = nI x
  | .sipush n => ln = 3 ∧ x ≤ 4294967295 ∧ (Int16.ofInt n).toInt32 = nI x
  | .ldc n => z = 99 ∨ (ln = 2 ∧ x ≤ 4294967295 ∧ Cond.constant (q_y i).cls n (nI x) ∈ q_w0)
  | .ldc_w n => z = 99 ∨ (ln = 3 ∧ x ≤ 4294967295 ∧ Cond.constant (q_y i).cls n (nI x) ∈ q_w0)
  | .iload n => ln = 2 ∧ n = x
  | .aload n => ln = 2 ∧ n = x
  | .iload_n n => ln = 1 ∧ (n : Nat) = x
  | .aload_n n => ln = 1 ∧ (n : Nat) = x
  | .istore n => ln = 2 ∧ n = x ∧ x < q_ml i
  | .astore n => ln = 2 ∧ n = x ∧ x < q_ml i
  | .istore_n n => ln = 1 ∧ (n : Nat) = x ∧ x < q_ml i
  | .astore_n n => ln = 1 ∧ (n : Nat) = x ∧ x < q_ml i
  | .iinc n k => ln = 3 ∧ n = x ∧ x < q_ml i ∧ y ≤ 4294967295 ∧ Int32.ofInt k = nI y
  | .ifCond _ off => ln = 3 ∧ (pc : Int) + off = (x : Int)
  | .if_icmp _ off => ln = 3 ∧ (pc : Int) + off = (x : Int)
  | .ifnull off => ln = 3 ∧ (pc : Int) + off = (x : Int)
  | .ifnonnull off => ln = 3 ∧ (pc : Int) + off = (x : Int)
  | .goto off => ln = 3 ∧ (pc : Int) + off = (x : Int)
  | .tableswitch df lo hi offs => lo = (x : Int) ∧ hi = (y : Int) ∧ y < 2147483648 ∧ 0 ≤ (pc : Int) + df ∧ ∀ j, j < y + 1 - x → ∃ o, offs[j]? = some o ∧ 0 ≤ (pc : Int) + o
  | .new n => ln = 3 ∧ ∃ r, q_cls[x]? = some r ∧ y = r.2.2 ∧ Cond.classLink (q_y i).cls n r.1 ∈ q_w0 ∧ Cond.instantiable r.1 y ∈ q_w0 ∧ Cond.initialized r.1 ∈ q_w0 ∧ ∀ j, j < y → (q_get z j = 4294967313 ∧ (q_fty.getD x (fun _ => .int)) j = .long) ∨ (q_get z j = 0 ∧ (q_fty.getD x (fun _ => .int)) j = .int) ∨ (q_get z j = 0 ∧ (q_fty.getD x (fun _ => .int)) j = .boolean) ∨ (q_get z j = 4294967312 ∧ defaultValue ((q_fty.getD x (fun _ => .int)) j) = .null)
  | .newarray t => ln = 2 ∧ Cond.arrayClass (newarray.typeOf t) ∈ q_w0 ∧ ((x = 1 ∧ newarray.typeOf t = .int) ∨ (x = 3 ∧ newarray.typeOf t = .byte) ∨ (x = 5 ∧ newarray.typeOf t = .boolean) ∨ (x = 7 ∧ newarray.typeOf t = .long))
  | .anewarray n => ln = 3 ∧ Cond.classLink (q_y i).cls n "SandNights$Sand" ∈ q_w0
  | .getfield n => ln = 3 ∧ ∃ r, q_cls[x]? = some r ∧ y < r.2.2 ∧ Cond.fieldLink (q_y i).cls n (r.2.1 y).1 (r.2.1 y).2.1 (r.2.1 y).2.2.1 ∈ q_w0
  | .putfield n => ln = 3 ∧ ∃ r, q_cls[x]? = some r ∧ y < r.2.2 ∧ Cond.fieldLink (q_y i).cls n (r.2.1 y).1 (r.2.1 y).2.1 (r.2.1 y).2.2.1 ∈ q_w0 ∧ ((r.2.1 y).2.2.2 = false ∨ ((r.2.1 y).2.2.2 = true ∧ (q_y i).name = "<init>" ∧ (r.2.1 y).1 = (q_y i).cls)) ∧ ∃ ty, parseFieldDescriptor (r.2.1 y).2.2.1 = some ty ∧ ((z = 0 ∧ ty = .int) ∨ (z = 1 ∧ ty = .boolean) ∨ (z = 2 ∧ ((∃ n, ty = .object n) ∨ ∃ t, ty = .array t)) ∨ (z = 3 ∧ ty = .long))
  | .invokevirtual n => z = 99 ∨ (ln = 3 ∧ x < q_nM ∧ y ≤ q_ml x ∧ 0 < y ∧ (parseMethodDescriptor (q_y x).desc).map (fun d => d.parameters.length) = some (y - 1) ∧ Cond.instanceMethod (q_y x) ∈ q_w0 ∧ Cond.selects (q_y x).cls (q_y x) (q_y x) ∈ q_w0 ∧ (∃ r, q_cls[z]? = some r ∧ r.1 = (q_y x).cls) ∧ Cond.methodLink (q_y i).cls n (q_y x) ∈ q_w0)
  | .invokestatic n => z = 99 ∨ (ln = 3 ∧ ((z = 77 ∧ Cond.methodLink (q_y i).cls n arraycopyName ∈ q_w0) ∨ (¬ z = 77 ∧ x < q_nM ∧ y ≤ q_ml x ∧ (parseMethodDescriptor (q_y x).desc).map (fun d => d.parameters.length) = some y ∧ Cond.static (q_y x) ∈ q_w0 ∧ (Cond.methodLink (q_y i).cls n (q_y x) ∈ q_w0 ∨ ∃ host, ((q_y i).cls, n, q_y x, host) ∈ q_nest))))
  | .invokespecial n => z = 99 ∨ (ln = 3 ∧ ((z = 78 ∧ Cond.methodLink (q_y i).cls n Lib.objectInit ∈ q_w0) ∨ (¬ z = 78 ∧ x < q_nM ∧ y ≤ q_ml x ∧ 0 < y ∧ (parseMethodDescriptor (q_y x).desc).map (fun d => d.parameters.length) = some (y - 1) ∧ (q_y x).name = "<init>" ∧ q_rt x = none ∧ Cond.instanceMethod (q_y x) ∈ q_w0 ∧ (Cond.methodLink (q_y i).cls n (q_y x) ∈ q_w0 ∨ ∃ host, ((q_y i).cls, n, q_y x, host) ∈ q_nest))))
  | .ireturn => ln = 1 ∧ ((x = 0 ∧ q_rt i = some .int) ∨ (x = 1 ∧ q_rt i = some .boolean) ∨ 2 ≤ x)
  | .areturn => ln = 1 ∧ ∃ rt, q_rt i = some rt ∧ ((∃ n, rt = .object n) ∨ ∃ t, rt = .array t)
  | .return_ => ln = 1 ∧ q_rt i = none
  | .lconst _ | .aconst_null | .iadd | .isub | .imul | .iand | .ior | .ixor | .ineg | .idiv | .irem | .ishl | .ishr | .iushr | .i2b | .dup | .dup2 | .pop | .arraylength | .iaload | .baload | .aaload | .iastore | .bastore | .aastore => ln = 1
  | _ => True
/-- each instruction stands where the one before it ends -/
def q_chn : List q_I → Bool
  | [] => true
  | [_] => true
  | a :: b :: t => Nat.beq b.1 (a.1 + a.2.1) && q_chn (b :: t)
def q_mok (i : Nat) : Prop := Cond.code (q_y i) (q_b i) (q_ml i) (q_rt i) ∈ q_w0 ∧ plainFor (q_y i) = true ∧ Cond.initialized (q_y i).cls ∈ q_w0 ∧ (q_y i).cls ≠ "java/lang/invoke/MethodHandle" ∧ (q_y i).cls ≠ "java/lang/invoke/VarHandle" ∧ q_ml i ≤ 21 ∧ q_chn (q_code i) = true ∧ (∃ t, (q_code i).head? = some t ∧ t.1 = 0) ∧ ∀ e ∈ q_code i, decode (q_b i) e.1 = .ok (e.2.2.1, e.2.1) ∧ q_lnk i e.1 e.2.1 e.2.2.1 e.2.2.2.1 e.2.2.2.2.1 e.2.2.2.2.2
/-- what holds beside the tables' plain words -/
def q_X (U : State) : Prop := (∀ w ∈ q_nest, va_Nw (.methodLinkNest w.1 w.2.1 w.2.2.1 w.2.2.2) U) ∧ va_AO "SandNights$Sand" U
theorem q_X.warm {s U : State} (hW : s.WarmedH U.vm) (h : q_X s) : q_X U := ⟨fun w hw => va_Nw.warmM hW (h.1 w hw), va_AO.moved hW.alike h.2⟩
abbrev q_A (base : Nat) : Nat → Prop := fun q => base ≤ q
def q_Pc (base : Nat) (D : va_G) (env : Nat → Int32) (ad0 : List Nat) (av : List Value) (h : q_H) : Array Value → State → Prop := va_Pc av (fun U => base ≤ U.heap.size ∧ q_X U ∧ ∃ (ws : va_W) (tys : List (ClassId × FieldType)), q_ad ws = ad0 ∧ q_W env h ws tys ∧ va_P D q_cls ws U.heap ∧ va_K D q_cls tys U ∧ va_D (q_A base) ws)
def q_rv (env : Nat → Int32) (ad : List Nat) (r : List Nat) (v : Option Value) : Prop := (r = [] ∧ v = none) ∨ ∃ c x, r = [c] ∧ v = some x ∧ q_v env ad c x
def q_Qc (base : Nat) (D : va_G) (env : Nat → Int32) (ad0 : List Nat) (hf : q_H) (r : List Nat) : Array Value → State → Outcome → State → Prop := fun _ st oc t => (∃ (v : Option Value) (ws : va_W) (tys : List (ClassId × FieldType)), oc = .returned v ∧ q_rv env (q_ad ws) r v ∧ ad0 <+: q_ad ws ∧ q_W env hf ws tys ∧ va_P D q_cls ws t.heap ∧ va_K D q_cls tys t ∧ va_D (q_A base) ws) ∧ va_F (q_A base) st t
def q_S (env : Nat → Int32) (ad : List Nat) : List Nat → List Value → Prop
  | [], [] => True
  | c :: st, v :: sv => q_v env ad c v ∧ q_S env ad st sv
  | _, _ => False
def q_rm (d mc ms : Nat) : Room := { frames := d, cells := mc, slots := ms, locals := 40 * d }
def q_wy (i : Nat) : List Cond := .code (q_y i) (q_b i) (q_ml i) (q_rt i) :: q_w0
/-- a method's run from a heap to another, as a contract -/
def q_Met (l : Launch) (base : Nat) (D : va_G) (env : Nat → Int32) (d i : Nat) (as : List Nat) (h hf : q_H) (r : List Nat) : Prop := (h.1 ≤ hf.1 ∧ q_ss h ≤ q_ss hf) ∧ ∀ (ad0 : List Nat) (av : List Value), q_S env ad0 as av → Met l (q_y i) (q_wy i) (q_rm d (hf.1 - h.1) (q_ss hf - q_ss h)) (q_Pc base D env ad0 av h) (q_Qc base D env ad0 hf r) (hf.1 - h.1) (q_ss hf - q_ss h) (q_A base)
/-- what stays through a method's body -/
def q_Cx (base i : Nat) (p : Program) (s : State) (m : MethodId) (args : Array Value) (meth : Method) (c : Code) : Prop := p.tables.exec = Jvm.exec ∧ c.code = q_b i ∧ meth.sig.returnType = q_rt i ∧ c.maxLocals = q_ml i ∧ s.vm.findClass (q_y i).cls = some m.cls ∧ (∀ w ∈ q_w0, w.before args s = true) ∧ q_X s ∧ meth.locks = false ∧ meth.name = (q_y i).name ∧ base ≤ s.heap.size
/-- the machine at an instruction comes to the method's end as the evaluator says -/
def q_G (l : Launch) (base : Nat) (D : va_G) (env : Nat → Int32) (d i pc loc : Nat) (st : List Nat) (h hf : q_H) (r : List Nat) : Prop :=
  (h.1 ≤ hf.1 ∧ q_ss h ≤ q_ss hf) ∧ ∀ (p : Program) (e : Env) (s : State) (m : MethodId) (args : Array Value) (below : List Frame) (meth : Method) (c : Code) (H : Heap) (locs : List Loc) (ls : Array Slot) (sv : List Value) (ws : va_W) (tys : List (ClassId × FieldType)) (ad0 : List Nat) (n0 s0 : Nat),
    q_Cx base i p s m args meth c → q_W env h ws tys → va_P D q_cls ws H → va_K D q_cls tys s → va_D (q_A base) ws → va_S (q_A base) s.heap H locs → ad0 <+: q_ad ws → q_L env (q_ad ws) loc (q_ml i) ls → q_S env (q_ad ws) st sv → n0 ≤ h.1 → s0 ≤ q_ss h →
    W p l e (q_rm d (hf.1 - n0) (q_ss hf - s0)) s m args below meth c H locs (h.1 - n0) (q_ss h - s0) (MQ below (q_Qc base D env ad0 hf r) args s (hf.1 - n0) (q_ss hf - s0) (q_A base)) (F0 m pc ls sv)
theorem q_S.mono {env : Nat → Int32} {ad ad' : List Nat} (hp : ad <+: ad') : ∀ {st : List Nat} {sv : List Value}, q_S env ad st sv → q_S env ad' st sv
  | [], [], _ => trivial
  | _ :: _, _ :: _, h => ⟨h.1.mono hp, q_S.mono hp h.2⟩
  | [], _ :: _, h => h.elim
  | _ :: _, [], h => h.elim
theorem q_S.cons {env : Nat → Int32} {ad : List Nat} {c : Nat} {st : List Nat} {sv : List Value} (h : q_S env ad (c :: st) sv) : ∃ v sv', sv = v :: sv' ∧ q_v env ad c v ∧ q_S env ad st sv' := by
  cases sv with
  | nil => exact h.elim
  | cons v sv' => exact ⟨v, sv', rfl, h.1, h.2⟩
theorem q_S.nil {env : Nat → Int32} {ad : List Nat} {sv : List Value} (h : q_S env ad [] sv) : sv = [] := by
  cases sv with
  | nil => rfl
  | cons v sv' => exact h.elim
theorem q_S.cats {env : Nat → Int32} {ad : List Nat} : ∀ {st : List Nat} {sv : List Value}, q_S env ad st sv → sv.length = st.length ∧ (sv.map fun v => v.category).sum ≤ 2 * st.length
  | [], [], _ => ⟨rfl, by simp⟩
  | c :: st, v :: sv, h => by
    have ih := q_S.cats h.2
    have := h.1.cat2
    simp only [List.length_cons, List.map_cons, List.sum_cons]
    omega
  | [], _ :: _, h => h.elim
  | _ :: _, [], h => h.elim
theorem q_bifs {α : Type} {b : Bool} {X : Option α} {R : α} (h : (bif b then X else none) = some R) : b = true ∧ X = some R := by
  cases b with
  | true => exact ⟨rfl, h⟩
  | false => cases h
theorem q_ands {a b : Bool} (h : (a && b) = true) : a = true ∧ b = true := by
  cases a with
  | true => exact ⟨rfl, h⟩
  | false => cases h
theorem q_ors {a b : Bool} (h : (a || b) = true) : a = true ∨ b = true := by
  cases a with
  | true => exact Or.inl rfl
  | false => exact Or.inr h
theorem q_at_inv {α : Type} {h : q_H} {c : Nat} {k : Nat → Nat → Nat → Nat → Option α} {R : α} (hr : q_at h c k = some R) : ∃ j, 4294967328 ≤ c ∧ j = c - 4294967328 ∧ j < h.1 ∧ h.1 ≤ 128 ∧ k j (q_tg 7 h.2 j).1 (q_tg 7 h.2 j).2.1 (q_tg 7 h.2 j).2.2 = some R := by
  obtain ⟨h1, h2⟩ := q_bifs hr
  obtain ⟨h3, h4⟩ := q_ands h1
  rw [q_fr_eq] at h2
  obtain ⟨h4, h6⟩ := q_ands h4
  have h5 := q_blt.mp h4
  refine ⟨q_rf c, q_ble.mp h3, q_rf_eq c, h5, q_ble.mp h6, h2⟩
theorem q_nw_inv {α : Type} {h : q_H} {kd ln N : Nat} {k : q_H → Nat → Option α} {R : α} (hr : q_nw h kd ln N k = some R) : h.1 < 128 ∧ k (h.1 + 1, q_ts 7 h.2 h.1 (kd, ln, N)) (4294967328 + h.1) = some R := by
  obtain ⟨h1, h2⟩ := q_bifs hr
  rw [q_fr_eq] at h2
  have e : Nat.add 4294967328 h.1 = 4294967328 + h.1 := Nat.add_eq
  rw [e] at h2
  exact ⟨q_blt.mp h1, h2⟩
theorem q_ar_inv {α : Type} {f : Nat → Nat → Nat} {st : List Nat} {k : List Nat → Option α} {R : α} (hr : q_ar f st k = some R) : ∃ b a r, st = b :: a :: r ∧ ((a ≤ 4294967295 ∧ b ≤ 4294967295 ∧ k (f a b :: r) = some R) ∨ (a ≤ 4294967311 ∧ b ≤ 4294967311 ∧ k (4294967296 :: r) = some R)) := by
  match st, hr with
  | [], hr => cases hr
  | [_], hr => cases hr
  | b :: a :: r, hr =>
    refine ⟨b, a, r, rfl, ?_⟩
    cases hb : q_e2 a b with
    | true =>
      have hr : (bif q_e2 a b then q_fr (f a b) (fun v => k (v :: r)) else bif q_i2 a b then k (4294967296 :: r) else none) = some R := hr
      rw [q_ift _ _ hb, q_fr_eq] at hr
      obtain ⟨h1, h2⟩ := q_ands hb
      exact Or.inl ⟨q_ble.mp h1, q_ble.mp h2, hr⟩
    | false =>
      have hr : (bif q_e2 a b then q_fr (f a b) (fun v => k (v :: r)) else bif q_i2 a b then k (4294967296 :: r) else none) = some R := hr
      rw [q_iff _ _ hb] at hr
      obtain ⟨h1, h2⟩ := q_bifs hr
      obtain ⟨h3, h4⟩ := q_ands h1
      exact Or.inr ⟨q_ble.mp h3, q_ble.mp h4, h2⟩
theorem q_br_inv {α : Type} {o : Option Bool} {t f : Option α} {R : α} (hr : q_br o t f = some R) : (o = some true ∧ t = some R) ∨ (o = some false ∧ f = some R) := by
  match o, hr with
  | some true, hr => exact Or.inl ⟨rfl, hr⟩
  | some false, hr => exact Or.inr ⟨rfl, hr⟩
  | none, hr => cases hr

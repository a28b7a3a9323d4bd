/-! ===== a check of an instruction by numbers, and what it says ===== -/
def q_m4 (l : List (q_Q4 × Nat)) (a b c d : Nat) : Bool := l.any (fun t => Nat.beq t.1.1 a && (Nat.beq t.1.2.1 b && (Nat.beq t.1.2.2.1 c && Nat.beq t.1.2.2.2 d)))
def q_m3 (l : List (q_Q3 × Nat)) (a b c : Nat) : Bool := l.any (fun t => Nat.beq t.1.1 a && (Nat.beq t.1.2.1 b && Nat.beq t.1.2.2 c))
theorem q_m4_ok {l : List (q_Q4 × Nat)} {a b c d : Nat} (h : q_m4 l a b c d = true) : ∃ p, ((a, b, c, d), p) ∈ l := by
  obtain ⟨t, ht, h1⟩ := List.any_eq_true.mp h
  obtain ⟨h1, h2⟩ := q_ands h1
  obtain ⟨h2, h3⟩ := q_ands h2
  obtain ⟨h3, h4⟩ := q_ands h3
  obtain ⟨⟨t1, t2, t3, t4⟩, p⟩ := t
  have e1 := q_beq.mp h1
  have e2 := q_beq.mp h2
  have e3 := q_beq.mp h3
  have e4 := q_beq.mp h4
  simp only at e1 e2 e3 e4
  subst e1; subst e2; subst e3; subst e4
  exact ⟨p, ht⟩
theorem q_m3_ok {l : List (q_Q3 × Nat)} {a b c : Nat} (h : q_m3 l a b c = true) : ∃ p, ((a, b, c), p) ∈ l := by
  obtain ⟨t, ht, h1⟩ := List.any_eq_true.mp h
  obtain ⟨h1, h2⟩ := q_ands h1
  obtain ⟨h2, h3⟩ := q_ands h2
  obtain ⟨⟨t1, t2, t3⟩, p⟩ := t
  have e1 := q_beq.mp h1
  have e2 := q_beq.mp h2
  have e3 := q_beq.mp h3
  simp only at e1 e2 e3
  subst e1; subst e2; subst e3
  exact ⟨p, ht⟩
def q_zty (z : Nat) (ty : FieldType) : Bool := match ty with
  | .int => Nat.beq z 0
  | .boolean => Nat.beq z 1
  | .object _ => Nat.beq z 2
  | .array _ => Nat.beq z 2
  | .long => Nat.beq z 3
  | _ => false
def q_dty (c : Nat) (ty : FieldType) : Bool := match ty with
  | .int => Nat.beq c 0
  | .boolean => Nat.beq c 0
  | .object _ => Nat.beq c 4294967312
  | .array _ => Nat.beq c 4294967312
  | .long => Nat.beq c 4294967313
  | _ => false
def q_aty (x : Nat) (t : FieldType) : Bool := match t with
  | .int => Nat.beq x 1
  | .byte => Nat.beq x 3
  | .boolean => Nat.beq x 5
  | .long => Nat.beq x 7
  | _ => false
def q_rty (t : Option FieldType) (x : Nat) : Bool := match t with
  | some .int => Nat.beq x 0
  | some .boolean => Nat.beq x 1
  | _ => Nat.ble 2 x
def q_oty (t : Option FieldType) : Bool := match t with
  | some (.object _) => true
  | some (.array _) => true
  | _ => false
def q_nst (i n x : Nat) : Bool := q_nest.any (fun w => decide (w.1 = q_own (q_on i)) && (Nat.beq w.2.1 n && decide (w.2.2.1 = q_y x)))
def q_lkd (i n x : Nat) : Bool := q_m3 q_tm (q_on i) n x || q_nst i n x
def q_chk (i : Nat) (pc ln : Nat) (ins : Instr) (x y z : Nat) : Bool := match ins with
  | .iconst n => decide (ln = 1 ∧ x ≤ 4294967295 ∧ Int32.ofInt n = nI x)
  | .bipush n => decide (ln = 2 ∧ x ≤ 4294967295 ∧ (Int8.ofInt n).toInt32 = nI x)
  | .sipush n => decide (ln = 3 ∧ x ≤ 4294967295 ∧ (Int16.ofInt n).toInt32 = nI x)
  | .ldc n => Nat.beq z 99 || (decide (ln = 2 ∧ x ≤ 4294967295) && q_m3 q_tk (q_on i) n x)
  | .ldc_w n => Nat.beq z 99 || (decide (ln = 3 ∧ x ≤ 4294967295) && q_m3 q_tk (q_on i) n x)
  | .iload n => decide (ln = 2 ∧ n = x)
  | .aload n => decide (ln = 2 ∧ n = x)
  | .iload_n n => decide (ln = 1 ∧ (n : Nat) = x)
  | .aload_n n => decide (ln = 1 ∧ (n : Nat) = x)
  | .istore n => decide (ln = 2 ∧ n = x ∧ x < q_ml i)
  | .astore n => decide (ln = 2 ∧ n = x ∧ x < q_ml i)
  | .istore_n n => decide (ln = 1 ∧ (n : Nat) = x ∧ x < q_ml i)
  | .astore_n n => decide (ln = 1 ∧ (n : Nat) = x ∧ x < q_ml i)
  | .iinc n k => decide (ln = 3 ∧ n = x ∧ x < q_ml i ∧ y ≤ 4294967295 ∧ Int32.ofInt k = nI y)
  | .ifCond _ off => decide (ln = 3 ∧ (pc : Int) + off = (x : Int))
  | .if_icmp _ off => decide (ln = 3 ∧ (pc : Int) + off = (x : Int))
  | .ifnull off => decide (ln = 3 ∧ (pc : Int) + off = (x : Int))
  | .ifnonnull off => decide (ln = 3 ∧ (pc : Int) + off = (x : Int))
  | .goto off => decide (ln = 3 ∧ (pc : Int) + off = (x : Int))
  | .tableswitch df lo hi offs => decide (lo = (x : Int) ∧ hi = (y : Int) ∧ y < 2147483648 ∧ 0 ≤ (pc : Int) + df) && (Nat.beq offs.toList.length (y + 1 - x) && offs.toList.all (fun o => decide (0 ≤ (pc : Int) + o)))
  | .new n => decide (ln = 3 ∧ x < 10 ∧ y = (q_cls.getD x ("", q_F0, 0)).2.2) && (q_m3 q_tc (q_on i) n x && (List.range y).all (fun j => q_dty (q_get z j) ((q_fty.getD x (fun _ => .int)) j)))
  | .newarray t => decide (ln = 2) && q_aty x (newarray.typeOf t)
  | .anewarray n => decide (ln = 3) && q_m3 q_tc (q_on i) n 5
  | .getfield n => decide (ln = 3) && q_m4 q_tf (q_on i) n x y
  | .putfield n => decide (ln = 3) && (q_m4 q_tf (q_on i) n x y && (q_zty z ((q_fty.getD x (fun _ => .int)) y) && ((!((q_cls.getD x ("", q_F0, 0)).2.1 y).2.2.2) || (Nat.beq (q_kn i) 2 && Nat.beq x (q_on i)))))
  | .invokevirtual n => Nat.beq z 99 || (decide (ln = 3 ∧ x < q_nM ∧ y ≤ q_ml x ∧ 0 < y ∧ q_np x = y - 1 ∧ z < 10 ∧ q_on x = z) && (Nat.beq (q_kn x) 1 && q_m3 q_tm (q_on i) n x))
  | .invokestatic n => Nat.beq z 99 || (decide (ln = 3) && ((Nat.beq z 77 && q_m3 q_tm (q_on i) n 1000) || (decide (¬ z = 77 ∧ x < q_nM ∧ y ≤ q_ml x ∧ q_np x = y) && (Nat.beq (q_kn x) 0 && q_lkd i n x))))
  | .invokespecial n => Nat.beq z 99 || (decide (ln = 3) && ((Nat.beq z 78 && q_m3 q_tm (q_on i) n 1001) || (decide (¬ z = 78 ∧ x < q_nM ∧ y ≤ q_ml x ∧ 0 < y ∧ q_np x = y - 1) && (Nat.beq (q_kn x) 2 && q_lkd i n x))))
  | .ireturn => decide (ln = 1) && q_rty (q_rt i) x
  | .areturn => decide (ln = 1) && q_oty (q_rt i)
  | .return_ => decide (ln = 1) && decide (q_rt i = none)
  | .lconst _ | .aconst_null | .iadd | .isub | .imul | .iand | .ior | .ixor | .ineg | .idiv | .irem | .ishl | .ishr | .iushr | .i2b | .dup | .dup2 | .pop | .arraylength | .iaload | .baload | .aaload | .iastore | .bastore | .aastore => Nat.beq ln 1
  | _ => true
theorem q_cls_at : ∀ k, k < 10 → q_cls[k]? = some (q_cls.getD k ("", q_F0, 0)) := by
  intro k hk
  have : k < q_cls.length := hk
  rw [List.getElem?_eq_getElem this, List.getD_eq_getElem?_getD, List.getElem?_eq_getElem this]
  rfl
theorem q_own_cls : ∀ k, k < 10 → (q_cls.getD k ("", q_F0, 0)).1 = q_own k := by decide +kernel
theorem q_own_sand : q_own 5 = "SandNights$Sand" := rfl
theorem q_tf_at {a b c d p : Nat} (h : ((a, b, c, d), p) ∈ q_tf) : c < 10 ∧ d < (q_cls.getD c ("", q_F0, 0)).2.2 ∧ q_fw (a, b, c, d) ∈ q_w0 := by
  have h1 := List.all_eq_true.mp q_tf_ok _ h
  obtain ⟨h1, h2⟩ := q_ands h1
  obtain ⟨h2, h3⟩ := q_ands h2
  exact ⟨of_decide_eq_true h2, of_decide_eq_true h3, q_wat_ok h1⟩
theorem q_tm_at {a b c p : Nat} (h : ((a, b, c), p) ∈ q_tm) : Cond.methodLink (q_own a) b (q_yy c) ∈ q_w0 := q_wat_ok (List.all_eq_true.mp q_tm_ok _ h)
theorem q_tc_at {a b c p : Nat} (h : ((a, b, c), p) ∈ q_tc) : Cond.classLink (q_own a) b (q_own c) ∈ q_w0 := q_wat_ok (List.all_eq_true.mp q_tc_ok _ h)
theorem q_tk_at {a b c p : Nat} (h : ((a, b, c), p) ∈ q_tk) : Cond.constant (q_own a) b (nI c) ∈ q_w0 := q_wat_ok (List.all_eq_true.mp q_tk_ok _ h)
theorem q_yy_lt {x : Nat} (h : x < q_nM) : q_yy x = q_y x := by
  have h : x < 281 := h
  unfold q_yy
  rw [q_iff _ _ (q_bneq.mpr (by omega)), q_iff _ _ (q_bneq.mpr (by omega))]
theorem q_lkd_ok {i n x : Nat} (hi : i < q_nM) (hx : x < q_nM) (h : q_lkd i n x = true) : Cond.methodLink (q_y i).cls n (q_y x) ∈ q_w0 ∨ ∃ host, ((q_y i).cls, n, q_y x, host) ∈ q_nest := by
  rcases q_ors h with h | h
  · obtain ⟨p, hp⟩ := q_m3_ok h
    have := q_tm_at hp
    rw [q_yy_lt hx, ← q_on_ok i hi] at this
    exact Or.inl this
  · obtain ⟨w, hw, h1⟩ := List.any_eq_true.mp h
    obtain ⟨h1, h2⟩ := q_ands h1
    obtain ⟨h2, h3⟩ := q_ands h2
    obtain ⟨w1, w2, w3, w4⟩ := w
    have e1 : w1 = q_own (q_on i) := of_decide_eq_true h1
    have e2 : w2 = n := q_beq.mp h2
    have e3 : w3 = q_y x := of_decide_eq_true h3
    rw [← q_on_ok i hi] at e1
    subst e1; subst e2; subst e3
    exact Or.inr ⟨w4, hw⟩
theorem q_arr_w : ∀ t ∈ [FieldType.int, .byte, .boolean, .long], Cond.arrayClass t ∈ q_w0 := by
  intro t ht
  have : ∀ t ∈ [(FieldType.int, q_pa0), (FieldType.byte, q_pa1), (FieldType.boolean, q_pa2), (FieldType.long, q_pa3)], q_wat t.2 (Cond.arrayClass t.1) = true := by decide +kernel
  simp only [List.mem_cons, List.not_mem_nil, or_false] at ht
  rcases ht with rfl | rfl | rfl | rfl
  · exact q_wat_ok (this (FieldType.int, q_pa0) (by simp))
  · exact q_wat_ok (this (FieldType.byte, q_pa1) (by simp))
  · exact q_wat_ok (this (FieldType.boolean, q_pa2) (by simp))
  · exact q_wat_ok (this (FieldType.long, q_pa3) (by simp))
theorem q_cw : ∀ k, k < 10 → q_wat (q_pns k) (Cond.instantiable (q_cls.getD k ("", q_F0, 0)).1 (q_cls.getD k ("", q_F0, 0)).2.2) = true ∧ q_wat (q_pis k) (Cond.initialized (q_cls.getD k ("", q_F0, 0)).1) = true := by decide +kernel
theorem q_fpar : ∀ k, k < 10 → ∀ j, j < (q_cls.getD k ("", q_F0, 0)).2.2 → parseFieldDescriptor ((q_cls.getD k ("", q_F0, 0)).2.1 j).2.2.1 = some ((q_fty.getD k (fun _ => .int)) j) ∧ ((q_cls.getD k ("", q_F0, 0)).2.1 j).1 = q_own k := by decide +kernel
theorem q_chk_ok {i pc ln : Nat} {ins : Instr} {x y z : Nat} (hi : i < q_nM) (h : q_chk i pc ln ins x y z = true) : q_lnk i pc ln ins x y z := by
  have hon := q_on_ok i hi
  cases ins
  case iconst n =>
    have h9 := @of_decide_eq_true _ _ h
    exact h9
  case bipush n =>
    have h9 := @of_decide_eq_true _ _ h
    exact h9
  case sipush n =>
    have h9 := @of_decide_eq_true _ _ h
    exact h9
  case ldc n =>
    rcases q_ors h with h | h
    · exact Or.inl (q_beq.mp h)
    · obtain ⟨h1, h2⟩ := q_ands h
      obtain ⟨p, hp⟩ := q_m3_ok h2
      have h1 := of_decide_eq_true h1
      exact Or.inr ⟨h1.1, h1.2, by rw [hon]; exact q_tk_at hp⟩
  case ldc_w n =>
    rcases q_ors h with h | h
    · exact Or.inl (q_beq.mp h)
    · obtain ⟨h1, h2⟩ := q_ands h
      obtain ⟨p, hp⟩ := q_m3_ok h2
      have h1 := of_decide_eq_true h1
      exact Or.inr ⟨h1.1, h1.2, by rw [hon]; exact q_tk_at hp⟩
  case iload n =>
    have h9 := @of_decide_eq_true _ _ h
    exact h9
  case aload n =>
    have h9 := @of_decide_eq_true _ _ h
    exact h9
  case iload_n n =>
    have h9 := @of_decide_eq_true _ _ h
    exact h9
  case aload_n n =>
    have h9 := @of_decide_eq_true _ _ h
    exact h9
  case istore n =>
    have h9 := @of_decide_eq_true _ _ h
    exact h9
  case astore n =>
    have h9 := @of_decide_eq_true _ _ h
    exact h9
  case istore_n n =>
    have h9 := @of_decide_eq_true _ _ h
    exact h9
  case astore_n n =>
    have h9 := @of_decide_eq_true _ _ h
    exact h9
  case iinc n k =>
    have h9 := @of_decide_eq_true _ _ h
    exact h9
  case ifCond c off =>
    have h9 := @of_decide_eq_true _ _ h
    exact h9
  case if_icmp c off =>
    have h9 := @of_decide_eq_true _ _ h
    exact h9
  case ifnull off =>
    have h9 := @of_decide_eq_true _ _ h
    exact h9
  case ifnonnull off =>
    have h9 := @of_decide_eq_true _ _ h
    exact h9
  case goto off =>
    have h9 := @of_decide_eq_true _ _ h
    exact h9
  case tableswitch df lo hi offs =>
    obtain ⟨h1, h2⟩ := q_ands h
    obtain ⟨h2, h3⟩ := q_ands h2
    obtain ⟨a1, a2, a3, a4⟩ := of_decide_eq_true h1
    refine ⟨a1, a2, a3, a4, fun j hj => ?_⟩
    have hl := q_beq.mp h2
    have hlt : j < offs.toList.length := by omega
    refine ⟨offs.toList[j], ?_, of_decide_eq_true (List.all_eq_true.mp h3 _ (List.getElem_mem hlt))⟩
    rw [← Array.getElem?_toList, List.getElem?_eq_getElem hlt]
  case new n =>
    obtain ⟨h1, h2⟩ := q_ands h
    obtain ⟨h2, h3⟩ := q_ands h2
    obtain ⟨a1, a2, a3⟩ := of_decide_eq_true h1
    obtain ⟨p, hp⟩ := q_m3_ok h2
    have hw := q_cw x a2
    refine ⟨a1, _, q_cls_at x a2, a3, ?_, ?_, q_wat_ok hw.2, fun j hj => ?_⟩
    · rw [hon, q_own_cls x a2]; exact q_tc_at hp
    · rw [a3]; exact q_wat_ok hw.1
    · have h4 := List.all_eq_true.mp h3 j (List.mem_range.mpr hj)
      generalize (q_fty.getD x (fun _ => FieldType.int)) j = ty at h4 ⊢
      cases ty with
      | int => exact Or.inr (Or.inl ⟨q_beq.mp h4, rfl⟩)
      | boolean => exact Or.inr (Or.inr (Or.inl ⟨q_beq.mp h4, rfl⟩))
      | object c => exact Or.inr (Or.inr (Or.inr ⟨q_beq.mp h4, rfl⟩))
      | array c => exact Or.inr (Or.inr (Or.inr ⟨q_beq.mp h4, rfl⟩))
      | long => exact Or.inl ⟨q_beq.mp h4, rfl⟩
      | _ => cases h4
  case newarray t =>
    obtain ⟨h1, h2⟩ := q_ands h
    have h1 := of_decide_eq_true h1
    show ln = 2 ∧ Cond.arrayClass (newarray.typeOf t) ∈ q_w0 ∧ ((x = 1 ∧ newarray.typeOf t = .int) ∨ (x = 3 ∧ newarray.typeOf t = .byte) ∨ (x = 5 ∧ newarray.typeOf t = .boolean) ∨ (x = 7 ∧ newarray.typeOf t = .long))
    generalize newarray.typeOf t = ty at h2 ⊢
    cases ty with
    | int => exact ⟨h1, q_arr_w _ (by simp), Or.inl ⟨q_beq.mp h2, rfl⟩⟩
    | byte => exact ⟨h1, q_arr_w _ (by simp), Or.inr (Or.inl ⟨q_beq.mp h2, rfl⟩)⟩
    | boolean => exact ⟨h1, q_arr_w _ (by simp), Or.inr (Or.inr (Or.inl ⟨q_beq.mp h2, rfl⟩))⟩
    | long => exact ⟨h1, q_arr_w _ (by simp), Or.inr (Or.inr (Or.inr ⟨q_beq.mp h2, rfl⟩))⟩
    | _ => cases h2
  case anewarray n =>
    obtain ⟨h1, h2⟩ := q_ands h
    obtain ⟨p, hp⟩ := q_m3_ok h2
    exact ⟨of_decide_eq_true h1, by rw [hon]; exact q_tc_at hp⟩
  case getfield n =>
    obtain ⟨h1, h2⟩ := q_ands h
    obtain ⟨p, hp⟩ := q_m4_ok h2
    obtain ⟨a1, a2, a3⟩ := q_tf_at hp
    exact ⟨of_decide_eq_true h1, _, q_cls_at x a1, a2, by rw [hon]; exact a3⟩
  case putfield n =>
    obtain ⟨h1, h2⟩ := q_ands h
    obtain ⟨h2, h3⟩ := q_ands h2
    obtain ⟨h3, h4⟩ := q_ands h3
    obtain ⟨p, hp⟩ := q_m4_ok h2
    obtain ⟨a1, a2, a3⟩ := q_tf_at hp
    have hfp := q_fpar x a1 y a2
    refine ⟨of_decide_eq_true h1, _, q_cls_at x a1, a2, by rw [hon]; exact a3, ?_, _, hfp.1, ?_⟩
    · rcases q_ors h4 with h4 | h4
      · left
        cases hb : ((q_cls.getD x ("", q_F0, 0)).2.1 y).2.2.2 with
        | false => rfl
        | true => rw [hb] at h4; cases h4
      · obtain ⟨b1, b2⟩ := q_ands h4
        cases hb : ((q_cls.getD x ("", q_F0, 0)).2.1 y).2.2.2 with
        | false => exact Or.inl rfl
        | true => exact Or.inr ⟨rfl, (q_ini_ok i hi b1).1, by rw [hfp.2, hon, q_beq.mp b2]⟩
    · generalize (q_fty.getD x (fun _ => FieldType.int)) y = ty at h3 ⊢
      cases ty with
      | int => exact Or.inl ⟨q_beq.mp h3, rfl⟩
      | boolean => exact Or.inr (Or.inl ⟨q_beq.mp h3, rfl⟩)
      | object c => exact Or.inr (Or.inr (Or.inl ⟨q_beq.mp h3, Or.inl ⟨c, rfl⟩⟩))
      | array c => exact Or.inr (Or.inr (Or.inl ⟨q_beq.mp h3, Or.inr ⟨c, rfl⟩⟩))
      | long => exact Or.inr (Or.inr (Or.inr ⟨q_beq.mp h3, rfl⟩))
      | _ => cases h3
  case invokevirtual n =>
    rcases q_ors h with h | h
    · exact Or.inl (q_beq.mp h)
    · obtain ⟨h1, h2⟩ := q_ands h
      obtain ⟨h2, h3⟩ := q_ands h2
      obtain ⟨a1, a2, a3, a4, a5, a6, a7⟩ := of_decide_eq_true h1
      obtain ⟨p, hp⟩ := q_m3_ok h3
      have hm := q_tm_at hp
      rw [q_yy_lt a2, ← hon] at hm
      have k0 : Nat.beq (q_kn x) 0 = false := q_bneq.mpr (by rw [q_beq.mp h2]; decide)
      refine Or.inr ⟨a1, a2, a3, a4, by rw [← a5]; exact q_np_ok x a2, q_wat_ok (q_in_ok x a2 k0), q_wat_ok (q_se_ok x a2 h2), ⟨_, q_cls_at z a6, ?_⟩, hm⟩
      rw [q_own_cls z a6, q_on_ok x a2, a7]
  case invokestatic n =>
    rcases q_ors h with h | h
    · exact Or.inl (q_beq.mp h)
    · obtain ⟨h1, h2⟩ := q_ands h
      refine Or.inr ⟨of_decide_eq_true h1, ?_⟩
      rcases q_ors h2 with h2 | h2
      · obtain ⟨h2, h3⟩ := q_ands h2
        obtain ⟨p, hp⟩ := q_m3_ok h3
        exact Or.inl ⟨q_beq.mp h2, by rw [hon]; exact q_tm_at hp⟩
      · obtain ⟨h2, h3⟩ := q_ands h2
        obtain ⟨h3, h4⟩ := q_ands h3
        obtain ⟨a1, a2, a3, a4⟩ := of_decide_eq_true h2
        exact Or.inr ⟨a1, a2, a3, by rw [← a4]; exact q_np_ok x a2, q_wat_ok (q_st_ok x a2 h3), q_lkd_ok hi a2 h4⟩
  case invokespecial n =>
    rcases q_ors h with h | h
    · exact Or.inl (q_beq.mp h)
    · obtain ⟨h1, h2⟩ := q_ands h
      refine Or.inr ⟨of_decide_eq_true h1, ?_⟩
      rcases q_ors h2 with h2 | h2
      · obtain ⟨h2, h3⟩ := q_ands h2
        obtain ⟨p, hp⟩ := q_m3_ok h3
        exact Or.inl ⟨q_beq.mp h2, by rw [hon]; exact q_tm_at hp⟩
      · obtain ⟨h2, h3⟩ := q_ands h2
        obtain ⟨h3, h4⟩ := q_ands h3
        obtain ⟨a1, a2, a3, a4, a5⟩ := of_decide_eq_true h2
        have k0 : Nat.beq (q_kn x) 0 = false := q_bneq.mpr (by rw [q_beq.mp h3]; decide)
        exact Or.inr ⟨a1, a2, a3, a4, by rw [← a5]; exact q_np_ok x a2, (q_ini_ok x a2 h3).1, (q_ini_ok x a2 h3).2, q_wat_ok (q_in_ok x a2 k0), q_lkd_ok hi a2 h4⟩
  case ireturn =>
    obtain ⟨h1, h2⟩ := q_ands h
    refine ⟨of_decide_eq_true h1, ?_⟩
    generalize q_rt i = t at h2 ⊢
    cases t with
    | none => exact Or.inr (Or.inr (q_ble.mp h2))
    | some ty =>
      cases ty with
      | int => exact Or.inl ⟨q_beq.mp h2, rfl⟩
      | boolean => exact Or.inr (Or.inl ⟨q_beq.mp h2, rfl⟩)
      | _ => exact Or.inr (Or.inr (q_ble.mp h2))
  case areturn =>
    obtain ⟨h1, h2⟩ := q_ands h
    refine ⟨of_decide_eq_true h1, ?_⟩
    generalize q_rt i = t at h2 ⊢
    cases t with
    | none => cases h2
    | some ty =>
      cases ty with
      | object c => exact ⟨_, rfl, Or.inl ⟨c, rfl⟩⟩
      | array c => exact ⟨_, rfl, Or.inr ⟨c, rfl⟩⟩
      | _ => cases h2
  case return_ =>
    obtain ⟨h1, h2⟩ := q_ands h
    exact ⟨of_decide_eq_true h1, of_decide_eq_true h2⟩
  all_goals first | exact q_beq.mp h | exact trivial

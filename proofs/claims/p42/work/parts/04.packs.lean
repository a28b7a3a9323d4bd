/-! ===== what packed numbers and trees of cells give back ===== -/
theorem q_get_eq (N j : Nat) : q_get N j = (N >>> (34 * j)) % 2 ^ 34 := rfl
theorem q_get_lt (N j : Nat) : q_get N j < 2 ^ 34 := by rw [q_get_eq]; exact Nat.mod_lt _ (by decide)
theorem q_set_eq (N j v : Nat) : q_set N j v = N ^^^ ((q_get N j ^^^ v) <<< (34 * j)) := rfl
theorem q_get_set (N j v i : Nat) (hv : v < 2 ^ 34) : q_get (q_set N j v) i = if i = j then v else q_get N i := by
  have hg : q_get N j ^^^ v < 2 ^ 34 := Nat.xor_lt_two_pow (q_get_lt N j) hv
  apply Nat.eq_of_testBit_eq
  intro b
  rw [q_get_eq, q_set_eq, Nat.testBit_mod_two_pow, Nat.testBit_shiftRight, Nat.testBit_xor, Nat.testBit_shiftLeft]
  by_cases hb : b < 34
  · by_cases hij : i = j
    · subst hij
      rw [if_pos rfl]
      have e : 34 * i + b - 34 * i = b := by omega
      have e2 : 34 * i ≤ 34 * i + b := by omega
      rw [e, Nat.testBit_xor, q_get_eq, Nat.testBit_mod_two_pow, Nat.testBit_shiftRight]
      simp [hb]
    · rw [if_neg hij, q_get_eq N i, Nat.testBit_mod_two_pow, Nat.testBit_shiftRight]
      rcases Nat.lt_or_gt_of_ne hij with h | h
      · have : ¬ 34 * i + b ≥ 34 * j := by omega
        simp [this]
      · have : 2 ^ 34 ≤ 2 ^ (34 * i + b - 34 * j) := Nat.pow_le_pow_right (by decide) (by omega)
        rw [Nat.testBit_lt_two_pow (Nat.lt_of_lt_of_le hg this)]
        simp
  · have h1 : (if i = j then v else q_get N i) < 2 ^ b := by
      have : 2 ^ 34 ≤ 2 ^ b := Nat.pow_le_pow_right (by decide) (by omega)
      split
      · omega
      · have := q_get_lt N i; omega
    rw [Nat.testBit_lt_two_pow h1]
    simp [hb]
theorem q_pk_cons (a : Nat) (l : List Nat) : q_pk (a :: l) = (a + 1) + (q_pk l) <<< 34 := rfl
theorem q_get_0 (j : Nat) : q_get 0 j = 0 := by rw [q_get_eq, Nat.zero_shiftRight]; try rfl
theorem q_pk_get : ∀ (l : List Nat) (_ : ∀ a ∈ l, a + 1 < 2 ^ 34) (j : Nat), q_get (q_pk l) j = (match l[j]? with | some a => a + 1 | none => 0)
  | [], _, j => by
    show q_get 0 j = _
    rw [q_get_0]; simp
  | a :: l, h, 0 => by
    have ha := h a List.mem_cons_self
    rw [q_pk_cons, q_get_eq]
    simp only [Nat.mul_zero, Nat.shiftRight_zero, List.getElem?_cons_zero]
    rw [Nat.shiftLeft_eq, Nat.add_mul_mod_self_right, Nat.mod_eq_of_lt ha]
  | a :: l, h, j + 1 => by
    have ha := h a List.mem_cons_self
    have ih := q_pk_get l (fun x hx => h x (List.mem_cons_of_mem _ hx)) j
    rw [List.getElem?_cons_succ, ← ih, q_pk_cons, q_get_eq, q_get_eq]
    have e : 34 * (j + 1) = 34 + 34 * j := by omega
    rw [e, Nat.shiftRight_add]
    have e2 : ((a + 1) + (q_pk l) <<< 34) >>> 34 = q_pk l := by
      rw [Nat.shiftRight_eq_div_pow, Nat.shiftLeft_eq, Nat.add_mul_div_right _ _ (by decide), Nat.div_eq_of_lt ha, Nat.zero_add]
    rw [e2]
theorem q_tg_0 (n : Nat) (t : q_T (n + 1)) (j : Nat) (h : Nat.beq (Nat.mod j 2) 0 = true) : q_tg (n + 1) t j = q_tg n (Prod.fst (α := q_T n) (β := q_T n) t) (j / 2) := by
  show Bool.rec (motive := fun _ => q_C) (q_tg n (Prod.snd (α := q_T n) (β := q_T n) t) (Nat.div j 2)) (q_tg n (Prod.fst (α := q_T n) (β := q_T n) t) (Nat.div j 2)) (Nat.beq (Nat.mod j 2) 0) = _
  rw [h]; rfl
theorem q_tg_1 (n : Nat) (t : q_T (n + 1)) (j : Nat) (h : Nat.beq (Nat.mod j 2) 0 = false) : q_tg (n + 1) t j = q_tg n (Prod.snd (α := q_T n) (β := q_T n) t) (j / 2) := by
  show Bool.rec (motive := fun _ => q_C) (q_tg n (Prod.snd (α := q_T n) (β := q_T n) t) (Nat.div j 2)) (q_tg n (Prod.fst (α := q_T n) (β := q_T n) t) (Nat.div j 2)) (Nat.beq (Nat.mod j 2) 0) = _
  rw [h]; rfl
theorem q_ts_0 (n : Nat) (t : q_T (n + 1)) (j : Nat) (c : q_C) (h : Nat.beq (Nat.mod j 2) 0 = true) : q_ts (n + 1) t j c = ((q_ts n (Prod.fst (α := q_T n) (β := q_T n) t) (j / 2) c, Prod.snd (α := q_T n) (β := q_T n) t) : q_T n × q_T n) := by
  show Bool.rec (motive := fun _ => q_T (n + 1)) ((Prod.fst (α := q_T n) (β := q_T n) t, q_ts n (Prod.snd (α := q_T n) (β := q_T n) t) (Nat.div j 2) c) : q_T n × q_T n) ((q_ts n (Prod.fst (α := q_T n) (β := q_T n) t) (Nat.div j 2) c, Prod.snd (α := q_T n) (β := q_T n) t) : q_T n × q_T n) (Nat.beq (Nat.mod j 2) 0) = _
  rw [h]; rfl
theorem q_ts_1 (n : Nat) (t : q_T (n + 1)) (j : Nat) (c : q_C) (h : Nat.beq (Nat.mod j 2) 0 = false) : q_ts (n + 1) t j c = ((Prod.fst (α := q_T n) (β := q_T n) t, q_ts n (Prod.snd (α := q_T n) (β := q_T n) t) (j / 2) c) : q_T n × q_T n) := by
  show Bool.rec (motive := fun _ => q_T (n + 1)) ((Prod.fst (α := q_T n) (β := q_T n) t, q_ts n (Prod.snd (α := q_T n) (β := q_T n) t) (Nat.div j 2) c) : q_T n × q_T n) ((q_ts n (Prod.fst (α := q_T n) (β := q_T n) t) (Nat.div j 2) c, Prod.snd (α := q_T n) (β := q_T n) t) : q_T n × q_T n) (Nat.beq (Nat.mod j 2) 0) = _
  rw [h]; rfl
theorem q_ev (j : Nat) : (Nat.beq (Nat.mod j 2) 0 = true ∧ j % 2 = 0) ∨ (Nat.beq (Nat.mod j 2) 0 = false ∧ j % 2 = 1) := by
  rcases Nat.mod_two_eq_zero_or_one j with h | h
  · exact Or.inl ⟨by show Nat.beq (j % 2) 0 = true; rw [h]; rfl, h⟩
  · exact Or.inr ⟨by show Nat.beq (j % 2) 0 = false; rw [h]; rfl, h⟩
theorem q_ifc {α : Type} {p q : Prop} [Decidable p] [Decidable q] (h : p ↔ q) (a b : α) : (if p then a else b) = if q then a else b := by
  by_cases hp : p
  · rw [if_pos hp, if_pos (h.mp hp)]
  · rw [if_neg hp, if_neg (fun x => hp (h.mpr x))]
theorem q_tg_ts : ∀ (n : Nat) (t : q_T n) (k j : Nat) (c : q_C), k < 2 ^ n → j < 2 ^ n → q_tg n (q_ts n t k c) j = if j = k then c else q_tg n t j
  | 0, t, k, j, c, hk, hj => by
    have e1 : k = 0 := by simpa using hk
    have e2 : j = 0 := by simpa using hj
    subst e1; subst e2
    rfl
  | n + 1, t, k, j, c, hk, hj => by
    have hk2 : k / 2 < 2 ^ n := by rw [Nat.pow_succ] at hk; omega
    have hj2 : j / 2 < 2 ^ n := by rw [Nat.pow_succ] at hj; omega
    have ih1 := q_tg_ts n (Prod.fst (α := q_T n) (β := q_T n) t) (k / 2) (j / 2) c hk2 hj2
    have ih2 := q_tg_ts n (Prod.snd (α := q_T n) (β := q_T n) t) (k / 2) (j / 2) c hk2 hj2
    rcases q_ev k with ⟨hk0, hkm⟩ | ⟨hk0, hkm⟩ <;> rcases q_ev j with ⟨hj0, hjm⟩ | ⟨hj0, hjm⟩
    · refine (congrArg (fun u => q_tg (n + 1) u j) (q_ts_0 n t k c hk0)).trans ((q_tg_0 n _ j hj0).trans (ih1.trans ((q_ifc (by omega) _ _).trans (congrArg (fun u => if j = k then c else u) (q_tg_0 n t j hj0).symm))))
    · refine (congrArg (fun u => q_tg (n + 1) u j) (q_ts_0 n t k c hk0)).trans ((q_tg_1 n _ j hj0).trans ((q_tg_1 n t j hj0).symm.trans (if_neg (by omega)).symm))
    · refine (congrArg (fun u => q_tg (n + 1) u j) (q_ts_1 n t k c hk0)).trans ((q_tg_0 n _ j hj0).trans ((q_tg_0 n t j hj0).symm.trans (if_neg (by omega)).symm))
    · refine (congrArg (fun u => q_tg (n + 1) u j) (q_ts_1 n t k c hk0)).trans ((q_tg_1 n _ j hj0).trans (ih2.trans ((q_ifc (by omega) _ _).trans (congrArg (fun u => if j = k then c else u) (q_tg_1 n t j hj0).symm))))
/-- how many fields and elements the first n cells have -/
noncomputable def q_s1 (t : q_T 7) (n : Nat) : Nat := Nat.rec 0 (fun k ih => ih + (q_tg 7 t k).2.1) n
noncomputable def q_ss (h : q_H) : Nat := q_s1 h.2 h.1
theorem q_s1_cong {t u : q_T 7} : ∀ {n : Nat}, (∀ k, k < n → (q_tg 7 t k).2.1 = (q_tg 7 u k).2.1) → q_s1 t n = q_s1 u n
  | 0, _ => rfl
  | n + 1, h => by
    show q_s1 t n + (q_tg 7 t n).2.1 = q_s1 u n + (q_tg 7 u n).2.1
    rw [q_s1_cong (n := n) (fun k hk => h k (by omega)), h n (by omega)]
theorem q_fr_eq {α : Type} (n : Nat) (k : Nat → α) : q_fr n k = k n := by cases n <;> rfl
theorem q_len_eq {α : Type} : ∀ (l : List α), q_len l = l.length
  | [] => rfl
  | a :: l => by show Nat.succ (q_len l) = _; rw [q_len_eq l]; rfl
theorem q_nth_eq {α : Type} : ∀ (l : List α) (d : α) (k : Nat), q_nth l d k = l.getD k d
  | [], d, k => by simp [q_nth]
  | a :: l, d, 0 => by show a = _; simp
  | a :: l, d, k + 1 => by show q_nth l d k = _; rw [q_nth_eq l d k]; simp

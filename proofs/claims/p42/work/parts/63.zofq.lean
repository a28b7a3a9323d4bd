/-! ===== a world that numbers tell of is a typed world ===== -/
/-- a code of the plain evaluator is of a type; n cells, their tags ts -/
noncomputable def z_qrf (n : Nat) (ts : List Nat) (t c : Nat) : Bool := Nat.ble 4294967328 c && (Nat.blt (q_rf c) n && Nat.beq (q_nth ts 9999 (q_rf c)) t)
noncomputable def z_qin (a b c : Nat) : Bool := Nat.ble c 4294967295 && (Nat.ble a (q_bi c) && Nat.ble (q_bi c) b)
noncomputable def z_qf (n : Nat) (ts : List Nat) (t : z_C) (c : Nat) : Bool := bif Nat.beq t.1 0 then z_qin t.2.1 t.2.2 c else bif Nat.beq t.1 1 then z_qrf n ts t.2.1 c else bif Nat.beq t.1 2 then Nat.beq c 4294967312 || z_qrf n ts t.2.1 c else Nat.beq t.1 3 && Nat.beq c 4294967313
/-- all numbers from a * 2^k on, 2^k of them -/
noncomputable def z_alb (p : Nat → Bool) (k : Nat) : Nat → Bool := Nat.rec (fun a => p a) (fun _ ih a => q_fr (Nat.mul 2 a) (fun b => ih b && q_fr (Nat.succ b) (fun c => ih c))) k
noncomputable def z_qfl (n : Nat) (ts : List Nat) (N : Nat) (l : List z_C) : Nat → Bool := List.rec (fun _ => true) (fun t _ ih j => q_fr (q_get N j) (fun c => z_qf n ts t c) && ih (Nat.succ j)) l
noncomputable def z_qc1 (n : Nat) (ts : List Nat) (T : z_T) (c : q_C) : Bool := bif Nat.beq T.1 0 then Nat.beq c.1 (Nat.mul 2 T.2.1) && (Nat.beq c.2.1 (q_len T.2.2.1) && z_qfl n ts c.2.2 T.2.2.1 0) else Nat.beq c.1 T.1 && (Nat.beq c.2.1 T.2.1 && (bif Nat.beq T.1 1 || (Nat.beq T.1 3 || Nat.beq T.1 5) then Nat.ble T.2.1 32768 && z_alb (fun j => not (Nat.blt j T.2.1) || q_fr (q_get c.2.2 j) (fun v => (fun s : Nat × Nat => z_qin s.1 s.2 v) (z_el T.2.2.1 (Nat.mod j T.2.2.2.1)))) 15 0 else bif Nat.beq T.1 7 then true else Nat.beq T.1 9 && Nat.beq c.2.2 0))
noncomputable def z_qcl (tt : Nat → z_T) (h : q_H) (ts l : List Nat) : Nat → Bool := List.rec (fun _ => true) (fun t _ ih k => z_qc1 h.1 ts (tt t) (q_tg 7 h.2 k) && ih (Nat.succ k)) l
noncomputable def z_c40 (ts : List Nat) : Nat := List.rec 0 (fun t _ ih => bif Nat.beq t 40 then Nat.succ ih else ih) ts
theorem z_c40_1 : ∀ (ts : List Nat) (j : Nat), ts[j]? = some 40 → 1 ≤ z_c40 ts
  | [], j, h => by cases h
  | t :: ts, 0, h => by
    have e : t = 40 := Option.some.inj h
    show 1 ≤ (bif Nat.beq t 40 then Nat.succ (z_c40 ts) else z_c40 ts)
    rw [q_ift _ _ (q_beq.mpr e)]
    omega
  | t :: ts, j + 1, h => by
    have ih := z_c40_1 ts j h
    show 1 ≤ (bif Nat.beq t 40 then Nat.succ (z_c40 ts) else z_c40 ts)
    cases Nat.beq t 40 with
    | true => exact Nat.le_succ_of_le ih
    | false => exact ih
theorem z_c40_2 : ∀ (ts : List Nat) (i j : Nat), i < j → ts[i]? = some 40 → ts[j]? = some 40 → 2 ≤ z_c40 ts
  | [], i, j, _, h, _ => by cases h
  | t :: ts, 0, 0, h, _, _ => absurd h (Nat.lt_irrefl _)
  | t :: ts, 0, j + 1, _, h, h2 => by
    have e : t = 40 := Option.some.inj h
    have ih := z_c40_1 ts j h2
    show 2 ≤ (bif Nat.beq t 40 then Nat.succ (z_c40 ts) else z_c40 ts)
    rw [q_ift _ _ (q_beq.mpr e)]
    omega
  | t :: ts, i + 1, 0, h, _, _ => absurd h (Nat.not_lt_zero _)
  | t :: ts, i + 1, j + 1, hij, h, h2 => by
    have ih := z_c40_2 ts i j (by omega) h h2
    show 2 ≤ (bif Nat.beq t 40 then Nat.succ (z_c40 ts) else z_c40 ts)
    cases Nat.beq t 40 with
    | true => exact Nat.le_succ_of_le ih
    | false => exact ih
theorem z_c40_u {ts : List Nat} (h : z_c40 ts ≤ 1) : ∀ (i j : Nat), ts[i]? = some 40 → ts[j]? = some 40 → i = j := fun i j hi hj => by
  rcases Nat.lt_trichotomy i j with e | e | e
  · have := z_c40_2 ts i j e hi hj
    omega
  · exact e
  · have := z_c40_2 ts j i e hj hi
    omega
noncomputable def z_qck (tt : Nat → z_T) (h : q_H) (ts : List Nat) : Bool := Nat.beq (q_len ts) h.1 && (Nat.ble (z_c40 ts) 1 && z_qcl tt h ts ts 0)
theorem z_alb_s {p : Nat → Bool} : ∀ (k a : Nat), z_alb p k a = true → ∀ j, a * 2 ^ k ≤ j → j < (a + 1) * 2 ^ k → p j = true
  | 0, a, h, j, h1, h2 => by
    have e : j = a := by omega
    rw [e]
    exact h
  | k + 1, a, h, j, h1, h2 => by
    have h : q_fr (Nat.mul 2 a) (fun b => z_alb p k b && q_fr (Nat.succ b) (fun c => z_alb p k c)) = true := h
    rw [q_fr_eq, q_fr_eq] at h
    obtain ⟨g1, g2⟩ := q_ands h
    have e0 : Nat.mul 2 a = 2 * a := rfl
    rw [e0] at g1 g2
    by_cases hj : j < (2 * a + 1) * 2 ^ k
    · refine z_alb_s k (2 * a) g1 j ?_ hj
      rw [Nat.pow_succ] at h1
      have : 2 * a * 2 ^ k = a * (2 ^ k * 2) := by rw [Nat.mul_comm 2 a, Nat.mul_assoc, Nat.mul_comm 2]
      omega
    · refine z_alb_s k (2 * a + 1) g2 j (Nat.le_of_not_lt hj) ?_
      rw [Nat.pow_succ] at h2
      have : (2 * a + 1 + 1) * 2 ^ k = (a + 1) * (2 ^ k * 2) := by
        rw [show 2 * a + 1 + 1 = (a + 1) * 2 by omega, Nat.mul_assoc, Nat.mul_comm 2]
      omega
theorem z_qfl_s {n : Nat} {ts : List Nat} {N : Nat} : ∀ (l : List z_C) (j : Nat), z_qfl n ts N l j = true → ∀ k t, l[k]? = some t → z_qf n ts t (q_get N (j + k)) = true
  | [], _, _, k, t, h => by cases h
  | t0 :: l, j, h, 0, t, ht => by
    cases ht
    have h : (q_fr (q_get N j) (fun c => z_qf n ts t0 c) && z_qfl n ts N l (j + 1)) = true := h
    have := (q_ands h).1
    rw [q_fr_eq] at this
    exact this
  | t0 :: l, j, h, k + 1, t, ht => by
    have h : (q_fr (q_get N j) (fun c => z_qf n ts t0 c) && z_qfl n ts N l (j + 1)) = true := h
    have := z_qfl_s l (j + 1) (q_ands h).2 k t ht
    rw [show j + 1 + k = j + (k + 1) by omega] at this
    exact this
theorem z_qcl_s {tt : Nat → z_T} {h : q_H} {ts : List Nat} : ∀ (l : List Nat) (k : Nat), z_qcl tt h ts l k = true → ∀ j t, l[j]? = some t → z_qc1 h.1 ts (tt t) (q_tg 7 h.2 (k + j)) = true
  | [], _, _, j, t, hj => by cases hj
  | t0 :: l, k, hh, 0, t, ht => by
    cases ht
    have hh : (z_qc1 h.1 ts (tt t0) (q_tg 7 h.2 k) && z_qcl tt h ts l (k + 1)) = true := hh
    exact (q_ands hh).1
  | t0 :: l, k, hh, j + 1, t, ht => by
    have hh : (z_qc1 h.1 ts (tt t0) (q_tg 7 h.2 k) && z_qcl tt h ts l (k + 1)) = true := hh
    have := z_qcl_s l (k + 1) (q_ands hh).2 j t ht
    rw [show k + 1 + j = k + (j + 1) by omega] at this
    exact this
section ZQ
variable {env : Nat → Int32} {rg : Nat → Nat × Nat} {ad ts : List Nat} {n : Nat}
theorem z_qin_s {a b c : Nat} {v : Value} {ad2 : List Nat} (h : z_qin a b c = true) (hv : q_v env ad2 c v) : ∃ x, v = .int x ∧ a ≤ q_qb x ∧ q_qb x ≤ b := by
  obtain ⟨h1, h2⟩ := q_ands h
  obtain ⟨h2, h3⟩ := q_ands h2
  have h1 := q_ble.mp h1
  have h2 := q_ble.mp h2
  have h3 := q_ble.mp h3
  have e : v = .int (nI c) := by
    rcases hv with ⟨g1, g2⟩ | ⟨g1, _⟩ | ⟨g1, _⟩ | ⟨g1, _⟩ | ⟨g1, _⟩ | ⟨g1, _⟩
    · exact g2
    all_goals omega
  exact ⟨_, e, by rw [q_qb_nI h1]; exact h2, by rw [q_qb_nI h1]; exact h3⟩
theorem z_qrf_s {t c : Nat} {v : Value} (hl : ts.length = n) (h : z_qrf n ts t c = true) (hv : q_v env ad c v) : z_rt ad ts t v := by
  obtain ⟨h1, h2⟩ := q_ands h
  obtain ⟨h2, h3⟩ := q_ands h2
  have h1 := q_ble.mp h1
  have h2 := q_blt.mp h2
  have h3 := q_beq.mp h3
  obtain ⟨a, ha, rfl⟩ := hv.ref h1
  rw [q_rf_eq] at h2 h3
  rw [q_nth_eq] at h3
  generalize c - 4294967328 = j at ha h2 h3
  refine ⟨j, a, rfl, ha, ?_⟩
  rw [List.getD_eq_getElem?_getD] at h3
  cases hx : ts[j]? with
  | none =>
    have := List.getElem?_eq_none_iff.mp hx
    omega
  | some w =>
    rw [hx] at h3
    have h3 : w = t := h3
    rw [h3]
theorem z_qf_s {t : z_C} {c : Nat} {v : Value} (hl : ts.length = n) (h : z_qf n ts t c = true) (hv : (c = 4294967313 ∧ ∃ x, v = .long x) ∨ q_v env ad c v) : z_tv ad ts t v := by
  unfold z_qf at h
  cases h0 : Nat.beq t.1 0 with
  | true =>
    rw [q_ift _ _ h0] at h
    rcases hv with ⟨rfl, -⟩ | hv
    · have := q_ble.mp (q_ands h).1
      omega
    · exact Or.inl ⟨q_beq.mp h0, z_qin_s h hv⟩
  | false =>
    rw [q_iff _ _ h0] at h
    cases h1 : Nat.beq t.1 1 with
    | true =>
      rw [q_ift _ _ h1] at h
      rcases hv with ⟨rfl, -⟩ | hv
      · have := q_ble.mp (q_ands h).1
        omega
      · exact Or.inr (Or.inl ⟨q_beq.mp h1, z_qrf_s hl h hv⟩)
    | false =>
      rw [q_iff _ _ h1] at h
      cases h2 : Nat.beq t.1 2 with
      | true =>
        rw [q_ift _ _ h2] at h
        rcases hv with ⟨rfl, -⟩ | hv
        · rcases q_ors h with h | h
          · have := q_beq.mp h
            omega
          · have := q_ble.mp (q_ands h).1
            omega
        · rcases q_ors h with h | h
          · rw [q_beq.mp h] at hv
            exact Or.inr (Or.inr (Or.inl ⟨q_beq.mp h2, Or.inl hv.nul⟩))
          · exact Or.inr (Or.inr (Or.inl ⟨q_beq.mp h2, Or.inr (z_qrf_s hl h hv)⟩))
      | false =>
        rw [q_iff _ _ h2] at h
        obtain ⟨h3, h4⟩ := q_ands h
        have h4 := q_beq.mp h4
        subst h4
        rcases hv with ⟨-, hv⟩ | hv
        · exact Or.inr (Or.inr (Or.inr ⟨q_beq.mp h3, hv⟩))
        · rcases hv with ⟨g1, _⟩ | ⟨g1, _⟩ | ⟨g1, g2, _⟩ | ⟨g1, _⟩ | ⟨g1, _⟩ | ⟨g1, _⟩
          all_goals omega
theorem z_qca_s {tys : List (ClassId × FieldType)} {ty : FieldType} {T : z_T} {ln N : Nat} {e : va_E} (hln : ln = T.2.1) (h : q_ca env tys ty ln N e) (hc : (Nat.ble T.2.1 32768 && z_alb (fun j => not (Nat.blt j T.2.1) || q_fr (q_get N j) (fun v => (fun s : Nat × Nat => z_qin s.1 s.2 v) (z_el T.2.2.1 (Nat.mod j T.2.2.2.1)))) 15 0) = true) : z_ca tys ty T e := by
  subst hln
  obtain ⟨cA, t, f, h1, h2, h3, h4⟩ := h
  obtain ⟨hc1, hc2⟩ := q_ands hc
  have hc1 := q_ble.mp hc1
  refine ⟨cA, t, f, h1, h2, fun k hk => ?_⟩
  have e15 : (0 + 1) * 2 ^ 15 = 32768 := by decide
  have h5 := z_alb_s 15 0 hc2 k (by rw [Nat.zero_mul]; exact Nat.zero_le k) (by rw [e15]; exact Nat.lt_of_lt_of_le hk hc1)
  have h5 : (not (Nat.blt k T.2.1) || q_fr (q_get N k) (fun v => (fun s : Nat × Nat => z_qin s.1 s.2 v) (z_el T.2.2.1 (Nat.mod k T.2.2.2.1)))) = true := h5
  rw [q_blt.mpr hk, q_fr_eq] at h5
  have h5 : z_qin (z_el T.2.2.1 (k % T.2.2.2.1)).1 (z_el T.2.2.1 (k % T.2.2.2.1)).2 (q_get N k) = true := h5
  obtain ⟨x, e1, g1, g2⟩ := z_qin_s h5 (h4 k hk).2
  cases e1
  exact ⟨g1, g2⟩
theorem z_ofq {tt : Nat → z_T} {h : q_H} {ws : va_W} {tys : List (ClassId × FieldType)} {ts : List Nat} (hw : q_W env h ws tys) (hck : z_qck tt h ts = true) : z_W tt ws tys ts := by
  obtain ⟨w1, w2, w3⟩ := hw
  obtain ⟨c1, c2⟩ := q_ands hck
  obtain ⟨c3, c2⟩ := q_ands c2
  have c3 := q_ble.mp c3
  have c1 := q_beq.mp c1
  rw [q_len_eq] at c1
  refine ⟨by omega, fun k a e hk => ?_, z_c40_u c3⟩
  have hk1 : k < h.1 := by rw [← w1]; exact (List.getElem?_eq_some_iff.mp hk).1
  obtain ⟨a2, e2, g1, g2⟩ := w3 k hk1
  rw [hk] at g1
  cases g1
  have hkt : k < ts.length := by omega
  refine ⟨ts[k], List.getElem?_eq_getElem hkt, ?_⟩
  have g3 := z_qcl_s ts 0 c2 k _ (List.getElem?_eq_getElem hkt)
  rw [Nat.zero_add] at g3
  generalize tt ts[k] = T at g3
  generalize q_tg 7 h.2 k = c at g2 g3
  unfold z_qc1 at g3
  cases h0 : Nat.beq T.1 0 with
  | true =>
    rw [q_ift _ _ h0] at g3
    obtain ⟨g4, g5⟩ := q_ands g3
    obtain ⟨g5, g6⟩ := q_ands g5
    have g4 : c.1 = 2 * T.2.1 := q_beq.mp g4
    have g5 := q_beq.mp g5
    rw [q_len_eq] at g5
    obtain ⟨fs, rfl, f1, f2⟩ := g2.obj g4
    refine Or.inl ⟨q_beq.mp h0, fs, rfl, by omega, fun j v hj => ?_⟩
    have hj2 : j < T.2.2.1.length := by
      have := (List.getElem?_eq_some_iff.mp hj).1
      omega
    have g7 := z_qfl_s T.2.2.1 0 g6 j _ (List.getElem?_eq_getElem hj2)
    rw [Nat.zero_add] at g7
    have e9 : z_nth T.2.2.1 j = T.2.2.1[j] := by
      show q_nth T.2.2.1 (9, 0, 0) j = _
      rw [q_nth_eq, List.getD_eq_getElem?_getD, List.getElem?_eq_getElem hj2]
      rfl
    rw [e9]
    exact z_qf_s c1 g7 (f2 j v hj)
  | false =>
    rw [q_iff _ _ h0] at g3
    have h0 := q_bneq.mp h0
    obtain ⟨g4, g5⟩ := q_ands g3
    obtain ⟨g5, g6⟩ := q_ands g5
    have g4 := q_beq.mp g4
    have g5 := q_beq.mp g5
    have hodd : T.1 = 1 ∨ T.1 = 3 ∨ T.1 = 5 ∨ T.1 = 7 ∨ T.1 = 9 := by
      cases hb : (Nat.beq T.1 1 || (Nat.beq T.1 3 || Nat.beq T.1 5)) with
      | true =>
        rcases q_ors hb with hb | hb
        · exact Or.inl (q_beq.mp hb)
        · rcases q_ors hb with hb | hb
          · exact Or.inr (Or.inl (q_beq.mp hb))
          · exact Or.inr (Or.inr (Or.inl (q_beq.mp hb)))
      | false =>
        rw [q_iff _ _ hb] at g6
        cases h7 : Nat.beq T.1 7 with
        | true => exact Or.inr (Or.inr (Or.inr (Or.inl (q_beq.mp h7))))
        | false =>
          rw [q_iff _ _ h7] at g6
          exact Or.inr (Or.inr (Or.inr (Or.inr (q_beq.mp (q_ands g6).1))))
    rcases hodd with h1 | h1 | h1 | h1 | h1
    · rw [q_ift _ _ (by rw [h1]; rfl)] at g6
      rcases g2 with ⟨ci, fs, f1, _⟩ | ⟨f1, f2⟩ | ⟨f1, f2⟩ | ⟨f1, f2⟩ | ⟨f1, f2⟩ | ⟨f1, f2⟩
      · omega
      · exact Or.inr (Or.inl ⟨h1, z_qca_s g5 f2 g6⟩)
      all_goals omega
    · rw [q_ift _ _ (by rw [h1]; rfl)] at g6
      rcases g2 with ⟨ci, fs, f1, _⟩ | ⟨f1, f2⟩ | ⟨f1, f2⟩ | ⟨f1, f2⟩ | ⟨f1, f2⟩ | ⟨f1, f2⟩
      · omega
      · omega
      · exact Or.inr (Or.inr (Or.inl ⟨h1, z_qca_s g5 f2 g6⟩))
      all_goals omega
    · rw [q_ift _ _ (by rw [h1]; rfl)] at g6
      rcases g2 with ⟨ci, fs, f1, _⟩ | ⟨f1, f2⟩ | ⟨f1, f2⟩ | ⟨f1, f2⟩ | ⟨f1, f2⟩ | ⟨f1, f2⟩
      · omega
      · omega
      · omega
      · exact Or.inr (Or.inr (Or.inr (Or.inl ⟨h1, z_qca_s g5 f2 g6⟩)))
      all_goals omega
    · rcases g2 with ⟨ci, fs, f1, _⟩ | ⟨f1, f2⟩ | ⟨f1, f2⟩ | ⟨f1, f2⟩ | ⟨f1, f2⟩ | ⟨f1, f2⟩
      · omega
      · omega
      · omega
      · omega
      · obtain ⟨cA, t, f, f3, f4, _⟩ := f2
        exact Or.inr (Or.inr (Or.inr (Or.inr (Or.inl ⟨h1, cA, t, f, by rw [← g5]; exact f3, f4⟩))))
      · omega
    · rcases g2 with ⟨ci, fs, f1, _⟩ | ⟨f1, f2⟩ | ⟨f1, f2⟩ | ⟨f1, f2⟩ | ⟨f1, f2⟩ | ⟨f1, f2⟩
      · omega
      · omega
      · omega
      · omega
      · omega
      · rw [h1] at g6
        have g6 := q_beq.mp (q_ands (show (true && Nat.beq c.2.2 0) = true from g6)).2
        obtain ⟨cA, t, f, f3, f4, f5, f6⟩ := f2
        refine Or.inr (Or.inr (Or.inr (Or.inr (Or.inr ⟨h1, cA, t, f, by rw [← g5]; exact f3, f4, fun j a hj hf => ?_⟩))))
        rcases f6 j (by omega) with ⟨-, f7⟩ | ⟨f7, -⟩
        · rw [hf] at f7
          cases f7
        · rw [g6, q_get_0] at f7
          omega
end ZQ

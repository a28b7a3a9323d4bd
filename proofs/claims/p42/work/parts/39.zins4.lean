/-! ===== instruction by instruction: reads of the heap ===== -/
theorem z_hu_s : ∀ (fl : List z_C) (a b j : Nat), a ≤ j → j ≤ b → (z_hu fl a b).1 ≤ (z_el fl j).1 ∧ (z_el fl j).2 ≤ (z_hu fl a b).2
  | [], _, _, _, _, _ => ⟨Nat.le_refl _, Nat.le_refl _⟩
  | s :: t, a, b, j, h1, h2 => by
    have e1 : z_hu (s :: t) a b = bif Nat.ble s.1 a then z_hu t a b else bif Nat.blt b s.1 then s.2 else (z_min s.2.1 (z_hu t s.1 b).1, z_max s.2.2 (z_hu t s.1 b).2) := rfl
    have e2 : z_el (s :: t) j = bif Nat.blt j s.1 then s.2 else z_el t j := rfl
    rw [e1, e2]
    cases h3 : Nat.ble s.1 a with
    | true =>
      have h3 := q_ble.mp h3
      rw [q_ift _ _ rfl, q_iff _ _ (q_bnle.mpr (show j < j + 1 by omega) |> fun _ => by
        cases h : Nat.blt j s.1 with
        | false => rfl
        | true => have := q_blt.mp h; omega)]
      exact z_hu_s t a b j h1 h2
    | false =>
      rw [q_iff _ _ rfl]
      cases h4 : Nat.blt b s.1 with
      | true =>
        have h4 := q_blt.mp h4
        rw [q_ift _ _ rfl, q_ift _ _ (q_blt.mpr (show j < s.1 by omega))]
        exact ⟨Nat.le_refl _, Nat.le_refl _⟩
      | false =>
        rw [q_iff _ _ rfl]
        cases h5 : Nat.blt j s.1 with
        | true =>
          rw [q_ift _ _ rfl]
          exact ⟨(z_min_le1 _ _).1, (z_le_max _ _).1⟩
        | false =>
          rw [q_iff _ _ rfl]
          have h6 : s.1 ≤ j := by
            rcases Nat.lt_or_ge j s.1 with h | h
            · rw [q_blt.mpr h] at h5; cases h5
            · exact h
          have := z_hu_s t s.1 b j h6 h2
          exact ⟨Nat.le_trans (z_min_le1 _ _).2 this.1, Nat.le_trans this.2 (z_le_max _ _).2⟩
theorem z_na_s : ∀ (fl : List z_C) (a b j : Nat), a ≤ j → j ≤ b → (z_el fl j).1 ≤ (z_na fl a b).1 ∧ (z_na fl a b).2 ≤ (z_el fl j).2
  | [], _, _, _, _, _ => ⟨Nat.le_refl _, Nat.le_refl _⟩
  | s :: t, a, b, j, h1, h2 => by
    have e1 : z_na (s :: t) a b = bif Nat.ble s.1 a then z_na t a b else bif Nat.blt b s.1 then s.2 else (z_max s.2.1 (z_na t s.1 b).1, z_min s.2.2 (z_na t s.1 b).2) := rfl
    have e2 : z_el (s :: t) j = bif Nat.blt j s.1 then s.2 else z_el t j := rfl
    rw [e1, e2]
    cases h3 : Nat.ble s.1 a with
    | true =>
      have h3 := q_ble.mp h3
      have hf : Nat.blt j s.1 = false := by
        cases h : Nat.blt j s.1 with
        | false => rfl
        | true => have := q_blt.mp h; omega
      rw [q_ift _ _ rfl, q_iff _ _ hf]
      exact z_na_s t a b j h1 h2
    | false =>
      rw [q_iff _ _ rfl]
      cases h4 : Nat.blt b s.1 with
      | true =>
        have h4 := q_blt.mp h4
        rw [q_ift _ _ rfl, q_ift _ _ (q_blt.mpr (show j < s.1 by omega))]
        exact ⟨Nat.le_refl _, Nat.le_refl _⟩
      | false =>
        rw [q_iff _ _ rfl]
        cases h5 : Nat.blt j s.1 with
        | true =>
          rw [q_ift _ _ rfl]
          exact ⟨(z_le_max _ _).1, (z_min_le1 _ _).1⟩
        | false =>
          rw [q_iff _ _ rfl]
          have h6 : s.1 ≤ j := by
            rcases Nat.lt_or_ge j s.1 with h | h
            · rw [q_blt.mpr h] at h5; cases h5
            · exact h
          have := z_na_s t s.1 b j h6 h2
          exact ⟨Nat.le_trans this.1 (z_le_max _ _).2, Nat.le_trans (z_min_le1 _ _).2 this.2⟩
theorem z_rng_s {α : Type} {per a b j : Nat} {k : Nat → Nat → α} (h1 : a ≤ j) (h2 : j ≤ b) : ∃ x y, z_rng per a b k = k x y ∧ x ≤ j % per ∧ j % per ≤ y := by
  unfold z_rng
  cases h : Nat.beq (Nat.div a per) (Nat.div b per) with
  | true =>
    rw [q_ift _ _ rfl, q_fr_eq, q_fr_eq]
    have h : a / per = b / per := q_beq.mp h
    have g1 : a / per ≤ j / per := Nat.div_le_div_right h1
    have g2 : j / per ≤ b / per := Nat.div_le_div_right h2
    have e1 := Nat.div_add_mod a per
    have e2 := Nat.div_add_mod b per
    have e3 := Nat.div_add_mod j per
    have g3 : j / per = a / per := by omega
    have g4 : b / per = a / per := by omega
    rw [g3] at e3
    rw [g4] at e2
    refine ⟨a % per, b % per, rfl, ?_, ?_⟩
    · omega
    · omega
  | false =>
    rw [q_iff _ _ rfl, q_fr_eq]
    refine ⟨0, Nat.sub per 1, rfl, Nat.zero_le _, ?_⟩
    rw [Nat.sub_eq]
    cases per with
    | zero =>
      have : Nat.beq (Nat.div a 0) (Nat.div b 0) = true := q_beq.mpr (by show a / 0 = b / 0; rw [Nat.div_zero, Nat.div_zero])
      rw [this] at h
      cases h
    | succ n =>
      show j % (n + 1) ≤ n
      exact Nat.le_of_lt_succ (Nat.mod_lt j (Nat.succ_pos n))
theorem z_fg_s {s : Nat} {ic c : z_C} : ∀ {F : List z_A}, z_fg F s ic = some c → ∃ f ∈ F, f.1 = s ∧ f.2.2.1 = ic ∧ f.2.2.2 = c
  | [], h => by cases h
  | f :: t, h => by
    have h : (bif Nat.beq f.1 s && z_ceq f.2.2.1 ic then some f.2.2.2 else z_fg t s ic) = some c := h
    cases hb : (Nat.beq f.1 s && z_ceq f.2.2.1 ic) with
    | true =>
      rw [q_ift _ _ hb] at h
      exact ⟨f, List.mem_cons_self, q_beq.mp (q_ands hb).1, z_ceq_eq (q_ands hb).2, Option.some.inj h⟩
    | false =>
      rw [q_iff _ _ hb] at h
      obtain ⟨f2, h1, h2⟩ := z_fg_s h
      exact ⟨f2, List.mem_cons_of_mem _ h1, h2⟩
theorem z_v.inj {sa : Nat → Nat} {ad ts : List Nat} {vs : List Value} {c : z_C} {x y : Int32} (h1 : z_v sa ad ts vs c (.int x)) (h2 : z_v sa ad ts vs c (.int y)) (kc : c.1 = 0) : x = y := by
  obtain ⟨a, b, e1, e2, e3⟩ := h1.int kc
  cases e2
  obtain ⟨a2, b2, f1, f2, f3⟩ := h2.int kc
  cases f2
  rw [e1] at f1
  cases f1
  exact (q_eq_iff x y).mpr (by omega)
/-- a fact says what is at its place -/
theorem z_fact {base : Nat} {sa : Nat → Nat} {ws : va_W} {ts : List Nat} {vs : List Value} {F : List z_A} (hF : z_Fs sa ws ts vs F) (hD : va_D (q_A base) ws) {s q j k : Nat} {e : va_E} {ic c : z_C} {y : Int32} (h1 : vs[s]? = some (.ref q)) (h2 : ws[j]? = some (q, e)) (h3 : z_fg F s ic = some c) (h4 : z_v sa (q_ad ws) ts vs ic (.int y)) (h5 : q_qb y = 2147483648 + k) : ∃ v, z_at e k = some v ∧ z_v sa (q_ad ws) ts vs c v := by
  obtain ⟨f, f1, f2, f3, f4⟩ := z_fg_s h3
  obtain ⟨a, j2, k2, e2, y2, v, g1, g2, g3, g4, g5, g6, g7, g8⟩ := hF f f1
  rw [f2, h1] at g1
  cases g1
  have ej : j = j2 := hD.1 j j2 _ _ h2 g2 rfl
  subst ej
  rw [h2] at g2
  cases g2
  rw [f3] at g4 g5
  have ey := h4.inj g4 g5
  subst ey
  have ek : k2 = k := by omega
  subst ek
  rw [f4] at g8
  exact ⟨v, g7, g8⟩
/-- what comes of a read: a code, the symbols -/
def z_Rs {α : Type} (sa : Nat → Nat) (tt : Nat → z_T) (vs0 : List Value) (ws : va_W) (ts : List Nat) (V : z_V) (vs : List Value) (k : z_V → z_C → Option α) (R : α) (v : Value) : Prop := ∃ W1 c vs', k W1 c = some R ∧ vs <+: vs' ∧ z_Sv sa tt vs0 ws ts W1 vs' ∧ W1.2.2.2.2.2 = V.2.2.2.2.2 ∧ z_v sa (q_ad ws) ts vs' c v
theorem z_Res.rs {α : Type} {sa : Nat → Nat} {tt : Nat → z_T} {vs0 : List Value} {ws : va_W} {ts : List Nat} {V : z_V} {vs : List Value} {k : z_V → z_C → Option α} {R : α} {v : Value} (h : z_Res sa (q_ad ws) ts V vs k R v) (hv : z_Sv sa tt vs0 ws ts V vs) : z_Rs sa tt vs0 ws ts V vs k R v := by
  obtain ⟨W1, c, vs', k1, k2, k3, k4, k5⟩ := h
  exact ⟨W1, c, vs', k1, k2, hv.ext k2 k3 k4, by rw [k4], k5⟩
theorem z_ld_s {α : Type} {sa : Nat → Nat} {ad ts : List Nat} {V : z_V} {vs : List Value} {t : z_C} {k : z_V → z_C → Option α} {R : α} {v : Value} (hr : z_ld V t k = some R) (hE : z_E V vs) (hv : z_tv ad ts t v) : z_Res sa ad ts V vs k R v := by
  unfold z_ld at hr
  have h0 : 0 < V.1 := by
    rw [← hE.1]
    exact (List.getElem?_eq_some_iff.mp hE.2.1).1
  cases b0 : Nat.beq t.1 0 with
  | true =>
    rw [q_ift _ _ b0] at hr
    have b0 := q_beq.mp b0
    rcases hv with ⟨_, x, rfl, h1, h2⟩ | ⟨h1, _⟩ | ⟨h1, _⟩ | ⟨h1, _⟩
    · exact z_fi_s hr hE h1 h2
    all_goals omega
  | false =>
    rw [q_iff _ _ b0] at hr
    have b0 := q_bneq.mp b0
    cases b1 : Nat.beq t.1 1 with
    | true =>
      rw [q_ift _ _ b1, z_frv_eq] at hr
      have b1 := q_beq.mp b1
      rcases hv with ⟨h1, _⟩ | ⟨_, h2⟩ | ⟨h1, _⟩ | ⟨h1, _⟩
      · omega
      · obtain ⟨j, a, rfl, h3, h4⟩ := id h2
        exact ⟨_, _, vs ++ [.ref a], hr, List.prefix_append _ _, hE.push (v := .ref a) (by decide) (by decide) trivial, rfl, Or.inr (Or.inl ⟨rfl, z_last hE.1, Or.inr h2⟩)⟩
      all_goals omega
    | false =>
      rw [q_iff _ _ b1] at hr
      have b1 := q_bneq.mp b1
      cases b2 : Nat.beq t.1 2 with
      | true =>
        rw [q_ift _ _ b2, z_frv_eq] at hr
        have b2 := q_beq.mp b2
        rcases hv with ⟨h1, _⟩ | ⟨h1, _⟩ | ⟨_, h2⟩ | ⟨h1, _⟩
        · omega
        · omega
        · rcases h2 with rfl | h2
          · exact ⟨_, _, vs ++ [.null], hr, List.prefix_append _ _, hE.push (v := .null) (by decide) (by decide) rfl, rfl, Or.inr (Or.inl ⟨rfl, z_last hE.1, Or.inl rfl⟩)⟩
          · obtain ⟨j, a, rfl, h3, h4⟩ := id h2
            exact ⟨_, _, vs ++ [.ref a], hr, List.prefix_append _ _, hE.push (v := .ref a) (by decide) (by decide) trivial, rfl, Or.inr (Or.inl ⟨rfl, z_last hE.1, Or.inr h2⟩)⟩
        · omega
      | false =>
        rw [q_iff _ _ b2] at hr
        have b2 := q_bneq.mp b2
        obtain ⟨b3, hr2⟩ := q_bifs hr
        rw [z_frv_eq] at hr2
        rcases hv with ⟨h1, _⟩ | ⟨h1, _⟩ | ⟨h1, _⟩ | ⟨_, x, rfl⟩
        · omega
        · omega
        · omega
        · exact ⟨_, _, vs ++ [.long x], hr2, List.prefix_append _ _, hE.push (v := .long x) (by decide) (by decide) (Or.inl rfl), rfl, Or.inr (Or.inr (Or.inr (Or.inl ⟨rfl, Or.inr ⟨by show ¬ V.1 = 0; omega, z_last hE.1, x, rfl⟩⟩)))⟩
theorem z_ix_inv {α : Type} {tt : Nat → z_T} {V : z_V} {a j : z_C} {k : z_T → z_C → Nat → Nat → Option α} {R : α} (hr : z_ix tt V a j k = some R) : z_nn V a = true ∧ j.1 = 0 ∧ 2147483648 ≤ z_il V j ∧ z_ih V j < 2147483648 + (tt a.2.2).2.1 ∧ (tt a.2.2).2.1 ≤ 100000 ∧ ¬ (tt a.2.2).1 = 0 ∧ k (tt a.2.2) (bif Nat.beq (z_il V j) (z_ih V j) then (0, 0, z_il V j) else j) (z_il V j) (z_ih V j) = some R := by
  obtain ⟨h1, h2⟩ := q_bifs hr
  rw [q_fr_eq, q_fr_eq] at h2
  obtain ⟨g1, h1⟩ := q_ands h1
  obtain ⟨g2, h1⟩ := q_ands h1
  obtain ⟨g3, h1⟩ := q_ands h1
  obtain ⟨g4, h1⟩ := q_ands h1
  obtain ⟨g5, g6⟩ := q_ands h1
  have g4 := q_blt.mp g4
  rw [Nat.add_eq] at g4
  refine ⟨g1, q_beq.mp g2, q_ble.mp g3, g4, q_ble.mp g5, fun h => ?_, h2⟩
  rw [q_beq.mpr h] at g6
  cases g6
/-- the place that an index names -/
theorem z_idx {sa : Nat → Nat} {ad ts : List Nat} {V : z_V} {vs : List Value} {j : z_C} {v : Value} {n : Nat} (hE : z_E V vs) (hj : z_v sa ad ts vs j v) (kj : j.1 = 0) (h1 : 2147483648 ≤ z_il V j) (h2 : z_ih V j < 2147483648 + n) (hn : n ≤ 100000) : ∃ k, v = .int (nI k) ∧ k < n ∧ q_qb (nI k) = 2147483648 + k ∧ (nI k).toNatClampNeg = k ∧ vp_in (nI k) n ∧ z_il V j ≤ 2147483648 + k ∧ 2147483648 + k ≤ z_ih V j ∧ z_v sa ad ts vs (bif Nat.beq (z_il V j) (z_ih V j) then (0, 0, z_il V j) else j) (.int (nI k)) ∧ (bif Nat.beq (z_il V j) (z_ih V j) then ((0, 0, z_il V j) : z_C) else j).1 = 0 := by
  obtain ⟨y, rfl, b1, b2⟩ := hj.bnd hE kj
  obtain ⟨k, hk, rfl, ek⟩ := z_nat (x := y) (by omega)
  have hkn : k < n := by omega
  refine ⟨k, rfl, hkn, ek, nI_clamp (by omega), vp_in_nI hkn (by omega), by omega, by omega, ?_⟩
  cases hb : Nat.beq (z_il V j) (z_ih V j) with
  | true =>
    have hb := q_beq.mp hb
    rw [q_ift _ _ rfl]
    have e : z_il V j = q_qb (nI k) := by omega
    rw [e]
    exact ⟨z_v.mkcon hE, rfl⟩
  | false =>
    rw [q_iff _ _ rfl]
    exact ⟨hj, kj⟩
theorem z_Sv.addF {sa : Nat → Nat} {tt : Nat → z_T} {vs0 : List Value} {ws : va_W} {ts : List Nat} {V : z_V} {vs : List Value} (h : z_Sv sa tt vs0 ws ts V vs) {f : z_A} (hf : z_f1 sa ws ts vs f) : z_Sv sa tt vs0 ws ts (z_addF V f) vs := by
  obtain ⟨h1, h2, h3, h4⟩ := h
  refine ⟨h1, h2.same rfl rfl rfl, fun f2 hf2 => ?_, h4⟩
  rcases List.mem_cons.mp hf2 with rfl | hf2
  · exact hf
  · exact h3 f2 hf2
theorem z_Sv.addD {sa : Nat → Nat} {tt : Nat → z_T} {vs0 : List Value} {ws : va_W} {ts : List Nat} {V : z_V} {vs : List Value} (h : z_Sv sa tt vs0 ws ts V vs) {b : z_B} (hb : z_d1 sa tt (q_ad ws) ts vs b) : z_Sv sa tt vs0 ws ts (z_addD V b) vs := by
  obtain ⟨h1, h2, h3, h4⟩ := h
  refine ⟨h1, h2.same rfl rfl rfl, h3, fun b2 hb2 => ?_⟩
  rcases List.mem_cons.mp hb2 with rfl | hb2
  · exact hb
  · exact h4 b2 hb2
theorem z_fi_t {α : Type} {sa : Nat → Nat} {ad ts : List Nat} {V : z_V} {vs : List Value} {k : z_V → z_C → Option α} {R : α} {y : Int32} {lo hi : Nat} (hr : z_fi V lo hi k = some R) (hE : z_E V vs) (h1 : lo ≤ q_qb y) (h2 : q_qb y ≤ hi) : ∃ W1 c vs', k W1 c = some R ∧ vs <+: vs' ∧ z_E W1 vs' ∧ W1.2.2.2 = V.2.2.2 ∧ z_v sa ad ts vs' c (.int y) ∧ c.1 = 0 := by
  have hr2 : z_fi V lo hi (fun w c => bif Nat.beq c.1 0 then k w c else none) = some R := by
    unfold z_fi at hr ⊢
    cases hb : Nat.beq lo hi with
    | true =>
      rw [q_ift _ _ hb, q_fr_eq] at hr
      rw [q_ift _ _ rfl, q_fr_eq]
      exact hr
    | false =>
      rw [q_iff _ _ hb] at hr
      rw [q_iff _ _ rfl]
      cases h3 : (Nat.ble lo 4294967295 && Nat.ble hi 4294967295) with
      | false => rw [h3] at hr; cases hr
      | true =>
        rw [q_ift _ _ h3, q_fr_eq, q_fr_eq, z_frv_eq] at hr
        rw [q_ift _ _ rfl, q_fr_eq, q_fr_eq, z_frv_eq]
        exact hr
  obtain ⟨W1, c, vs', k1, k2, k3, k4, k5⟩ := z_fi_s (sa := sa) (ad := ad) (ts := ts) hr2 hE h1 h2
  obtain ⟨k6, k7⟩ := q_bifs k1
  exact ⟨W1, c, vs', k7, k2, k3, k4, k5, q_beq.mp k6⟩
theorem z_ldi_s {sa : Nat → Nat} {tt : Nat → z_T} {vs0 : List Value} {ws : va_W} {ts : List Nat} {V : z_V} {vs : List Value} {a ic : z_C} {k : z_V → z_C → Option (List z_O)} {os : List z_O} {y xj : Int32} {n lo hi : Nat} (hr : z_ldi V (tt a.2.2) a ic lo hi k = some os) (hv : z_Sv sa tt vs0 ws ts V vs) (hic : z_v sa (q_ad ws) ts vs ic (.int xj)) (kic : ic.1 = 0) (hn : q_qb xj = 2147483648 + n) (hlo : lo ≤ 2147483648 + n) (hhi : 2147483648 + n ≤ hi)
    (hb : (z_el (tt a.2.2).2.2.1 (n % (tt a.2.2).2.2.2.1)).1 ≤ q_qb y ∧ q_qb y ≤ (z_el (tt a.2.2).2.2.1 (n % (tt a.2.2).2.2.2.1)).2) : z_Rs sa tt vs0 ws ts V vs k os (.int y) := by
  unfold z_ldi at hr
  cases h3 : Nat.beq (tt a.2.2).1 3 with
  | true =>
    rw [q_ift _ _ h3] at hr
    exact (z_an_s hr hv.2.1).rs hv
  | false =>
    rw [q_iff _ _ h3] at hr
    obtain ⟨x1, y1, e1, e2, e3⟩ := z_rng_s (per := (tt a.2.2).2.2.2.1) (a := Nat.sub lo 2147483648) (b := Nat.sub hi 2147483648) (j := n) (k := fun x y => (fun r : Nat × Nat => z_fi V r.1 r.2 (fun w c => bif Nat.beq (tt a.2.2).2.2.2.2 1 && (not (Nat.beq lo hi) && (not (Nat.beq c.2.1 0) && Nat.beq c.2.2 2147483648)) then k (z_addD w (c.2.1, a.2.2, ic)) c else k w c)) (z_hu (tt a.2.2).2.2.1 x y)) (by rw [Nat.sub_eq]; omega) (by rw [Nat.sub_eq]; omega)
    rw [e1] at hr
    have hh := z_hu_s (tt a.2.2).2.2.1 x1 y1 (n % (tt a.2.2).2.2.2.1) e2 e3
    obtain ⟨W1, c1, vs1, k1, k2, k3, k4, k5, k6⟩ := z_fi_t (sa := sa) (ad := q_ad ws) (ts := ts) hr hv.2.1 (Nat.le_trans hh.1 hb.1) (Nat.le_trans hb.2 hh.2)
    have hv1 := hv.ext k2 k3 k4
    have k1 : (bif Nat.beq (tt a.2.2).2.2.2.2 1 && (not (Nat.beq lo hi) && (not (Nat.beq c1.2.1 0) && Nat.beq c1.2.2 2147483648)) then k (z_addD W1 (c1.2.1, a.2.2, ic)) c1 else k W1 c1) = some os := k1
    cases hc : (Nat.beq (tt a.2.2).2.2.2.2 1 && (not (Nat.beq lo hi) && (not (Nat.beq c1.2.1 0) && Nat.beq c1.2.2 2147483648))) with
    | false =>
      rw [q_iff _ _ hc] at k1
      exact ⟨W1, c1, vs1, k1, k2, hv1, by rw [k4], k5⟩
    | true =>
      rw [q_ift _ _ hc] at k1
      have hz := q_beq.mp (q_ands (q_ands (q_ands hc).2).2).2
      have kc : c1.1 = 0 := k6
      obtain ⟨xx, yy, f1, f2, f3⟩ := k5.int kc
      cases f2
      have exy : xx = y := (q_eq_iff xx y).mpr (by omega)
      subst exy
      refine ⟨_, c1, vs1, k1, k2, hv1.addD ⟨xx, xj, n, f1, hic.mono k2 List.prefix_rfl List.prefix_rfl, kic, hn, hb⟩, ?_, k5⟩
      show W1.2.2.2.2.2 = _
      rw [k4]
theorem q_small : ∀ (k : Nat) (r : vw_C), q_cls[k]? = some r → r.2.2 ≤ 100 := by
  have h : ∀ r ∈ q_cls.map (fun r => r.2.2), r ≤ 100 := by decide +kernel
  intro k r hr
  exact h _ (List.mem_map.mpr ⟨r, List.mem_of_getElem? hr, rfl⟩)
section ZI
variable {l : Launch} {base : Nat} {D : va_G} {sa : Nat → Nat} {g : z_G} {J : va_W → List Nat → Prop} {ih : z_F} {d : Nat × Nat} {i pc ln x y z : Nat} {tl : List q_I} {V : z_V} {L st : List z_C} {sp : List Nat} {cx : List z_X} {os : List z_O}
/-- a read of ints at a place -/
theorem z_ial_s {a j : z_C} {ok : Nat → Bool} {k : z_V → z_C → Option (List z_O)} (hr : z_ial g.1 V a j ok k = some os) {s : State} {w0 : va_W} {t0 : List Nat} {vs0 : List Value} {H : Heap} {locs : List Loc} {ws : va_W} {tys : List (ClassId × FieldType)} {ts : List Nat} {vs : List Value} {va vj : Value} (hp : z_Hp base D g.1 g.2.1 s w0 t0 H locs ws tys ts) (hv : z_Sv sa g.1 vs0 ws ts V vs) (hva : z_v sa (q_ad ws) ts vs a va) (hvj : z_v sa (q_ad ws) ts vs j vj) (hok : ∀ n, ok n = true → n = 1 ∨ n = 3 ∨ n = 5) : ok (g.1 a.2.2).1 = true ∧ ∃ (q jj n t : Nat) (cA : ClassId) (ty : FieldType) (f : Nat → Int32), va = .ref q ∧ vj = .int (nI n) ∧ ws[jj]? = some (q, .inl (cA, (g.1 a.2.2).2.1, .inl f)) ∧ tys[t]? = some (cA, ty) ∧ (((g.1 a.2.2).1 = 1 ∧ ty = .int) ∨ ((g.1 a.2.2).1 = 3 ∧ ty = .byte) ∨ ((g.1 a.2.2).1 = 5 ∧ ty = .boolean)) ∧ vp_in (nI n) (g.1 a.2.2).2.1 ∧ z_Rs sa g.1 vs0 ws ts V vs k os (.int (f (nI n).toNatClampNeg)) := by
  obtain ⟨g1, g2, g3, g4, g5, g6, hr2⟩ := z_ix_inv hr
  obtain ⟨q, jj, rfl, v1, v2, v3⟩ := hva.nonnull hv.2.1 g1
  obtain ⟨e, he, hc⟩ := hp.1.cell v2 v3
  obtain ⟨n, rfl, n1, n2, n3, n4, n5, n6, n7, n8⟩ := z_idx hv.2.1 hvj g2 g3 g4 g5
  obtain ⟨ho, hr3⟩ := q_bifs hr2
  clear hr2 hr
  refine ⟨ho, ?_⟩
  have harr : ∃ (cA : ClassId) (t : Nat) (f : Nat → Int32) (ty : FieldType), e = .inl (cA, (g.1 a.2.2).2.1, .inl f) ∧ tys[t]? = some (cA, ty) ∧ (((g.1 a.2.2).1 = 1 ∧ ty = .int) ∨ ((g.1 a.2.2).1 = 3 ∧ ty = .byte) ∨ ((g.1 a.2.2).1 = 5 ∧ ty = .boolean)) ∧ ∀ k, k < (g.1 a.2.2).2.1 → (z_el (g.1 a.2.2).2.2.1 (k % (g.1 a.2.2).2.2.2.1)).1 ≤ q_qb (f k) ∧ q_qb (f k) ≤ (z_el (g.1 a.2.2).2.2.1 (k % (g.1 a.2.2).2.2.2.1)).2 := by
    rcases hok _ ho with h | h | h
    · obtain ⟨cA, t, f, a1, a2, a3⟩ := hc.ints h
      exact ⟨cA, t, f, .int, a1, a2, Or.inl ⟨h, rfl⟩, a3⟩
    · obtain ⟨cA, t, f, a1, a2, a3⟩ := hc.bytes h
      exact ⟨cA, t, f, .byte, a1, a2, Or.inr (Or.inl ⟨h, rfl⟩), a3⟩
    · obtain ⟨cA, t, f, a1, a2, a3⟩ := hc.bools h
      exact ⟨cA, t, f, .boolean, a1, a2, Or.inr (Or.inr ⟨h, rfl⟩), a3⟩
  obtain ⟨cA, t, f, ty, rfl, a2, a3, a4⟩ := harr
  refine ⟨q, jj, n, t, cA, ty, f, rfl, rfl, he, a2, a3, n4, ?_⟩
  rw [n3]
  have hat : z_at (.inl (cA, (g.1 a.2.2).2.1, .inl f)) n = some (.int (f n)) := if_pos n1
  generalize (bif Nat.beq (z_il V j) (z_ih V j) then ((0, 0, z_il V j) : z_C) else j) = ic at n7 n8 hr3
  cases hb : (Nat.beq (z_il V j) (z_ih V j) || Nat.beq (g.1 a.2.2).2.2.2.2 2) with
  | false =>
    rw [q_iff _ _ hb] at hr3
    exact z_ldi_s hr3 hv n7 n8 n2 n5 n6 (a4 n n1)
  | true =>
    rw [q_ift _ _ hb] at hr3
    cases hf : z_fg V.2.2.2.1 a.2.1 ic with
    | some c =>
      rw [hf] at hr3
      obtain ⟨v, w1, w2⟩ := z_fact hv.2.2.1 hp.2.2.2.1 v1 he hf n7 n2
      rw [hat] at w1
      cases w1
      exact ⟨V, c, vs, hr3, List.prefix_rfl, hv, rfl, w2⟩
    | none =>
      rw [hf] at hr3
      obtain ⟨W1, c1, vs1, k1, k2, k3, k4, k5⟩ := z_ldi_s hr3 hv n7 n8 n2 n5 n6 (a4 n n1)
      exact ⟨_, c1, vs1, k1, k2, k3.addF (f := (a.2.1, a.2.2, ic, c1)) ⟨q, jj, n, .inl (cA, (g.1 a.2.2).2.1, .inl f), nI n, .int (f n), z_gm k2 v1, he, v3, n7.mono k2 List.prefix_rfl List.prefix_rfl, n8, n2, hat, k5⟩, k4, k5⟩
theorem z_s_iaload (hd : decode (q_b i) pc = .ok (.iaload, ln)) (hk : q_lnk i pc ln (.iaload) x y z) (hgx : z_gx cx) (hN : z_HN l base D sa g J ih d i (pc + ln) tl sp) (hr : z_step g q_code ih d i (q_code i) pc (.iaload) x y z tl V L st sp cx = some os) : z_Ok l base D sa g J d i pc V L st cx os := by
  have e1 : ln = 1 := hk
  subst e1
  match st, hr with
  | [], hr => cases hr
  | [_], hr => cases hr
  | j :: a :: r, hr =>
    have hr : z_ial g.1 V a j (fun k => Nat.beq k 1) (fun w c => ih d i (q_code i) tl w L (c :: r) sp cx) = some os := hr
    intro p e s m args below meth c Q w0 t0 vs0 H locs ls sv ws tys ts vs C hp hv hL hs hx hf
    obtain ⟨vj, sv1, rfl, hvj, hs1⟩ := hs.cons
    obtain ⟨va, sv2, rfl, hva, hs2⟩ := hs1.cons
    obtain ⟨ho, q, jj, n, t, cA, ty, f, rfl, rfl, he, ht, hty, hin, W1, c1, vs1, k1, k2, k3, k4, k5⟩ := z_ial_s hr hp hv hva hvj (fun n h => Or.inl (q_beq.mp h))
    have ho := q_beq.mp ho
    have hty : ty = .int := by rcases hty with h | h | h <;> first | exact h.2 | omega
    subst hty
    have hg := hN W1 L (c1 :: r) cx os hgx k1
    exact va_iald C.1.1 C.1.2.1 hp.2.2.1 hp.2.1 jj t he ht hin hd (z_go hg hgx C hp k3 k2 (hL.mono k2 List.prefix_rfl List.prefix_rfl) (sv := .int (f (nI n).toNatClampNeg) :: sv2) ⟨k5, z_Sr.mono k2 List.prefix_rfl List.prefix_rfl hs2⟩ hx hf k4)
theorem z_s_baload (hd : decode (q_b i) pc = .ok (.baload, ln)) (hk : q_lnk i pc ln (.baload) x y z) (hgx : z_gx cx) (hN : z_HN l base D sa g J ih d i (pc + ln) tl sp) (hr : z_step g q_code ih d i (q_code i) pc (.baload) x y z tl V L st sp cx = some os) : z_Ok l base D sa g J d i pc V L st cx os := by
  have e1 : ln = 1 := hk
  subst e1
  match st, hr with
  | [], hr => cases hr
  | [_], hr => cases hr
  | j :: a :: r, hr =>
    have hr : z_ial g.1 V a j (fun k => Nat.beq k 3 || Nat.beq k 5) (fun w c => ih d i (q_code i) tl w L (c :: r) sp cx) = some os := hr
    intro p e s m args below meth c Q w0 t0 vs0 H locs ls sv ws tys ts vs C hp hv hL hs hx hf
    obtain ⟨vj, sv1, rfl, hvj, hs1⟩ := hs.cons
    obtain ⟨va, sv2, rfl, hva, hs2⟩ := hs1.cons
    obtain ⟨ho, q, jj, n, t, cA, ty, f, rfl, rfl, he, ht, hty, hin, W1, c1, vs1, k1, k2, k3, k4, k5⟩ := z_ial_s hr hp hv hva hvj (fun n h => Or.inr ((q_ors h).imp (fun h => q_beq.mp h) (fun h => q_beq.mp h)))
    have hg := hN W1 L (c1 :: r) cx os hgx k1
    rcases hty with ⟨h1, -⟩ | ⟨-, rfl⟩ | ⟨-, rfl⟩
    · rcases q_ors ho with h | h <;> have := q_beq.mp h <;> omega
    · exact va_bald C.1.1 C.1.2.1 hp.2.2.1 hp.2.1 jj t he ht hin hd (z_go hg hgx C hp k3 k2 (hL.mono k2 List.prefix_rfl List.prefix_rfl) (sv := .int (f (nI n).toNatClampNeg) :: sv2) ⟨k5, z_Sr.mono k2 List.prefix_rfl List.prefix_rfl hs2⟩ hx hf k4)
    · exact va_zald C.1.1 C.1.2.1 hp.2.2.1 hp.2.1 jj t he ht hin hd (z_go hg hgx C hp k3 k2 (hL.mono k2 List.prefix_rfl List.prefix_rfl) (sv := .int (f (nI n).toNatClampNeg) :: sv2) ⟨k5, z_Sr.mono k2 List.prefix_rfl List.prefix_rfl hs2⟩ hx hf k4)
theorem z_s_laload (hd : decode (q_b i) pc = .ok (.laload, ln)) (hk : z_lnk i pc ln (.laload) x y z) (hgx : z_gx cx) (hN : z_HN l base D sa g J ih d i (pc + ln) tl sp) (hr : z_step g q_code ih d i (q_code i) pc (.laload) x y z tl V L st sp cx = some os) : z_Ok l base D sa g J d i pc V L st cx os := by
  have e1 : ln = 1 := hk
  subst e1
  match st, hr with
  | [], hr => cases hr
  | [_], hr => cases hr
  | j :: a :: r, hr =>
    have hr : z_ix g.1 V a j (fun T _ _ _ => bif Nat.beq T.1 7 then z_ld V (3, 0, 0) (fun w c => ih d i (q_code i) tl w L (c :: r) sp cx) else none) = some os := hr
    intro p e s m args below meth c Q w0 t0 vs0 H locs ls sv ws tys ts vs C hp hv hL hs hx hf
    obtain ⟨vj, sv1, rfl, hvj, hs1⟩ := hs.cons
    obtain ⟨va, sv2, rfl, hva, hs2⟩ := hs1.cons
    obtain ⟨g1, g2, g3, g4, g5, g6, hr2⟩ := z_ix_inv hr
    obtain ⟨q, jj, rfl, v1, v2, v3⟩ := hva.nonnull hv.2.1 g1
    obtain ⟨en, he, hc⟩ := hp.1.cell v2 v3
    obtain ⟨n, rfl, n1, n2, n3, n4, n5, n6, n7, n8⟩ := z_idx hv.2.1 hvj g2 g3 g4 g5
    obtain ⟨ho, hr3⟩ := q_bifs hr2
    have ho := q_beq.mp ho
    obtain ⟨cA, t, f, rfl, ht⟩ := hc.longs ho
    obtain ⟨W1, c1, vs1, k1, k2, k3, k4, k5⟩ := (z_lngs (sa := sa) (ad := q_ad ws) (ts := ts) hr3 hv.2.1 (f (nI n).toNatClampNeg)).rs hv
    have hg := hN W1 L (c1 :: r) cx os hgx k1
    exact va_lald C.1.1 C.1.2.1 hp.2.2.1 hp.2.1 jj t he ht n4 hd (z_go hg hgx C hp k3 k2 (hL.mono k2 List.prefix_rfl List.prefix_rfl) (sv := .long (f (nI n).toNatClampNeg) :: sv2) ⟨k5, z_Sr.mono k2 List.prefix_rfl List.prefix_rfl hs2⟩ hx hf k4)
theorem z_s_aaload (hd : decode (q_b i) pc = .ok (.aaload, ln)) (hk : q_lnk i pc ln (.aaload) x y z) (hgx : z_gx cx) (hN : z_HN l base D sa g J ih d i (pc + ln) tl sp) (hr : z_step g q_code ih d i (q_code i) pc (.aaload) x y z tl V L st sp cx = some os) : z_Ok l base D sa g J d i pc V L st cx os := by
  have e1 : ln = 1 := hk
  subst e1
  match st, hr with
  | [], hr => cases hr
  | [_], hr => cases hr
  | j :: a :: r, hr =>
    have hr : z_ix g.1 V a j (fun T _ _ _ => bif Nat.beq T.1 9 then z_ld V (2, z_tS, 0) (fun w c => ih d i (q_code i) tl w L (c :: r) sp cx) else none) = some os := hr
    intro p e s m args below meth c Q w0 t0 vs0 H locs ls sv ws tys ts vs C hp hv hL hs hx hf
    obtain ⟨vj, sv1, rfl, hvj, hs1⟩ := hs.cons
    obtain ⟨va, sv2, rfl, hva, hs2⟩ := hs1.cons
    obtain ⟨g1, g2, g3, g4, g5, g6, hr2⟩ := z_ix_inv hr
    obtain ⟨q, jj, rfl, v1, v2, v3⟩ := hva.nonnull hv.2.1 g1
    obtain ⟨en, he, hc⟩ := hp.1.cell v2 v3
    obtain ⟨n, rfl, n1, n2, n3, n4, n5, n6, n7, n8⟩ := z_idx hv.2.1 hvj g2 g3 g4 g5
    obtain ⟨ho, hr3⟩ := q_bifs hr2
    have ho := q_beq.mp ho
    obtain ⟨cA, t, f, rfl, ht, hq⟩ := hc.refs ho
    have htv : z_tv (q_ad ws) ts (2, z_tS, 0) (va_rf (f (nI n).toNatClampNeg)) := by
      rw [n3]
      cases hf9 : f n with
      | none => exact Or.inr (Or.inr (Or.inl ⟨rfl, Or.inl rfl⟩))
      | some b => exact Or.inr (Or.inr (Or.inl ⟨rfl, Or.inr (hq n b n1 hf9)⟩))
    obtain ⟨W1, c1, vs1, k1, k2, k3, k4, k5⟩ := (z_ld_s (sa := sa) hr3 hv.2.1 htv).rs hv
    have hg := hN W1 L (c1 :: r) cx os hgx k1
    exact va_aldq C.1.1 C.1.2.1 hp.2.2.1 hp.2.1 jj t he ht n4 hd (z_go hg hgx C hp k3 k2 (hL.mono k2 List.prefix_rfl List.prefix_rfl) (sv := va_rf (f (nI n).toNatClampNeg) :: sv2) ⟨k5, z_Sr.mono k2 List.prefix_rfl List.prefix_rfl hs2⟩ hx hf k4)
theorem z_s_alen (hd : decode (q_b i) pc = .ok (.arraylength, ln)) (hk : q_lnk i pc ln (.arraylength) x y z) (hgx : z_gx cx) (hN : z_HN l base D sa g J ih d i (pc + ln) tl sp) (hr : z_step g q_code ih d i (q_code i) pc (.arraylength) x y z tl V L st sp cx = some os) : z_Ok l base D sa g J d i pc V L st cx os := by
  have e1 : ln = 1 := hk
  subst e1
  match st, hr with
  | [], hr => cases hr
  | a :: r, hr =>
    have hr : (bif z_nn V a && (not (Nat.beq (g.1 a.2.2).1 0) && Nat.ble (g.1 a.2.2).2.1 100000) then ih d i (q_code i) tl V L ((0, 0, Nat.add 2147483648 (g.1 a.2.2).2.1) :: r) sp cx else none) = some os := hr
    obtain ⟨h1, hr⟩ := q_bifs hr
    obtain ⟨h1, h2⟩ := q_ands h1
    obtain ⟨h2, h3⟩ := q_ands h2
    have h3 := q_ble.mp h3
    have hg := hN V L _ cx os hgx hr
    intro p e s m args below meth c Q w0 t0 vs0 H locs ls sv ws tys ts vs C hp hv hL hs hx hf
    obtain ⟨va, sv1, rfl, hva, hs1⟩ := hs.cons
    obtain ⟨q, jj, rfl, v1, v2, v3⟩ := hva.nonnull hv.2.1 h1
    obtain ⟨en, he, hc⟩ := hp.1.cell v2 v3
    have hcode : z_v sa (q_ad ws) ts vs (0, 0, Nat.add 2147483648 (g.1 a.2.2).2.1) (.int (Int32.ofNat (g.1 a.2.2).2.1)) := by
      have e9 : q_qb (nI (g.1 a.2.2).2.1) = Nat.add 2147483648 (g.1 a.2.2).2.1 := by rw [Nat.add_eq]; exact z_qnI (by omega)
      rw [← e9]
      exact z_v.mkcon hv.2.1
    rcases hc with ⟨h0, _⟩ | ⟨_, cA, t, f, rfl, ht, _⟩ | ⟨_, cA, t, f, rfl, ht, _⟩ | ⟨_, cA, t, f, rfl, ht, _⟩ | ⟨_, cA, t, f, rfl, ht⟩ | ⟨_, cA, t, f, rfl, ht, _⟩
    · rw [q_beq.mpr h0] at h2
      cases h2
    all_goals exact va_alen C.1.1 C.1.2.1 hp.2.2.1 hp.2.1 jj t he ht rfl hd (z_go hg hgx C hp hv List.prefix_rfl hL (sv := .int (Int32.ofNat (g.1 a.2.2).2.1) :: sv1) ⟨hcode, hs1⟩ hx hf rfl)
theorem z_kc_v {ad ts : List Nat} {vs : List Value} (hE : z_E V vs) {k : Nat} (hk : k < 2147483648) : z_v sa ad ts vs (z_kc k) (.int (nI k)) ∧ q_qb (nI k) = 2147483648 + k := by
  have e9 := z_qnI hk
  refine ⟨?_, e9⟩
  have e8 : z_kc k = (0, 0, q_qb (nI k)) := by
    unfold z_kc
    rw [Nat.add_eq, e9]
  rw [e8]
  exact z_v.mkcon hE
theorem z_s_get {n : Nat} (hcl : q_clok) (hd : decode (q_b i) pc = .ok (.getfield n, ln)) (hk : q_lnk i pc ln (.getfield n) x y z) (hgx : z_gx cx) (hN : z_HN l base D sa g J ih d i (pc + ln) tl sp) (hr : z_step g q_code ih d i (q_code i) pc (.getfield n) x y z tl V L st sp cx = some os) : z_Ok l base D sa g J d i pc V L st cx os := by
  obtain ⟨e1, rc, hrc, hy, hlk⟩ := hk
  subst e1
  match st, hr with
  | [], hr => cases hr
  | a :: r, hr =>
    have hr : (bif z_nn V a && (Nat.beq (g.1 a.2.2).1 0 && Nat.beq (g.1 a.2.2).2.1 x) then (match z_fg V.2.2.2.1 a.2.1 (z_kc y) with
      | some c => ih d i (q_code i) tl V L (c :: r) sp cx
      | none => z_ld V (z_nth (g.1 a.2.2).2.2.1 y) (fun w c => ih d i (q_code i) tl (z_addF w (a.2.1, a.2.2, z_kc y, c)) L (c :: r) sp cx)) else none) = some os := hr
    obtain ⟨h1, hr2⟩ := q_bifs hr
    clear hr
    obtain ⟨h1, h2⟩ := q_ands h1
    obtain ⟨h2, h3⟩ := q_ands h2
    have h2 := q_beq.mp h2
    have h3 := q_beq.mp h3
    intro p e s m args below meth c Q w0 t0 vs0 H locs ls sv ws tys ts vs C hp hv hL hs hx hf
    obtain ⟨va, sv1, rfl, hva, hs1⟩ := hs.cons
    obtain ⟨q, jj, rfl, v1, v2, v3⟩ := hva.nonnull hv.2.1 h1
    obtain ⟨en, he, hc⟩ := hp.1.cell v2 v3
    obtain ⟨fs, rfl, f1, f2⟩ := hc.obj h2
    rw [h3] at he
    have hsmall : y < 2147483648 := by
      have := q_small x rc hrc
      omega
    obtain ⟨u1, u2⟩ := z_kc_v (sa := sa) (ad := q_ad ws) (ts := ts) hv.2.1 hsmall
    have hgo : ∀ (v : Value), fs[y]? = some v → W p l e (q_rm d.1 (9 * d.2) (446 * d.2)) s m args below meth c H locs (9 * V.2.2.2.2.2) (446 * V.2.2.2.2.2) Q (F0 m (pc + 3) ls (v :: sv1)) → W p l e (q_rm d.1 (9 * d.2) (446 * d.2)) s m args below meth c H locs (9 * V.2.2.2.2.2) (446 * V.2.2.2.2.2) Q (F0 m pc ls (.ref q :: sv1)) := fun v hv9 hw => va_get (D := D) (ci := x) (C := rc.1) (T := rc.2.1) (N := rc.2.2) C.1.1 C.1.2.1 C.1.2.2.2.2.2.1 (hcl x rc hrc).1 C.1.2.2.2.2.1 hp.2.2.1 hp.2.1 jj he hrc y hy (C.1.2.2.2.2.2.1 _ hlk) (fun _ h9 => h9) hv9 hd hw
    cases hf9 : z_fg V.2.2.2.1 a.2.1 (z_kc y) with
    | some c1 =>
      rw [hf9] at hr2
      obtain ⟨v, w1, w2⟩ := z_fact hv.2.2.1 hp.2.2.2.1 v1 he hf9 u1 u2
      exact hgo v w1 (z_go (hN V L (c1 :: r) cx os hgx hr2) hgx C hp hv List.prefix_rfl hL (sv := v :: sv1) ⟨w2, hs1⟩ hx hf rfl)
    | none =>
      rw [hf9] at hr2
      have hlen : y < fs.length := by
        rw [f1]
        rcases Nat.lt_or_ge y (g.1 a.2.2).2.2.1.length with h | h
        · exact h
        · have e9 : z_nth (g.1 a.2.2).2.2.1 y = (9, 0, 0) := by
            show q_nth _ _ _ = _
            rw [q_nth_eq, List.getD_eq_getElem?_getD, List.getElem?_eq_none h]
            rfl
          rw [e9] at hr2
          cases hr2
      have hfy : fs[y]? = some fs[y] := List.getElem?_eq_getElem hlen
      obtain ⟨W1, c1, vs1, k1, k2, k3, k4, k5⟩ := (z_ld_s (sa := sa) hr2 hv.2.1 (f2 y _ hfy)).rs hv
      exact hgo _ hfy (z_go (hN _ L (c1 :: r) cx os hgx k1) hgx C hp (k3.addF ⟨q, jj, y, _, nI y, _, z_gm k2 v1, he, v3, u1.mono k2 List.prefix_rfl List.prefix_rfl, rfl, u2, hfy, k5⟩) k2 (hL.mono k2 List.prefix_rfl List.prefix_rfl) (sv := fs[y] :: sv1) ⟨k5, z_Sr.mono k2 List.prefix_rfl List.prefix_rfl hs1⟩ hx hf k4)
end ZI

/-! ===== what a code says of a value, a packed cell of a cell, a tree of the world ===== -/
def q_rgs (env : Nat → Int32) (rg : Nat → Nat × Nat) : Prop := ∀ i, i < 13 → (rg i).1 ≤ q_qb (env i) ∧ q_qb (env i) ≤ (rg i).2
def q_v (env : Nat → Int32) (ad : List Nat) (c : Nat) (v : Value) : Prop :=
  (c ≤ 4294967295 ∧ v = .int (nI c)) ∨ ((c = 4294967296 ∨ c = 4294967310 ∨ c = 4294967311) ∧ ∃ x, v = .int x ∧ (c = 4294967310 → 2147483649 ≤ q_qb x) ∧ (c = 4294967311 → q_qb x ≤ 2147483647)) ∨ (4294967297 ≤ c ∧ c ≤ 4294967309 ∧ v = .int (env (c - 4294967297))) ∨ (c = 4294967312 ∧ v = .null) ∨ (c = 4294967314 ∧ ∃ x, v = .long x) ∨ (4294967328 ≤ c ∧ c < 4294967456 ∧ ∃ a, ad[c - 4294967328]? = some a ∧ v = .ref a)
theorem q_ble {a b : Nat} : Nat.ble a b = true ↔ a ≤ b := ⟨Nat.le_of_ble_eq_true, Nat.ble_eq_true_of_le⟩
theorem q_blt {a b : Nat} : Nat.blt a b = true ↔ a < b := by unfold Nat.blt; rw [q_ble]; omega
theorem q_beq {a b : Nat} : Nat.beq a b = true ↔ a = b := ⟨Nat.eq_of_beq_eq_true, fun h => by rw [h]; exact Nat.beq_refl b⟩
theorem q_bnle {a b : Nat} : Nat.ble a b = false ↔ b < a := by
  cases h : Nat.ble a b with
  | true => have := q_ble.mp h; simp; omega
  | false => simp; rcases Nat.lt_or_ge b a with g | g; exact g; rw [q_ble.mpr g] at h; cases h
theorem q_bneq {a b : Nat} : Nat.beq a b = false ↔ ¬ a = b := by
  cases h : Nat.beq a b with
  | true => have := q_beq.mp h; simp [this]
  | false => simp; intro g; rw [q_beq.mpr g] at h; cases h
theorem q_in_iff {c : Nat} : q_in c = true ↔ c ≤ 4294967311 := q_ble
theorem q_ex_iff {c : Nat} : q_ex c = true ↔ c ≤ 4294967295 := q_ble
theorem q_v.lt {env : Nat → Int32} {ad : List Nat} {c : Nat} {v : Value} (h : q_v env ad c v) : c + 1 < 2 ^ 34 := by
  rcases h with h | h | h | h | h | h <;> omega
theorem q_v.mono {env : Nat → Int32} {ad ad' : List Nat} {c : Nat} {v : Value} (h : q_v env ad c v) (hp : ad <+: ad') : q_v env ad' c v := by
  rcases h with h | h | h | h | h | ⟨h1, h2, a, h3, h4⟩
  · exact Or.inl h
  · exact Or.inr (Or.inl h)
  · exact Or.inr (Or.inr (Or.inl h))
  · exact Or.inr (Or.inr (Or.inr (Or.inl h)))
  · exact Or.inr (Or.inr (Or.inr (Or.inr (Or.inl h))))
  · refine Or.inr (Or.inr (Or.inr (Or.inr (Or.inr ⟨h1, h2, a, ?_, h4⟩))))
    obtain ⟨t, rfl⟩ := hp
    rw [List.getElem?_append_left (List.getElem?_eq_some_iff.mp h3).1]
    exact h3
theorem q_ift {α : Type} {b : Bool} (x y : α) (h : b = true) : (bif b then x else y) = x := by cases b with
  | true => rfl
  | false => cases h
theorem q_iff {α : Type} {b : Bool} (x y : α) (h : b = false) : (bif b then x else y) = y := by cases b with
  | true => cases h
  | false => rfl
theorem q_lo_ex (rg : Nat → Nat × Nat) {c : Nat} (h : q_ex c = true) : q_lo rg c = q_bi c := q_ift _ _ h
theorem q_hi_ex (rg : Nat → Nat × Nat) {c : Nat} (h : q_ex c = true) : q_hi rg c = q_bi c := q_ift _ _ h
theorem q_lo_top (rg : Nat → Nat × Nat) {c : Nat} (h : q_ex c = false) (h2 : Nat.beq c 4294967296 = true) : q_lo rg c = 0 := (q_iff _ _ h).trans (q_ift _ _ h2)
theorem q_hi_top (rg : Nat → Nat × Nat) {c : Nat} (h : q_ex c = false) (h2 : Nat.beq c 4294967296 = true) : q_hi rg c = 4294967295 := (q_iff _ _ h).trans (q_ift _ _ h2)
theorem q_lo_pos (rg : Nat → Nat × Nat) {c : Nat} (h : q_ex c = false) (h2 : Nat.beq c 4294967296 = false) (h3 : Nat.beq c 4294967310 = true) : q_lo rg c = 2147483649 := (q_iff _ _ h).trans ((q_iff _ _ h2).trans (q_ift _ _ h3))
theorem q_hi_pos (rg : Nat → Nat × Nat) {c : Nat} (h : q_ex c = false) (h2 : Nat.beq c 4294967296 = false) (h3 : Nat.beq c 4294967310 = true) : q_hi rg c = 4294967295 := (q_iff _ _ h).trans ((q_iff _ _ h2).trans (q_ift _ _ h3))
theorem q_lo_neg (rg : Nat → Nat × Nat) {c : Nat} (h : q_ex c = false) (h2 : Nat.beq c 4294967296 = false) (h3 : Nat.beq c 4294967310 = false) (h4 : Nat.beq c 4294967311 = true) : q_lo rg c = 0 := (q_iff _ _ h).trans ((q_iff _ _ h2).trans ((q_iff _ _ h3).trans (q_ift _ _ h4)))
theorem q_hi_neg (rg : Nat → Nat × Nat) {c : Nat} (h : q_ex c = false) (h2 : Nat.beq c 4294967296 = false) (h3 : Nat.beq c 4294967310 = false) (h4 : Nat.beq c 4294967311 = true) : q_hi rg c = 2147483647 := (q_iff _ _ h).trans ((q_iff _ _ h2).trans ((q_iff _ _ h3).trans (q_ift _ _ h4)))
theorem q_lo_sym (rg : Nat → Nat × Nat) {c : Nat} (h : q_ex c = false) (h2 : Nat.beq c 4294967296 = false) (h3 : Nat.beq c 4294967310 = false) (h4 : Nat.beq c 4294967311 = false) : q_lo rg c = (rg (c - 4294967297)).1 := (q_iff _ _ h).trans ((q_iff _ _ h2).trans ((q_iff _ _ h3).trans (q_iff _ _ h4)))
theorem q_hi_sym (rg : Nat → Nat × Nat) {c : Nat} (h : q_ex c = false) (h2 : Nat.beq c 4294967296 = false) (h3 : Nat.beq c 4294967310 = false) (h4 : Nat.beq c 4294967311 = false) : q_hi rg c = (rg (c - 4294967297)).2 := (q_iff _ _ h).trans ((q_iff _ _ h2).trans ((q_iff _ _ h3).trans (q_iff _ _ h4)))
/-- an int: which one, where it is told; within which bounds -/
theorem q_v.int {env : Nat → Int32} {rg : Nat → Nat × Nat} (hrg : q_rgs env rg) {ad : List Nat} {c : Nat} {v : Value} (h : q_v env ad c v) (hc : c ≤ 4294967311) : ∃ x, v = .int x ∧ (c ≤ 4294967295 → x = nI c) ∧ q_lo rg c ≤ q_qb x ∧ q_qb x ≤ q_hi rg c := by
  rcases h with ⟨h1, h2⟩ | ⟨h1, x, h2, h5, h6⟩ | ⟨h1, h2, h3⟩ | ⟨h1, h2⟩ | ⟨h1, h2⟩ | ⟨h1, h2⟩
  · refine ⟨_, h2, fun _ => rfl, ?_⟩
    have e : q_ex c = true := q_ex_iff.mpr h1
    rw [q_lo_ex rg e, q_hi_ex rg e, q_qb_nI h1]
    exact ⟨Nat.le_refl (q_bi c), Nat.le_refl (q_bi c)⟩
  · have e : q_ex c = false := q_bnle.mpr (by omega)
    refine ⟨x, h2, fun h => by omega, ?_⟩
    rcases h1 with h1 | h1 | h1
    · have e2 : Nat.beq c 4294967296 = true := q_beq.mpr h1
      rw [q_lo_top rg e e2, q_hi_top rg e e2]
      exact ⟨Nat.zero_le (q_qb x), q_qb_hi x⟩
    · have e2 : Nat.beq c 4294967296 = false := q_bneq.mpr (by omega)
      have e3 : Nat.beq c 4294967310 = true := q_beq.mpr h1
      rw [q_lo_pos rg e e2 e3, q_hi_pos rg e e2 e3]
      exact ⟨h5 h1, q_qb_hi x⟩
    · have e2 : Nat.beq c 4294967296 = false := q_bneq.mpr (by omega)
      have e3 : Nat.beq c 4294967310 = false := q_bneq.mpr (by omega)
      have e4 : Nat.beq c 4294967311 = true := q_beq.mpr h1
      rw [q_lo_neg rg e e2 e3 e4, q_hi_neg rg e e2 e3 e4]
      exact ⟨Nat.zero_le (q_qb x), h6 h1⟩
  · refine ⟨_, h3, fun h => by omega, ?_⟩
    have e : q_ex c = false := q_bnle.mpr (by omega)
    have e2 : Nat.beq c 4294967296 = false := q_bneq.mpr (by omega)
    have e3 : Nat.beq c 4294967310 = false := q_bneq.mpr (by omega)
    have e4 : Nat.beq c 4294967311 = false := q_bneq.mpr (by omega)
    rw [q_lo_sym rg e e2 e3 e4, q_hi_sym rg e e2 e3 e4]
    exact hrg (c - 4294967297) (by omega)
  · omega
  · omega
  · omega
theorem q_v.ref {env : Nat → Int32} {ad : List Nat} {c : Nat} {v : Value} (h : q_v env ad c v) (hc : 4294967328 ≤ c) : ∃ a, ad[c - 4294967328]? = some a ∧ v = .ref a := by
  rcases h with h | h | h | h | h | ⟨h1, h2, h3⟩ <;> first | exact h3 | omega
theorem q_v.nul {env : Nat → Int32} {ad : List Nat} {v : Value} (h : q_v env ad 4294967312 v) : v = .null := by
  rcases h with h | h | h | ⟨_, h⟩ | h | h <;> first | exact h | omega
theorem q_v.lng {env : Nat → Int32} {ad : List Nat} {v : Value} (h : q_v env ad 4294967314 v) : ∃ x, v = .long x := by
  rcases h with h | h | h | h | ⟨_, h⟩ | h <;> first | exact h | omega
theorem q_v.cat {env : Nat → Int32} {ad : List Nat} {c : Nat} {v : Value} (h : q_v env ad c v) (hc : ¬ c = 4294967314) : v.category = 1 := by
  rcases h with ⟨h1, h2⟩ | ⟨h1, x, h2, _⟩ | ⟨h1, h3, h2⟩ | ⟨h1, h2⟩ | ⟨h1, h2⟩ | ⟨h1, h3, a, h4, h2⟩ <;> first | (subst h2; rfl) | exact absurd h1 hc
theorem q_v.cat2 {env : Nat → Int32} {ad : List Nat} {c : Nat} {v : Value} (_ : q_v env ad c v) : v.category ≤ 2 := by
  rcases lv_cat v with h | h <;> omega
theorem q_v.ex {env : Nat → Int32} (ad : List Nat) {c : Nat} (hc : c ≤ 4294967295) : q_v env ad c (.int (nI c)) := Or.inl ⟨hc, rfl⟩
theorem q_v.top {env : Nat → Int32} (ad : List Nat) (x : Int32) : q_v env ad 4294967296 (.int x) := Or.inr (Or.inl ⟨Or.inl rfl, x, rfl, fun h => absurd h (by decide), fun h => absurd h (by decide)⟩)
theorem q_v.mkref {env : Nat → Int32} {ad : List Nat} {k a : Nat} (h : ad[k]? = some a) (hk : k < 128) : q_v env ad (4294967328 + k) (.ref a) := Or.inr (Or.inr (Or.inr (Or.inr (Or.inr ⟨by omega, by omega, a, by rw [Nat.add_sub_cancel_left]; exact h, rfl⟩))))
/-- the sort of an array's cell: what its numbers say of its elements -/
def q_ca (env : Nat → Int32) (tys : List (ClassId × FieldType)) (ty : FieldType) (ln N : Nat) (e : va_E) : Prop := ∃ (cA : ClassId) (t : Nat) (f : Nat → Int32), e = .inl (cA, ln, .inl f) ∧ tys[t]? = some (cA, ty) ∧ ln ≤ 100000 ∧ ∀ j, j < ln → q_get N j ≤ 4294967311 ∧ q_v env [] (q_get N j) (.int (f j))
def q_cl (tys : List (ClassId × FieldType)) (ln : Nat) (e : va_E) : Prop := ∃ (cA : ClassId) (t : Nat) (f : Nat → Int64), e = .inl (cA, ln, .inr (.inl f)) ∧ tys[t]? = some (cA, .long) ∧ ln ≤ 100000
def q_cq (ad : List Nat) (tys : List (ClassId × FieldType)) (ln N : Nat) (e : va_E) : Prop := ∃ (cA : ClassId) (t : Nat) (f : Nat → Option Nat), e = .inl (cA, ln, .inr (.inr (.inr (.inr f)))) ∧ tys[t]? = some (cA, .object "SandNights$Sand") ∧ ln ≤ 100000 ∧ ∀ j, j < ln → (q_get N j = 0 ∧ f j = none) ∨ (4294967328 ≤ q_get N j ∧ q_get N j < 4294967456 ∧ ∃ a, ad[q_get N j - 4294967328]? = some a ∧ f j = some a)
def q_co (env : Nat → Int32) (ad : List Nat) (kd ln N : Nat) (e : va_E) : Prop := ∃ (ci : Nat) (fs : List Value), kd = 2 * ci ∧ e = .inr (ci, fs) ∧ fs.length = ln ∧ ∀ (j : Nat) (v : Value), fs[j]? = some v → (q_get N j = 4294967313 ∧ ∃ x, v = .long x) ∨ q_v env ad (q_get N j) v
def q_c (env : Nat → Int32) (ad : List Nat) (tys : List (ClassId × FieldType)) (c : q_C) (e : va_E) : Prop :=
  q_co env ad c.1 c.2.1 c.2.2 e ∨ (c.1 = 1 ∧ q_ca env tys .int c.2.1 c.2.2 e) ∨ (c.1 = 3 ∧ q_ca env tys .byte c.2.1 c.2.2 e) ∨ (c.1 = 5 ∧ q_ca env tys .boolean c.2.1 c.2.2 e) ∨ (c.1 = 7 ∧ q_cl tys c.2.1 e) ∨ (c.1 = 9 ∧ q_cq ad tys c.2.1 c.2.2 e)
theorem q_at_mono {ad ad' : List Nat} (hp : ad <+: ad') {k a : Nat} (h : ad[k]? = some a) : ad'[k]? = some a := by
  obtain ⟨t, rfl⟩ := hp
  rw [List.getElem?_append_left (List.getElem?_eq_some_iff.mp h).1]
  exact h
theorem q_c.mono {env : Nat → Int32} {ad ad' : List Nat} {tys tys' : List (ClassId × FieldType)} {c : q_C} {e : va_E} (h : q_c env ad tys c e) (hp : ad <+: ad') (ht : tys <+: tys') : q_c env ad' tys' c e := by
  have tm : ∀ {t : Nat} {z : ClassId × FieldType}, tys[t]? = some z → tys'[t]? = some z := by
    intro t z h
    obtain ⟨u, rfl⟩ := ht
    rw [List.getElem?_append_left (List.getElem?_eq_some_iff.mp h).1]
    exact h
  rcases h with ⟨ci, fs, h1, h2, h3, h4⟩ | ⟨h0, cA, t, f, h1, h2, h3⟩ | ⟨h0, cA, t, f, h1, h2, h3⟩ | ⟨h0, cA, t, f, h1, h2, h3⟩ | ⟨h0, cA, t, f, h1, h2, h3⟩ | ⟨h0, cA, t, f, h1, h2, h5, h3⟩
  · refine Or.inl ⟨ci, fs, h1, h2, h3, fun j v hv => ?_⟩
    rcases h4 j v hv with g | g
    · exact Or.inl g
    · exact Or.inr (g.mono hp)
  · exact Or.inr (Or.inl ⟨h0, cA, t, f, h1, tm h2, h3⟩)
  · exact Or.inr (Or.inr (Or.inl ⟨h0, cA, t, f, h1, tm h2, h3⟩))
  · exact Or.inr (Or.inr (Or.inr (Or.inl ⟨h0, cA, t, f, h1, tm h2, h3⟩)))
  · exact Or.inr (Or.inr (Or.inr (Or.inr (Or.inl ⟨h0, cA, t, f, h1, tm h2, h3⟩))))
  · refine Or.inr (Or.inr (Or.inr (Or.inr (Or.inr ⟨h0, cA, t, f, h1, tm h2, h5, fun j hj => ?_⟩))))
    rcases h3 j hj with g | ⟨g1, g2, a, g3, g4⟩
    · exact Or.inl g
    · exact Or.inr ⟨g1, g2, a, q_at_mono hp g3, g4⟩
abbrev q_ad (ws : va_W) : List Nat := ws.map (fun q => q.1)
def q_W (env : Nat → Int32) (h : q_H) (ws : va_W) (tys : List (ClassId × FieldType)) : Prop := ws.length = h.1 ∧ h.1 ≤ 128 ∧ ∀ k, k < h.1 → ∃ (a : Nat) (e : va_E), ws[k]? = some (a, e) ∧ q_c env (q_ad ws) tys (q_tg 7 h.2 k) e
theorem q_ad_set (ws : va_W) (k a : Nat) (e e' : va_E) (h : ws[k]? = some (a, e)) : q_ad (ws.set k (a, e')) = q_ad ws := by
  unfold q_ad
  rw [List.map_set]
  apply List.ext_getElem?
  intro j
  rw [List.getElem?_set]
  split
  · rename_i e1
    subst e1
    have hl := (List.getElem?_eq_some_iff.mp h).1
    rw [if_pos (by rw [List.length_map]; exact hl), List.getElem?_map, h]
    rfl
  · rfl
/-- a cell is written: the rest stays -/
theorem q_W.set {env : Nat → Int32} {h : q_H} {ws : va_W} {tys : List (ClassId × FieldType)} (hw : q_W env h ws tys) {k a : Nat} {e e' : va_E} (he : ws[k]? = some (a, e)) {kd ln N : Nat} (hc : q_c env (q_ad ws) tys (kd, ln, N) e') : q_W env (q_up h k kd ln N) (ws.set k (a, e')) tys := by
  obtain ⟨h1, h2, h3⟩ := hw
  have hk : k < h.1 := by rw [← h1]; exact (List.getElem?_eq_some_iff.mp he).1
  refine ⟨by rw [List.length_set]; exact h1, h2, fun j hj => ?_⟩
  have hj : j < h.1 := hj
  have eT : q_tg 7 (q_ts 7 h.2 k (kd, ln, N)) j = if j = k then (kd, ln, N) else q_tg 7 h.2 j := q_tg_ts 7 h.2 k j (kd, ln, N) (by show k < 128; omega) (by show j < 128; omega)
  show ∃ (a2 : Nat) (e2 : va_E), (ws.set k (a, e'))[j]? = some (a2, e2) ∧ q_c env (q_ad (ws.set k (a, e'))) tys (q_tg 7 (q_ts 7 h.2 k (kd, ln, N)) j) e2
  rw [eT, q_ad_set ws k a e e' he]
  by_cases e1 : j = k
  · subst e1
    rw [if_pos rfl]
    exact ⟨a, e', by rw [List.getElem?_set_self (by rw [h1]; exact hk)], hc⟩
  · rw [if_neg e1, List.getElem?_set_ne (fun z => e1 z.symm)]
    exact h3 j hj
theorem q_ad_app (ws : va_W) (a : Nat) (e : va_E) : q_ad (ws ++ [(a, e)]) = q_ad ws ++ [a] := by simp [q_ad]
/-- a cell is made -/
theorem q_W.push {env : Nat → Int32} {h : q_H} {ws : va_W} {tys tys' : List (ClassId × FieldType)} (hw : q_W env h ws tys) (ht : tys <+: tys') (hlt : h.1 < 128) {a : Nat} {e : va_E} {kd ln N : Nat} (hc : q_c env (q_ad (ws ++ [(a, e)])) tys' (kd, ln, N) e) : q_W env (h.1 + 1, q_ts 7 h.2 h.1 (kd, ln, N)) (ws ++ [(a, e)]) tys' := by
  obtain ⟨h1, h2, h3⟩ := hw
  refine ⟨by simp [h1], hlt, fun j hj => ?_⟩
  have hj : j < h.1 + 1 := hj
  have eT : q_tg 7 (q_ts 7 h.2 h.1 (kd, ln, N)) j = if j = h.1 then (kd, ln, N) else q_tg 7 h.2 j := q_tg_ts 7 h.2 h.1 j (kd, ln, N) (by show h.1 < 128; omega) (by show j < 128; omega)
  show ∃ (a2 : Nat) (e2 : va_E), (ws ++ [(a, e)])[j]? = some (a2, e2) ∧ q_c env (q_ad (ws ++ [(a, e)])) tys' (q_tg 7 (q_ts 7 h.2 h.1 (kd, ln, N)) j) e2
  rw [eT]
  by_cases e1 : j = h.1
  · subst e1
    rw [if_pos rfl]
    exact ⟨a, e, by rw [← h1, List.getElem?_append_right (Nat.le_refl _), Nat.sub_self]; rfl, hc⟩
  · rw [if_neg e1]
    obtain ⟨a2, e2, g1, g2⟩ := h3 j (by omega)
    exact ⟨a2, e2, by rw [List.getElem?_append_left (by omega)]; exact g1, g2.mono (by rw [q_ad_app]; exact List.prefix_append _ _) ht⟩
theorem q_ss_up (h : q_H) (k kd ln N : Nat) (hk : k < h.1) (hh : h.1 ≤ 128) (hl : (q_tg 7 h.2 k).2.1 = ln) : q_ss (q_up h k kd ln N) = q_ss h := by
  refine q_s1_cong (fun j hj => ?_)
  have hj : j < h.1 := hj
  have eT : q_tg 7 (q_ts 7 h.2 k (kd, ln, N)) j = if j = k then (kd, ln, N) else q_tg 7 h.2 j := q_tg_ts 7 h.2 k j (kd, ln, N) (by show k < 128; omega) (by show j < 128; omega)
  show (q_tg 7 (q_ts 7 h.2 k (kd, ln, N)) j).2.1 = _
  rw [eT]
  by_cases e : j = k
  · subst e; rw [if_pos rfl]; exact hl.symm
  · rw [if_neg e]
theorem q_ss_nw (h : q_H) (kd ln N : Nat) (hh : h.1 < 128) : q_ss (h.1 + 1, q_ts 7 h.2 h.1 (kd, ln, N)) = q_ss h + ln := by
  have e1 : q_s1 (q_ts 7 h.2 h.1 (kd, ln, N)) h.1 = q_s1 h.2 h.1 := q_s1_cong (fun j hj => by
    rw [q_tg_ts 7 h.2 h.1 j (kd, ln, N) (by show h.1 < 128; omega) (by show j < 128; omega), if_neg (by omega)])
  show q_s1 (q_ts 7 h.2 h.1 (kd, ln, N)) h.1 + (q_tg 7 (q_ts 7 h.2 h.1 (kd, ln, N)) h.1).2.1 = _
  rw [e1, q_tg_ts 7 h.2 h.1 h.1 (kd, ln, N) (by show h.1 < 128; omega) (by show h.1 < 128; omega), if_pos rfl]
  rfl
/-- the locals -/
def q_L (env : Nat → Int32) (ad : List Nat) (loc nL : Nat) (ls : Array Slot) : Prop := ∃ lv : List (Nat × Value), lv_has ls nL lv ∧ (∀ q ∈ lv, q.2.category = 1) ∧ ∀ i c, q_get loc i = c + 1 → ∃ v, (i, v) ∈ lv ∧ q_v env ad c v
theorem q_L.mono {env : Nat → Int32} {ad ad' : List Nat} {loc nL : Nat} {ls : Array Slot} (h : q_L env ad loc nL ls) (hp : ad <+: ad') : q_L env ad' loc nL ls := by
  obtain ⟨lv, h1, h0, h2⟩ := h
  refine ⟨lv, h1, h0, fun i c hc => ?_⟩
  obtain ⟨v, g1, g2⟩ := h2 i c hc
  exact ⟨v, g1, g2.mono hp⟩
theorem q_L.store {env : Nat → Int32} {ad : List Nat} {loc i c : Nat} {lv : List (Nat × Value)} {v : Value} (h2 : ∀ i c, q_get loc i = c + 1 → ∃ v, (i, v) ∈ lv ∧ q_v env ad c v) (hv : q_v env ad c v) (hcat : ∀ q ∈ lv, q.2.category = 1) : ∀ i2 c2, q_get (q_set loc i (c + 1)) i2 = c2 + 1 → ∃ v2, (i2, v2) ∈ ((i, v) :: lv.filter (fun q => !(q.1 == i) && !(q.1 + 1 == i && q.2.category == 2))) ∧ q_v env ad c2 v2 := by
  intro i2 c2 hc
  rw [q_get_set loc i (c + 1) i2 hv.lt] at hc
  by_cases e : i2 = i
  · subst e
    rw [if_pos rfl] at hc
    have e2 : c = c2 := by omega
    subst e2
    exact ⟨v, List.mem_cons_self, hv⟩
  · rw [if_neg e] at hc
    obtain ⟨v2, g1, g2⟩ := h2 i2 c2 hc
    refine ⟨v2, List.mem_cons_of_mem _ (List.mem_filter.mpr ⟨g1, ?_⟩), g2⟩
    have := hcat _ g1
    simp [e, this]

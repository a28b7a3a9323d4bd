/-! ===== what codes, facts and types say of values, cells, the world ===== -/
theorem z_gm {α : Type} {l l' : List α} (hp : l <+: l') {k : Nat} {a : α} (h : l[k]? = some a) : l'[k]? = some a := by
  obtain ⟨t, rfl⟩ := hp
  rw [List.getElem?_append_left (List.getElem?_eq_some_iff.mp h).1]
  exact h
/-- a ref to a cell of a tag -/
def z_rt (ad ts : List Nat) (t : Nat) (v : Value) : Prop := ∃ (j a : Nat), v = .ref a ∧ ad[j]? = some a ∧ ts[j]? = some t
theorem z_rt.mono {ad ad' ts ts' : List Nat} {t : Nat} {v : Value} (h : z_rt ad ts t v) (hp : ad <+: ad') (hq : ts <+: ts') : z_rt ad' ts' t v := by
  obtain ⟨j, a, h1, h2, h3⟩ := h
  exact ⟨j, a, h1, z_gm hp h2, z_gm hq h3⟩
/-- a value of a type -/
def z_tv (ad ts : List Nat) (t : z_C) (v : Value) : Prop := (t.1 = 0 ∧ ∃ x, v = .int x ∧ t.2.1 ≤ q_qb x ∧ q_qb x ≤ t.2.2) ∨ (t.1 = 1 ∧ z_rt ad ts t.2.1 v) ∨ (t.1 = 2 ∧ (v = .null ∨ z_rt ad ts t.2.1 v)) ∨ (t.1 = 3 ∧ ∃ x, v = .long x)
theorem z_tv.mono {ad ad' ts ts' : List Nat} {t : z_C} {v : Value} (h : z_tv ad ts t v) (hp : ad <+: ad') (hq : ts <+: ts') : z_tv ad' ts' t v := by
  rcases h with h | ⟨h1, h2⟩ | ⟨h1, h2 | h2⟩ | h
  · exact Or.inl h
  · exact Or.inr (Or.inl ⟨h1, h2.mono hp hq⟩)
  · exact Or.inr (Or.inr (Or.inl ⟨h1, Or.inl h2⟩))
  · exact Or.inr (Or.inr (Or.inl ⟨h1, Or.inr (h2.mono hp hq)⟩))
  · exact Or.inr (Or.inr (Or.inr h))
/-- what a code says -/
def z_v (sa : Nat → Nat) (ad ts : List Nat) (vs : List Value) (c : z_C) (v : Value) : Prop :=
  (c.1 = 0 ∧ ∃ x y, vs[c.2.1]? = some (.int x) ∧ v = .int y ∧ q_qb y + 2147483648 = q_qb x + c.2.2)
  ∨ (c.1 = 1 ∧ vs[c.2.1]? = some v ∧ (v = .null ∨ z_rt ad ts c.2.2 v))
  ∨ (c.1 = 2 ∧ ((c.2.2 = 0 ∧ v = .null) ∨ ∃ k x y, c.2.2 = k + 1 ∧ vs[c.2.1]? = some (.long x) ∧ v = .int y ∧ (y = 0 ↔ x = z_lcv k)))
  ∨ (c.1 = 3 ∧ ((c.2.1 = 0 ∧ v = .long (z_lcv c.2.2)) ∨ (¬ c.2.1 = 0 ∧ vs[c.2.1]? = some v ∧ ∃ x, v = .long x)))
  ∨ (c.1 = 4 ∧ v = .ref (sa c.2.2))
section ZV
variable {sa : Nat → Nat} {ad ts ad' ts' : List Nat} {vs vs' : List Value} {c : z_C} {v : Value}
theorem z_v.mono (h : z_v sa ad ts vs c v) (hv : vs <+: vs') (hp : ad <+: ad') (hq : ts <+: ts') : z_v sa ad' ts' vs' c v := by
  rcases h with ⟨h1, x, y, h2, h3⟩ | ⟨h1, h2, h3⟩ | ⟨h1, h2 | ⟨k, x, y, h2, h3, h4⟩⟩ | ⟨h1, h2 | ⟨h2, h3, h4⟩⟩ | h
  · exact Or.inl ⟨h1, x, y, z_gm hv h2, h3⟩
  · refine Or.inr (Or.inl ⟨h1, z_gm hv h2, ?_⟩)
    rcases h3 with h3 | h3
    · exact Or.inl h3
    · exact Or.inr (h3.mono hp hq)
  · exact Or.inr (Or.inr (Or.inl ⟨h1, Or.inl h2⟩))
  · exact Or.inr (Or.inr (Or.inl ⟨h1, Or.inr ⟨k, x, y, h2, z_gm hv h3, h4⟩⟩))
  · exact Or.inr (Or.inr (Or.inr (Or.inl ⟨h1, Or.inl h2⟩)))
  · exact Or.inr (Or.inr (Or.inr (Or.inl ⟨h1, Or.inr ⟨h2, z_gm hv h3, h4⟩⟩)))
  · exact Or.inr (Or.inr (Or.inr (Or.inr h)))
theorem z_v.int (h : z_v sa ad ts vs c v) (hc : c.1 = 0) : ∃ x y, vs[c.2.1]? = some (.int x) ∧ v = .int y ∧ q_qb y + 2147483648 = q_qb x + c.2.2 := by
  rcases h with ⟨_, h⟩ | ⟨h1, _⟩ | ⟨h1, _⟩ | ⟨h1, _⟩ | ⟨h1, _⟩
  · exact h
  all_goals omega
theorem z_v.ref (h : z_v sa ad ts vs c v) (hc : c.1 = 1) : vs[c.2.1]? = some v ∧ (v = .null ∨ z_rt ad ts c.2.2 v) := by
  rcases h with ⟨h1, _⟩ | ⟨_, h⟩ | ⟨h1, _⟩ | ⟨h1, _⟩ | ⟨h1, _⟩
  · omega
  · exact h
  all_goals omega
theorem z_v.two (h : z_v sa ad ts vs c v) (hc : c.1 = 2) : (c.2.2 = 0 ∧ v = .null) ∨ ∃ k x y, c.2.2 = k + 1 ∧ vs[c.2.1]? = some (.long x) ∧ v = .int y ∧ (y = 0 ↔ x = z_lcv k) := by
  rcases h with ⟨h1, _⟩ | ⟨h1, _⟩ | ⟨_, h⟩ | ⟨h1, _⟩ | ⟨h1, _⟩
  · omega
  · omega
  · exact h
  all_goals omega
theorem z_v.lng (h : z_v sa ad ts vs c v) (hc : c.1 = 3) : ∃ x, v = .long x ∧ ((c.2.1 = 0 ∧ x = z_lcv c.2.2) ∨ (¬ c.2.1 = 0 ∧ vs[c.2.1]? = some (.long x))) := by
  rcases h with ⟨h1, _⟩ | ⟨h1, _⟩ | ⟨h1, _⟩ | ⟨_, h⟩ | ⟨h1, _⟩
  · omega
  · omega
  · omega
  · rcases h with ⟨h1, h2⟩ | ⟨h1, h2, x, rfl⟩
    · exact ⟨_, h2, Or.inl ⟨h1, rfl⟩⟩
    · exact ⟨x, rfl, Or.inr ⟨h1, h2⟩⟩
  · omega
theorem z_v.txt (h : z_v sa ad ts vs c v) (hc : c.1 = 4) : v = .ref (sa c.2.2) := by
  rcases h with ⟨h1, _⟩ | ⟨h1, _⟩ | ⟨h1, _⟩ | ⟨h1, _⟩ | ⟨_, h⟩
  · omega
  · omega
  · omega
  · omega
  · exact h
/-- a ref or null, as it is stored -/
theorem z_v.obj (h : z_v sa ad ts vs c v) (hc : c.1 = 1 ∨ (c.1 = 2 ∧ c.2.2 = 0)) : v = .null ∨ ∃ a, v = .ref a := by
  rcases hc with hc | ⟨hc, h0⟩
  · rcases (h.ref hc).2 with h | ⟨_, a, h, _⟩
    · exact Or.inl h
    · exact Or.inr ⟨a, h⟩
  · rcases h.two hc with ⟨_, h⟩ | ⟨k, _, _, h1, _⟩
    · exact Or.inl h
    · omega
theorem z_v.cat1 (h : z_v sa ad ts vs c v) (hc : ¬ c.1 = 3) : v.category = 1 := by
  rcases h with ⟨_, x, y, _, h, _⟩ | ⟨_, _, h | ⟨_, a, h, _⟩⟩ | ⟨_, ⟨_, h⟩ | ⟨_, _, y, _, _, h, _⟩⟩ | ⟨h1, _⟩ | ⟨_, h⟩
  · subst h; rfl
  · subst h; rfl
  · subst h; rfl
  · subst h; rfl
  · subst h; rfl
  · exact absurd h1 hc
  · subst h; rfl
end ZV
/-- the bounds of a symbol -/
def z_en (a b : Nat) (v : Value) : Prop := match v with
  | .int x => a ≤ q_qb x ∧ q_qb x ≤ b
  | .null => a = 0
  | .long y => a = 0 ∨ y = z_lcv (a - 1)
  | _ => True
def z_E (V : z_V) (vs : List Value) : Prop := vs.length = V.1 ∧ vs[0]? = some (.int 0) ∧ ∀ s v, vs[s]? = some v → z_en (q_get V.2.1 s) (q_get V.2.2.1 s) v
theorem z_il_eq (V : z_V) (c : z_C) : z_il V c = q_get V.2.1 c.2.1 + c.2.2 - 2147483648 := by
  show Nat.sub (Nat.add _ _) 2147483648 = _
  rw [Nat.sub_eq, Nat.add_eq]
theorem z_ih_eq (V : z_V) (c : z_C) : z_ih V c = q_get V.2.2.1 c.2.1 + c.2.2 - 2147483648 := by
  show Nat.sub (Nat.add _ _) 2147483648 = _
  rw [Nat.sub_eq, Nat.add_eq]
section ZE
variable {sa : Nat → Nat} {ad ts : List Nat} {vs : List Value} {c : z_C} {v : Value} {V : z_V}
/-- an int code: its int, within the bounds -/
theorem z_v.bnd (h : z_v sa ad ts vs c v) (hE : z_E V vs) (hc : c.1 = 0) : ∃ y, v = .int y ∧ z_il V c ≤ q_qb y ∧ q_qb y ≤ z_ih V c := by
  obtain ⟨x, y, h1, h2, h3⟩ := h.int hc
  obtain ⟨b1, b2⟩ : q_get V.2.1 c.2.1 ≤ q_qb x ∧ q_qb x ≤ q_get V.2.2.1 c.2.1 := hE.2.2 _ _ h1
  refine ⟨y, h2, ?_, ?_⟩
  · rw [z_il_eq]; omega
  · rw [z_ih_eq]; omega
theorem z_qb0 : q_qb 0 = 2147483648 := by decide +kernel
/-- a told int -/
theorem z_v.con {b : Nat} (h : z_v sa ad ts vs (0, 0, b) v) (hE : z_E V vs) : ∃ y, v = .int y ∧ q_qb y = b := by
  obtain ⟨x, y, h1, h2, h3⟩ := h.int rfl
  have h1 : vs[0]? = some (.int x) := h1
  rw [hE.2.1] at h1
  cases h1
  rw [z_qb0] at h3
  exact ⟨y, h2, by have h3 : q_qb y + 2147483648 = 2147483648 + b := h3; omega⟩
theorem z_v.mkcon (hE : z_E V vs) {y : Int32} : z_v sa ad ts vs (0, 0, q_qb y) (.int y) := Or.inl ⟨rfl, 0, y, hE.2.1, rfl, by show q_qb y + 2147483648 = q_qb 0 + q_qb y; rw [z_qb0]; omega⟩
theorem z_v.nonnull (h : z_v sa ad ts vs c v) (hE : z_E V vs) (hn : z_nn V c = true) : ∃ (a j : Nat), v = .ref a ∧ vs[c.2.1]? = some (.ref a) ∧ ad[j]? = some a ∧ ts[j]? = some c.2.2 := by
  obtain ⟨h1, h2⟩ := q_ands hn
  obtain ⟨h3, h4⟩ := h.ref (q_beq.mp h1)
  rcases h4 with rfl | ⟨j, a, rfl, h5, h6⟩
  · have : q_get V.2.1 c.2.1 = 0 := hE.2.2 _ _ h3
    have h2 := q_beq.mp h2
    omega
  · exact ⟨a, j, rfl, h3, h5, h6⟩
end ZE
theorem z_ceq_eq {a b : z_C} (h : z_ceq a b = true) : a = b := by
  obtain ⟨h1, h2⟩ := q_ands h
  obtain ⟨h2, h3⟩ := q_ands h2
  exact Prod.ext (q_beq.mp h1) (Prod.ext (q_beq.mp h2) (q_beq.mp h3))
/-- a symbol more -/
theorem z_E.push {V : z_V} {vs : List Value} (hE : z_E V vs) {a b : Nat} (ha : a < 2 ^ 34) (hb : b < 2 ^ 34) {v : Value} (hv : z_en a b v) : z_E (z_push V a b) (vs ++ [v]) := by
  obtain ⟨h1, h2, h3⟩ := hE
  refine ⟨by simp [z_push, h1], ?_, fun s w hw => ?_⟩
  · exact z_gm (List.prefix_append _ _) h2
  · show z_en (q_get (q_set V.2.1 V.1 a) s) (q_get (q_set V.2.2.1 V.1 b) s) w
    rw [q_get_set _ _ _ _ ha, q_get_set _ _ _ _ hb]
    by_cases e : s = V.1
    · subst e
      rw [← h1, List.getElem?_append_right (Nat.le_refl _), Nat.sub_self] at hw
      have hw : some v = some w := hw
      cases hw
      rw [if_pos rfl, if_pos rfl]
      exact hv
    · rw [if_neg e, if_neg e]
      have hs : s < vs.length := by
        have := (List.getElem?_eq_some_iff.mp hw).1
        rw [List.length_append, List.length_singleton] at this
        omega
      rw [List.getElem?_append_left hs] at hw
      exact h3 s w hw
theorem z_last {vs : List Value} {v : Value} {n : Nat} (h : vs.length = n) : (vs ++ [v])[n]? = some v := by
  subst h
  rw [List.getElem?_append_right (Nat.le_refl _), Nat.sub_self]
  rfl
theorem z_E.same {V W : z_V} {vs : List Value} (hE : z_E V vs) (h1 : W.1 = V.1) (h2 : W.2.1 = V.2.1) (h3 : W.2.2.1 = V.2.2.1) : z_E W vs := by
  refine ⟨by rw [h1]; exact hE.1, hE.2.1, fun s v hv => ?_⟩
  rw [h2, h3]
  exact hE.2.2 s v hv
/-- bounds of a symbol are drawn closer -/
theorem z_E.near {V : z_V} {vs : List Value} (hE : z_E V vs) {s a b : Nat} (ha : a < 2 ^ 34) (hb : b < 2 ^ 34) (h : ∀ v, vs[s]? = some v → z_en a b v) {F : List z_A × List z_B × Nat} : z_E (V.1, q_set V.2.1 s a, q_set V.2.2.1 s b, F) vs := by
  refine ⟨hE.1, hE.2.1, fun k v hv => ?_⟩
  show z_en (q_get (q_set V.2.1 s a) k) (q_get (q_set V.2.2.1 s b) k) v
  rw [q_get_set _ _ _ _ ha, q_get_set _ _ _ _ hb]
  by_cases e : k = s
  · subst e
    rw [if_pos rfl, if_pos rfl]
    exact h v hv
  · rw [if_neg e, if_neg e]
    exact hE.2.2 k v hv
theorem z_E.near1 {V : z_V} {vs : List Value} (hE : z_E V vs) {s a : Nat} (ha : a < 2 ^ 34) (h : ∀ v, vs[s]? = some v → z_en a (q_get V.2.2.1 s) v) {F : Nat × List z_A × List z_B × Nat} (hF : F.1 = V.2.2.1) : z_E (V.1, q_set V.2.1 s a, F) vs := by
  refine ⟨hE.1, hE.2.1, fun k v hv => ?_⟩
  show z_en (q_get (q_set V.2.1 s a) k) (q_get F.1 k) v
  rw [q_get_set _ _ _ _ ha, hF]
  by_cases e : k = s
  · subst e
    rw [if_pos rfl]
    exact h v hv
  · rw [if_neg e]
    exact hE.2.2 k v hv
/-! the world -/
/-- the k-th place of a cell -/
def z_at (e : va_E) (k : Nat) : Option Value := match e with
  | .inr (_, fs) => fs[k]?
  | .inl (_, n, .inl f) => if k < n then some (.int (f k)) else none
  | _ => none
def z_ca (tys : List (ClassId × FieldType)) (ty : FieldType) (T : z_T) (e : va_E) : Prop := ∃ (cA : ClassId) (t : Nat) (f : Nat → Int32), e = .inl (cA, T.2.1, .inl f) ∧ tys[t]? = some (cA, ty) ∧ ∀ k, k < T.2.1 → (z_el T.2.2.1 (k % T.2.2.2.1)).1 ≤ q_qb (f k) ∧ q_qb (f k) ≤ (z_el T.2.2.1 (k % T.2.2.2.1)).2
def z_cl (tys : List (ClassId × FieldType)) (T : z_T) (e : va_E) : Prop := ∃ (cA : ClassId) (t : Nat) (f : Nat → Int64), e = .inl (cA, T.2.1, .inr (.inl f)) ∧ tys[t]? = some (cA, .long)
def z_cq (ad ts : List Nat) (tys : List (ClassId × FieldType)) (T : z_T) (e : va_E) : Prop := ∃ (cA : ClassId) (t : Nat) (f : Nat → Option Nat), e = .inl (cA, T.2.1, .inr (.inr (.inr (.inr f)))) ∧ tys[t]? = some (cA, .object "SandNights$Sand") ∧ ∀ j a, j < T.2.1 → f j = some a → z_rt ad ts z_tS (.ref a)
def z_co (ad ts : List Nat) (T : z_T) (e : va_E) : Prop := ∃ fs : List Value, e = .inr (T.2.1, fs) ∧ fs.length = T.2.2.1.length ∧ ∀ k v, fs[k]? = some v → z_tv ad ts (z_nth T.2.2.1 k) v
def z_cell (ad ts : List Nat) (tys : List (ClassId × FieldType)) (T : z_T) (e : va_E) : Prop := (T.1 = 0 ∧ z_co ad ts T e) ∨ (T.1 = 1 ∧ z_ca tys .int T e) ∨ (T.1 = 3 ∧ z_ca tys .byte T e) ∨ (T.1 = 5 ∧ z_ca tys .boolean T e) ∨ (T.1 = 7 ∧ z_cl tys T e) ∨ (T.1 = 9 ∧ z_cq ad ts tys T e)
theorem z_cell.mono {ad ad' ts ts' : List Nat} {tys tys' : List (ClassId × FieldType)} {T : z_T} {e : va_E} (h : z_cell ad ts tys T e) (hp : ad <+: ad') (hq : ts <+: ts') (ht : tys <+: tys') : z_cell ad' ts' tys' T e := by
  rcases h with ⟨h0, fs, h1, h2, h3⟩ | ⟨h0, cA, t, f, h1, h2, h3⟩ | ⟨h0, cA, t, f, h1, h2, h3⟩ | ⟨h0, cA, t, f, h1, h2, h3⟩ | ⟨h0, cA, t, f, h1, h2⟩ | ⟨h0, cA, t, f, h1, h2, h3⟩
  · exact Or.inl ⟨h0, fs, h1, h2, fun k v hv => (h3 k v hv).mono hp hq⟩
  · exact Or.inr (Or.inl ⟨h0, cA, t, f, h1, z_gm ht h2, h3⟩)
  · exact Or.inr (Or.inr (Or.inl ⟨h0, cA, t, f, h1, z_gm ht h2, h3⟩))
  · exact Or.inr (Or.inr (Or.inr (Or.inl ⟨h0, cA, t, f, h1, z_gm ht h2, h3⟩)))
  · exact Or.inr (Or.inr (Or.inr (Or.inr (Or.inl ⟨h0, cA, t, f, h1, z_gm ht h2⟩))))
  · exact Or.inr (Or.inr (Or.inr (Or.inr (Or.inr ⟨h0, cA, t, f, h1, z_gm ht h2, fun j a hj ha => (h3 j a hj ha).mono hp hq⟩))))
section ZC
variable {ad ts : List Nat} {tys : List (ClassId × FieldType)} {T : z_T} {e : va_E}
theorem z_cell.obj (h : z_cell ad ts tys T e) (h0 : T.1 = 0) : z_co ad ts T e := by
  rcases h with ⟨_, h⟩ | ⟨h, _⟩ | ⟨h, _⟩ | ⟨h, _⟩ | ⟨h, _⟩ | ⟨h, _⟩
  · exact h
  all_goals omega
theorem z_cell.ints (h : z_cell ad ts tys T e) (h0 : T.1 = 1) : z_ca tys .int T e := by
  rcases h with ⟨h, _⟩ | ⟨_, h⟩ | ⟨h, _⟩ | ⟨h, _⟩ | ⟨h, _⟩ | ⟨h, _⟩
  · omega
  · exact h
  all_goals omega
theorem z_cell.bytes (h : z_cell ad ts tys T e) (h0 : T.1 = 3) : z_ca tys .byte T e := by
  rcases h with ⟨h, _⟩ | ⟨h, _⟩ | ⟨_, h⟩ | ⟨h, _⟩ | ⟨h, _⟩ | ⟨h, _⟩
  · omega
  · omega
  · exact h
  all_goals omega
theorem z_cell.bools (h : z_cell ad ts tys T e) (h0 : T.1 = 5) : z_ca tys .boolean T e := by
  rcases h with ⟨h, _⟩ | ⟨h, _⟩ | ⟨h, _⟩ | ⟨_, h⟩ | ⟨h, _⟩ | ⟨h, _⟩
  · omega
  · omega
  · omega
  · exact h
  all_goals omega
theorem z_cell.longs (h : z_cell ad ts tys T e) (h0 : T.1 = 7) : z_cl tys T e := by
  rcases h with ⟨h, _⟩ | ⟨h, _⟩ | ⟨h, _⟩ | ⟨h, _⟩ | ⟨_, h⟩ | ⟨h, _⟩
  · omega
  · omega
  · omega
  · omega
  · exact h
  · omega
theorem z_cell.refs (h : z_cell ad ts tys T e) (h0 : T.1 = 9) : z_cq ad ts tys T e := by
  rcases h with ⟨h, _⟩ | ⟨h, _⟩ | ⟨h, _⟩ | ⟨h, _⟩ | ⟨h, _⟩ | ⟨_, h⟩
  · omega
  · omega
  · omega
  · omega
  · omega
  · exact h
end ZC
def z_W (tt : Nat → z_T) (ws : va_W) (tys : List (ClassId × FieldType)) (ts : List Nat) : Prop := ts.length = ws.length ∧ (∀ (k a : Nat) (e : va_E), ws[k]? = some (a, e) → ∃ t, ts[k]? = some t ∧ z_cell (q_ad ws) ts tys (tt t) e) ∧ ∀ (i j : Nat), ts[i]? = some 40 → ts[j]? = some 40 → i = j
/-- a cell that a ref names -/
theorem z_W.cell {tt : Nat → z_T} {ws : va_W} {tys : List (ClassId × FieldType)} {ts : List Nat} (hw : z_W tt ws tys ts) {j a t : Nat} (h1 : (q_ad ws)[j]? = some a) (h2 : ts[j]? = some t) : ∃ e, ws[j]? = some (a, e) ∧ z_cell (q_ad ws) ts tys (tt t) e := by
  have hj : j < ws.length := by
    have := (List.getElem?_eq_some_iff.mp h1).1
    simpa [q_ad] using this
  obtain ⟨b, e⟩ : Nat × va_E := ws[j]
  have he : ws[j]? = some (ws[j]'hj) := List.getElem?_eq_getElem hj
  generalize hx : ws[j]'hj = x at he
  obtain ⟨a2, e2⟩ := x
  have h3 : (q_ad ws)[j]? = some a2 := by rw [List.getElem?_map, he]; rfl
  have h4 : a2 = a := Option.some.inj (h3.symm.trans h1)
  subst h4
  obtain ⟨t2, h5, h6⟩ := hw.2.1 j a2 e2 he
  have h7 : t2 = t := Option.some.inj (h5.symm.trans h2)
  subst h7
  exact ⟨e2, he, h6⟩
/-- a cell is written -/
theorem z_W.set {tt : Nat → z_T} {ws : va_W} {tys : List (ClassId × FieldType)} {ts : List Nat} (hw : z_W tt ws tys ts) {j a t : Nat} {e e' : va_E} (he : ws[j]? = some (a, e)) (ht : ts[j]? = some t) (hc : z_cell (q_ad ws) ts tys (tt t) e') : z_W tt (ws.set j (a, e')) tys ts := by
  refine ⟨by rw [List.length_set]; exact hw.1, fun k b f hk => ?_, hw.2.2⟩
  rw [q_ad_set ws j a e e' he]
  by_cases e1 : j = k
  · subst e1
    rw [List.getElem?_set_self (List.getElem?_eq_some_iff.mp he).1] at hk
    cases hk
    exact ⟨t, ht, hc⟩
  · rw [List.getElem?_set_ne e1] at hk
    exact hw.2.1 k b f hk
/-- what is not written stays -/
def z_wr (kw : List z_C) (t k : Nat) : Prop := z_kw kw t (2147483648 + k) (2147483648 + k) = true
def z_Fr (kw : List z_C) (w0 : va_W) (t0 : List Nat) (ws : va_W) (ts : List Nat) : Prop := t0 <+: ts ∧ q_ad w0 <+: q_ad ws ∧ ∀ (j a t k : Nat) (e : va_E) (v : Value), w0[j]? = some (a, e) → t0[j]? = some t → z_at e k = some v → ¬ z_wr kw t k → ∃ e', ws[j]? = some (a, e') ∧ z_at e' k = some v
theorem z_any_iff {α : Type} {p : α → Bool} {l : List α} : z_any p l = true ↔ ∃ a ∈ l, p a = true := by
  induction l with
  | nil => exact ⟨fun h => (by cases h), fun ⟨_, h, _⟩ => (by cases h)⟩
  | cons a t ih =>
    show (bif p a then true else z_any p t) = true ↔ _
    cases h : p a with
    | true => exact ⟨fun _ => ⟨a, List.mem_cons_self, h⟩, fun _ => rfl⟩
    | false =>
      show z_any p t = true ↔ _
      rw [ih]
      exact ⟨fun ⟨b, h1, h2⟩ => ⟨b, List.mem_cons_of_mem _ h1, h2⟩, fun ⟨b, h1, h2⟩ => by
        rcases List.mem_cons.mp h1 with rfl | h1
        · rw [h] at h2; cases h2
        · exact ⟨b, h1, h2⟩⟩
theorem z_all_iff {α : Type} {p : α → Bool} {l : List α} : z_all p l = true ↔ ∀ a ∈ l, p a = true := by
  induction l with
  | nil => exact ⟨fun _ _ h => (by cases h), fun _ => rfl⟩
  | cons a t ih =>
    show (bif p a then z_all p t else false) = true ↔ _
    cases h : p a with
    | true =>
      show z_all p t = true ↔ _
      rw [ih]
      exact ⟨fun h2 b hb => by
        rcases List.mem_cons.mp hb with rfl | hb
        · exact h
        · exact h2 b hb, fun h2 b hb => h2 b (List.mem_cons_of_mem _ hb)⟩
    | false => exact ⟨fun h2 => (by cases h2), fun h2 => (by rw [h2 a List.mem_cons_self] at h; cases h)⟩
theorem z_flt_mem {α : Type} {p : α → Bool} {l : List α} {a : α} : a ∈ z_flt p l ↔ a ∈ l ∧ p a = true := by
  induction l with
  | nil => exact ⟨fun h => (by cases h), fun h => (by cases h.1)⟩
  | cons b t ih =>
    have e : z_flt p (b :: t) = bif p b then b :: z_flt p t else z_flt p t := rfl
    rw [e]
    cases h : p b with
    | true =>
      show a ∈ b :: z_flt p t ↔ _
      rw [List.mem_cons, List.mem_cons, ih]
      exact ⟨fun h2 => h2.elim (fun h3 => ⟨Or.inl h3, by rw [h3]; exact h⟩) (fun h3 => ⟨Or.inr h3.1, h3.2⟩), fun h2 => h2.1.elim Or.inl (fun h3 => Or.inr ⟨h3, h2.2⟩)⟩
    | false =>
      show a ∈ z_flt p t ↔ _
      rw [ih, List.mem_cons]
      exact ⟨fun h2 => ⟨Or.inr h2.1, h2.2⟩, fun h2 => h2.1.elim (fun h3 => absurd h2.2 (by rw [h3, h]; decide)) (fun h3 => ⟨h3, h2.2⟩)⟩
theorem z_kw_iff {kw : List z_C} {t lo hi : Nat} : z_kw kw t lo hi = true ↔ ∃ e ∈ kw, e.1 = t ∧ e.2.1 ≤ lo ∧ hi ≤ e.2.2 := by
  show z_any _ kw = true ↔ _
  rw [z_any_iff]
  constructor
  · rintro ⟨e, h1, h2⟩
    obtain ⟨h2, h3⟩ := q_ands h2
    obtain ⟨h3, h4⟩ := q_ands h3
    exact ⟨e, h1, q_beq.mp h2, q_ble.mp h3, q_ble.mp h4⟩
  · rintro ⟨e, h1, h2, h3, h4⟩
    refine ⟨e, h1, ?_⟩
    rw [q_beq.mpr h2, q_ble.mpr h3, q_ble.mpr h4]
    rfl
theorem z_wr.of {kw : List z_C} {t lo hi k : Nat} (h : z_kw kw t lo hi = true) (h1 : lo ≤ 2147483648 + k) (h2 : 2147483648 + k ≤ hi) : z_wr kw t k := by
  obtain ⟨e, e1, e2, e3, e4⟩ := z_kw_iff.mp h
  exact z_kw_iff.mpr ⟨e, e1, e2, by omega, by omega⟩
theorem z_Fr.rf (kw : List z_C) (ws : va_W) (ts : List Nat) : z_Fr kw ws ts ws ts := ⟨List.prefix_rfl, List.prefix_rfl, fun _ _ _ _ e _ h _ h2 _ => ⟨e, h, h2⟩⟩
theorem z_Fr.trans {kw : List z_C} {w0 w1 w2 : va_W} {t0 t1 t2 : List Nat} (h : z_Fr kw w0 t0 w1 t1) (g : z_Fr kw w1 t1 w2 t2) : z_Fr kw w0 t0 w2 t2 := by
  refine ⟨h.1.trans g.1, h.2.1.trans g.2.1, fun j a t k e v h1 h2 h3 h4 => ?_⟩
  obtain ⟨e', h5, h6⟩ := h.2.2 j a t k e v h1 h2 h3 h4
  exact g.2.2 j a t k e' v h5 (z_gm h.1 h2) h6 h4
theorem z_Fr.wide {kw kw' : List z_C} {w0 w1 : va_W} {t0 t1 : List Nat} (h : z_Fr kw w0 t0 w1 t1) (hk : ∀ t k, z_wr kw t k → z_wr kw' t k) : z_Fr kw' w0 t0 w1 t1 := ⟨h.1, h.2.1, fun j a t k e v h1 h2 h3 h4 => h.2.2 j a t k e v h1 h2 h3 (fun z => h4 (hk t k z))⟩
/-- one cell written, at places that may be -/
theorem z_Fr.set {kw : List z_C} {w0 ws : va_W} {t0 ts : List Nat} (h : z_Fr kw w0 t0 ws ts) {j a t : Nat} {e e' : va_E} (he : ws[j]? = some (a, e)) (ht : ts[j]? = some t) (hs : ∀ k v, z_at e k = some v → ¬ z_wr kw t k → z_at e' k = some v) : z_Fr kw w0 t0 (ws.set j (a, e')) ts := by
  refine ⟨h.1, by rw [q_ad_set ws j a e e' he]; exact h.2.1, fun i b u k f v h1 h2 h3 h4 => ?_⟩
  obtain ⟨f', h5, h6⟩ := h.2.2 i b u k f v h1 h2 h3 h4
  by_cases e1 : j = i
  · subst e1
    rw [he] at h5
    cases h5
    have e2 : u = t := Option.some.inj ((z_gm h.1 h2).symm.trans ht)
    subst e2
    exact ⟨e', by rw [List.getElem?_set_self (List.getElem?_eq_some_iff.mp he).1], hs k v h6 h4⟩
  · exact ⟨f', by rw [List.getElem?_set_ne e1]; exact h5, h6⟩
/-! facts, dependents, locals, stack -/
def z_f1 (sa : Nat → Nat) (ws : va_W) (ts : List Nat) (vs : List Value) (f : z_A) : Prop := ∃ (a j k : Nat) (e : va_E) (y : Int32) (v : Value), vs[f.1]? = some (.ref a) ∧ ws[j]? = some (a, e) ∧ ts[j]? = some f.2.1 ∧ z_v sa (q_ad ws) ts vs f.2.2.1 (.int y) ∧ f.2.2.1.1 = 0 ∧ q_qb y = 2147483648 + k ∧ z_at e k = some v ∧ z_v sa (q_ad ws) ts vs f.2.2.2 v
def z_Fs (sa : Nat → Nat) (ws : va_W) (ts : List Nat) (vs : List Value) (F : List z_A) : Prop := ∀ f ∈ F, z_f1 sa ws ts vs f
def z_d1 (sa : Nat → Nat) (tt : Nat → z_T) (ad ts : List Nat) (vs : List Value) (d : z_B) : Prop := ∃ (x y : Int32) (k : Nat), vs[d.1]? = some (.int x) ∧ z_v sa ad ts vs d.2.2 (.int y) ∧ d.2.2.1 = 0 ∧ q_qb y = 2147483648 + k ∧ (z_el (tt d.2.1).2.2.1 (k % (tt d.2.1).2.2.2.1)).1 ≤ q_qb x ∧ q_qb x ≤ (z_el (tt d.2.1).2.2.1 (k % (tt d.2.1).2.2.2.1)).2
def z_Ds (sa : Nat → Nat) (tt : Nat → z_T) (ad ts : List Nat) (vs : List Value) (D : List z_B) : Prop := ∀ d ∈ D, z_d1 sa tt ad ts vs d
def z_Lr (sa : Nat → Nat) (ad ts : List Nat) (vs : List Value) (L : List z_C) (nL : Nat) (ls : Array Slot) : Prop := L.length = nL ∧ ∃ lv : List (Nat × Value), lv_has ls nL lv ∧ ∀ i c, L[i]? = some c → c.1 = 9 ∨ ∃ v, (i, v) ∈ lv ∧ z_v sa ad ts vs c v
def z_Sr (sa : Nat → Nat) (ad ts : List Nat) (vs : List Value) : List z_C → List Value → Prop
  | [], [] => True
  | c :: st, v :: sv => z_v sa ad ts vs c v ∧ z_Sr sa ad ts vs st sv
  | _, _ => False
section ZM
variable {sa : Nat → Nat} {tt : Nat → z_T} {ad ad' ts ts' : List Nat} {vs vs' : List Value}
theorem z_Sr.mono (hv : vs <+: vs') (hp : ad <+: ad') (hq : ts <+: ts') : ∀ {st : List z_C} {sv : List Value}, z_Sr sa ad ts vs st sv → z_Sr sa ad' ts' vs' st sv
  | [], [], _ => trivial
  | _ :: _, _ :: _, h => ⟨h.1.mono hv hp hq, z_Sr.mono hv hp hq h.2⟩
  | [], _ :: _, h => h.elim
  | _ :: _, [], h => h.elim
theorem z_Sr.cons {c : z_C} {st : List z_C} {sv : List Value} (h : z_Sr sa ad ts vs (c :: st) sv) : ∃ v sv', sv = v :: sv' ∧ z_v sa ad ts vs c v ∧ z_Sr sa ad ts vs st sv' := by
  cases sv with
  | nil => exact h.elim
  | cons v sv' => exact ⟨v, sv', rfl, h.1, h.2⟩
theorem z_Sr.nil {sv : List Value} (h : z_Sr sa ad ts vs [] sv) : sv = [] := by
  cases sv with
  | nil => rfl
  | cons v sv' => exact h.elim
theorem z_Sr.cats : ∀ {st : List z_C} {sv : List Value}, z_Sr sa ad ts vs st sv → sv.length = st.length ∧ (sv.map fun v => v.category).sum ≤ 2 * st.length
  | [], [], _ => ⟨rfl, by simp⟩
  | c :: st, v :: sv, h => by
    have ih := z_Sr.cats h.2
    have : v.category ≤ 2 := by rcases lv_cat v with h | h <;> omega
    simp only [List.length_cons, List.map_cons, List.sum_cons]
    omega
  | [], _ :: _, h => h.elim
  | _ :: _, [], h => h.elim
theorem z_Lr.mono {L : List z_C} {nL : Nat} {ls : Array Slot} (h : z_Lr sa ad ts vs L nL ls) (hv : vs <+: vs') (hp : ad <+: ad') (hq : ts <+: ts') : z_Lr sa ad' ts' vs' L nL ls := by
  obtain ⟨h1, lv, h2, h3⟩ := h
  refine ⟨h1, lv, h2, fun i c hc => ?_⟩
  rcases h3 i c hc with h4 | ⟨v, h4, h5⟩
  · exact Or.inl h4
  · exact Or.inr ⟨v, h4, h5.mono hv hp hq⟩
theorem z_Ds.mono {D : List z_B} (h : z_Ds sa tt ad ts vs D) (hv : vs <+: vs') (hp : ad <+: ad') (hq : ts <+: ts') : z_Ds sa tt ad' ts' vs' D := by
  intro d hd
  obtain ⟨x, y, k, h1, h2, h3⟩ := h d hd
  exact ⟨x, y, k, z_gm hv h1, h2.mono hv hp hq, h3⟩
theorem z_Fs.mono {ws : va_W} {F : List z_A} (h : z_Fs sa ws ts vs F) (hv : vs <+: vs') : z_Fs sa ws ts vs' F := by
  intro f hf
  obtain ⟨a, j, k, e, y, v, h1, h2, h3, h4, h5, h6, h7, h8⟩ := h f hf
  exact ⟨a, j, k, e, y, v, z_gm hv h1, h2, h3, h4.mono hv List.prefix_rfl List.prefix_rfl, h5, h6, h7, h8.mono hv List.prefix_rfl List.prefix_rfl⟩
end ZM

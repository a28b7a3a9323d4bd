/-! ===== the parser's stack, in numbers ===== -/
/-- how many brackets and nots -/
def h_mk (s : Nat → Nat) : Nat → Nat
  | 0 => 0
  | k + 1 => h_mk s k + (if s k = 3 ∨ s k = 7 then 1 else 0)
theorem h_mk_eq {s t : Nat → Nat} : ∀ {k : Nat}, (∀ j, j < k → s j = t j) → h_mk s k = h_mk t k
  | 0, _ => rfl
  | k + 1, h => by
    show h_mk s k + (if s k = 3 ∨ s k = 7 then 1 else 0) = h_mk t k + (if t k = 3 ∨ t k = 7 then 1 else 0)
    rw [h_mk_eq (fun j hj => h j (Nat.lt_succ_of_lt hj)), h k (Nat.lt_succ_self k)]
theorem h_mk_mono (s : Nat → Nat) (k : Nat) : h_mk s k ≤ h_mk s (k + 1) := Nat.le_add_right _ _
theorem h_mk_le (s : Nat → Nat) (h0 : s 0 = 8) : ∀ k, h_mk s (k + 1) ≤ k
  | 0 => by
    show 0 + (if s 0 = 3 ∨ s 0 = 7 then 1 else 0) ≤ 0
    rw [if_neg (by omega)]
    decide
  | k + 1 => by
    have := h_mk_le s h0 k
    show h_mk s (k + 1) + (if s (k + 1) = 3 ∨ s (k + 1) = 7 then 1 else 0) ≤ k + 1
    split <;> omega
def h_rk (t : Nat) : Nat := if t ≤ 6 then t else 0
theorem h_rk_le (t : Nat) : h_rk t ≤ 6 := by
  unfold h_rk
  split <;> omega
/-- the stack -/
def h_st (s : Nat → Nat) (eW eS : Nat → Int32) (pi : Nat) : Prop := s 0 = 8 ∧ (∀ k, k < pi → eW k = nI (s k)) ∧ (∀ k, 1 ≤ k → k < pi → 1 ≤ s k ∧ s k ≤ 7) ∧ (∀ k, 1 ≤ k → k < pi → s k = 3 → eS k = nI 126) ∧ (∀ k, 1 ≤ k → k < pi → ¬ s k = 3 → ¬ s k = 7 → h_isop (eS k)) ∧ ∀ k, k < pi → k ≤ 7 * h_mk s (k + 1) + h_rk (s k)
/-- stack and code together; w: does it want a unit -/
def h_pi (w : Nat) (s : Nat → Nat) (eW eS fk : Nat → Int32) (pi wi cd u p0 : Nat) : Prop := 1 ≤ pi ∧ h_st s eW eS pi ∧ wi = h_mk s pi ∧ wi ≤ 7 ∧ p0 ≤ cd ∧ h_hs fk p0 (cd - p0) = some (pi - 1 - wi + (1 - w)) ∧ u ≤ 60 ∧ (w = 1 → cd - p0 + pi ≤ 9 * u + 1 + wi) ∧ (w = 0 → cd - p0 + pi ≤ 9 * u) ∧ w < 2
theorem h_pi.bnd {w : Nat} {s : Nat → Nat} {eW eS fk : Nat → Int32} {pi wi cd u p0 : Nat} (h : h_pi w s eW eS fk pi wi cd u p0) : pi ≤ 56 ∧ wi + 1 ≤ pi := by
  obtain ⟨h1, ⟨h0, h2, h3, h4, h5, h6⟩, h7, h8, -⟩ := h
  have a := h6 (pi - 1) (by omega)
  have b := h_mk_le s h0 (pi - 1)
  rw [show pi - 1 + 1 = pi by omega] at a b
  have := h_rk_le (s (pi - 1))
  omega
theorem h_hs_eq {f g : Nat → Int32} {p0 : Nat} : ∀ {m : Nat}, (∀ k, p0 ≤ k → k < p0 + m → f k = g k) → h_hs f p0 m = h_hs g p0 m
  | 0, _ => rfl
  | m + 1, h => by
    unfold h_hs
    rw [h_hs_eq (fun k h1 h2 => h k h1 (by omega)), h (p0 + m) (by omega) (by omega)]
/-- one code more -/
theorem h_hs_step {f : Nat → Int32} {p0 cd h h' : Nat} {c : Int32} (hp : p0 ≤ cd) (h0 : h_hs f p0 (cd - p0) = some h) (hs : (if c = nI 126 then (if 1 ≤ h then some h else none) else if h_let c = 1 then (if h < 60 then some (h + 1) else none) else (if 2 ≤ h then some (h - 1) else none)) = some h') : h_hs (upd f cd c) p0 (cd + 1 - p0) = some h' := by
  rw [show cd + 1 - p0 = (cd - p0) + 1 by omega]
  unfold h_hs
  rw [h_hs_eq (f := upd f cd c) (g := f) (fun k h1 h2 => pk_un (by omega)), h0, show p0 + (cd - p0) = cd by omega, pk_us]
  exact hs
theorem h_st.sub {s : Nat → Nat} {eW eS : Nat → Int32} {pi pj : Nat} (h : h_st s eW eS pi) (hj : pj ≤ pi) : h_st s eW eS pj := ⟨h.1, fun k hk => h.2.1 k (by omega), fun k h1 h2 => h.2.2.1 k h1 (by omega), fun k h1 h2 => h.2.2.2.1 k h1 (by omega), fun k h1 h2 => h.2.2.2.2.1 k h1 (by omega), fun k hk => h.2.2.2.2.2 k (by omega)⟩
/-- a pop of what has a rank -/
theorem h_pi.pop {s : Nat → Nat} {eW eS fk : Nat → Int32} {pi wi cd u p0 : Nat} (h : h_pi 0 s eW eS fk (pi + 1) wi cd u p0) (ht : s pi ≤ 6) : 1 ≤ pi ∧ h_pi 0 s eW eS (upd fk cd (eS pi)) pi (if s pi = 3 then wi - 1 else wi) (cd + 1) u p0 ∧ (s pi = 3 → 1 ≤ wi) := by
  have hb := h.bnd
  obtain ⟨h1, hst, h7, h8, h9, h10, h11, h12, h13, h14⟩ := h
  obtain ⟨s0, s1, s2, s3, s4, s5⟩ := id hst
  have hp1 : 1 ≤ pi := by
    rcases Nat.eq_zero_or_pos pi with e | e
    · rw [e, s0] at ht
      omega
    · exact e
  have hml := h_mk_le s s0 (pi - 1)
  rw [show pi - 1 + 1 = pi by omega] at hml
  have hbb := h13 rfl
  have e7 : wi = h_mk s pi + (if s pi = 3 ∨ s pi = 7 then 1 else 0) := h7
  by_cases e3 : s pi = 3
  · rw [if_pos (Or.inl e3)] at e7
    rw [if_pos e3]
    refine ⟨hp1, ⟨hp1, hst.sub (by omega), by omega, by omega, by omega, ?_, h11, fun h => absurd h (by decide), fun _ => by omega, by decide⟩, fun _ => by omega⟩
    refine h_hs_step h9 h10 ?_
    rw [s3 pi hp1 (by omega) e3, if_pos rfl, if_pos (by omega)]
    congr 1
    omega
  · rw [if_neg (by omega)] at e7
    rw [if_neg e3]
    have hop := s4 pi hp1 (by omega) e3 (by omega)
    refine ⟨hp1, ⟨hp1, hst.sub (by omega), by omega, by omega, by omega, ?_, h11, fun h => absurd h (by decide), fun _ => by omega, by decide⟩, fun h => absurd h e3⟩
    refine h_hs_step h9 h10 ?_
    rw [if_neg hop.1, if_neg (by rw [hop.2]; decide), if_pos (by omega)]
    congr 1
    omega
/-- s with one number more -/
def h_sup (s : Nat → Nat) (k v : Nat) : Nat → Nat := fun j => if j = k then v else s j
theorem h_sup_at (s : Nat → Nat) (k v : Nat) : h_sup s k v k = v := if_pos rfl
theorem h_sup_ne (s : Nat → Nat) {k v j : Nat} (h : ¬ j = k) : h_sup s k v j = s j := if_neg h
theorem h_mk_sup (s : Nat → Nat) (k v : Nat) : h_mk (h_sup s k v) k = h_mk s k := h_mk_eq (fun j hj => h_sup_ne s (by omega))
theorem h_st.push {s : Nat → Nat} {eW eS : Nat → Int32} {pi r : Nat} {c : Int32} (h : h_st s eW eS pi) (hp : 1 ≤ pi) (hr : 1 ≤ r) (hr7 : r ≤ 7) (h3 : r = 3 → c = nI 126) (h4 : ¬ r = 3 → ¬ r = 7 → h_isop c ∧ (7 ≤ s (pi - 1) ∨ s (pi - 1) < r)) : h_st (h_sup s pi r) (upd eW pi (nI r)) (upd eS pi c) (pi + 1) := by
  obtain ⟨s0, s1, s2, s3, s4, s5⟩ := h
  refine ⟨by rw [h_sup_ne s (by omega)]; exact s0, fun k hk => ?_, fun k k1 k2 => ?_, fun k k1 k2 => ?_, fun k k1 k2 => ?_, fun k hk => ?_⟩
  · by_cases e : k = pi
    · subst e
      rw [pk_us, h_sup_at]
    · rw [pk_un e, h_sup_ne s e]
      exact s1 k (by omega)
  · by_cases e : k = pi
    · subst e
      rw [h_sup_at]
      exact ⟨hr, hr7⟩
    · rw [h_sup_ne s e]
      exact s2 k k1 (by omega)
  · by_cases e : k = pi
    · subst e
      rw [h_sup_at, pk_us]
      exact h3
    · rw [h_sup_ne s e, pk_un e]
      exact s3 k k1 (by omega)
  · by_cases e : k = pi
    · subst e
      rw [h_sup_at, pk_us]
      exact fun q1 q2 => (h4 q1 q2).1
    · rw [h_sup_ne s e, pk_un e]
      exact s4 k k1 (by omega)
  · by_cases e : k = pi
    · subst e
      have a := s5 (k - 1) (by omega)
      rw [show k - 1 + 1 = k by omega] at a
      have b := h_rk_le (s (k - 1))
      show k ≤ 7 * (h_mk (h_sup s k r) k + (if h_sup s k r k = 3 ∨ h_sup s k r k = 7 then 1 else 0)) + h_rk (h_sup s k r k)
      rw [h_mk_sup, h_sup_at]
      by_cases e3 : r = 3
      · rw [if_pos (Or.inl e3)]
        omega
      · by_cases e7 : r = 7
        · rw [if_pos (Or.inr e7)]
          omega
        · rw [if_neg (by omega)]
          have hh := (h4 e3 e7).2
          have er : h_rk r = r := if_pos (by omega)
          rw [er]
          rcases hh with hh | hh
          · have : h_rk (s (k - 1)) = 0 := if_neg (by omega)
            omega
          · have : h_rk (s (k - 1)) ≤ s (k - 1) := by
              unfold h_rk
              split <;> omega
            omega
    · rw [h_sup_ne s e]
      have : h_mk (h_sup s pi r) (k + 1) = h_mk s (k + 1) := h_mk_eq (fun j hj => h_sup_ne s (by omega))
      rw [this]
      exact s5 k (by omega)
/-- an operator is laid on -/
theorem h_pi.op {s : Nat → Nat} {eW eS fk : Nat → Int32} {pi wi cd u p0 r : Nat} {c : Int32} (h : h_pi 0 s eW eS fk pi wi cd u p0) (hr : 1 ≤ r) (hr6 : r ≤ 6) (h3 : ¬ r = 3) (hc : h_isop c) (ht : 7 ≤ s (pi - 1) ∨ s (pi - 1) < r) : h_pi 1 (h_sup s pi r) (upd eW pi (nI r)) (upd eS pi c) fk (pi + 1) wi cd u p0 := by
  have hb := h.bnd
  obtain ⟨h1, hst, h7, h8, h9, h10, h11, h12, h13, h14⟩ := h
  have hbb := h13 rfl
  refine ⟨by omega, hst.push h1 hr (by omega) (fun e => absurd e h3) (fun _ _ => ⟨hc, ht⟩), ?_, h8, h9, ?_, h11, fun _ => by omega, fun h => absurd h (by decide), by decide⟩
  · show wi = h_mk (h_sup s pi r) pi + (if h_sup s pi r pi = 3 ∨ h_sup s pi r pi = 7 then 1 else 0)
    rw [h_mk_sup, h_sup_at, if_neg (by omega)]
    exact h7
  · rw [h10]
    congr 1
    omega
/-- a bracket (7) or a not (3) -/
theorem h_pi.mark {s : Nat → Nat} {eW eS fk : Nat → Int32} {pi wi cd u u' p0 r : Nat} (h : h_pi 1 s eW eS fk pi wi cd u p0) (hr : r = 3 ∨ r = 7) (hw : wi < 7) (hu : u ≤ u') (hu2 : u' ≤ 60) : h_pi 1 (h_sup s pi r) (upd eW pi (nI r)) (upd eS pi (nI 126)) fk (pi + 1) (wi + 1) cd u' p0 := by
  have hb := h.bnd
  obtain ⟨h1, hst, h7, h8, h9, h10, h11, h12, h13, h14⟩ := h
  have hbb := h12 rfl
  refine ⟨by omega, hst.push h1 (by omega) (by omega) (fun _ => rfl) (fun q1 q2 => by omega), ?_, by omega, h9, ?_, hu2, fun _ => by omega, fun h => absurd h (by decide), by decide⟩
  · show wi + 1 = h_mk (h_sup s pi r) pi + (if h_sup s pi r pi = 3 ∨ h_sup s pi r pi = 7 then 1 else 0)
    rw [h_mk_sup, h_sup_at, if_pos hr]
    omega
  · rw [h10]
    congr 1
    omega
/-- a letter -/
theorem h_pi.leaf {s : Nat → Nat} {eW eS fk : Nat → Int32} {pi wi cd u p0 : Nat} {c : Int32} (h : h_pi 1 s eW eS fk pi wi cd u p0) (hu : u < 60) (hc : h_let c = 1) (hc2 : ¬ c = nI 126) : h_pi 0 s eW eS (upd fk cd c) pi wi (cd + 1) (u + 1) p0 := by
  have hb := h.bnd
  obtain ⟨h1, hst, h7, h8, h9, h10, h11, h12, h13, h14⟩ := h
  have hbb := h12 rfl
  refine ⟨h1, hst, h7, h8, by omega, ?_, by omega, fun h => absurd h (by decide), fun _ => by omega, by decide⟩
  refine h_hs_step h9 h10 ?_
  rw [if_neg hc2, if_pos hc, if_pos (by omega)]
/-- a bracket's or the whole's end -/
theorem h_pi.close {s : Nat → Nat} {eW eS fk : Nat → Int32} {pi wi cd u p0 : Nat} (h : h_pi 0 s eW eS fk (pi + 1) wi cd u p0) (ht : 7 ≤ s pi) : (pi = 0 ∧ ¬ s pi = 7 ∧ ∃ x, h_hs fk p0 (cd - p0) = some x) ∨ (1 ≤ pi ∧ s pi = 7 ∧ 1 ≤ wi ∧ h_pi 0 s eW eS fk pi (wi - 1) cd u p0) := by
  have hb := h.bnd
  obtain ⟨h1, hst, h7, h8, h9, h10, h11, h12, h13, h14⟩ := h
  obtain ⟨s0, s1, s2, s3, s4, s5⟩ := id hst
  rcases Nat.eq_zero_or_pos pi with e | e
  · exact Or.inl ⟨e, by rw [e, s0]; decide, _, h10⟩
  · have e7 : s pi = 7 := by
      have := s2 pi e (by omega)
      omega
    have ew : wi = h_mk s pi + (if s pi = 3 ∨ s pi = 7 then 1 else 0) := h7
    rw [if_pos (Or.inr e7)] at ew
    have hbb := h13 rfl
    refine Or.inr ⟨e, e7, by omega, e, hst.sub (by omega), by omega, by omega, h9, ?_, h11, fun h => absurd h (by decide), fun _ => by omega, by decide⟩
    rw [h10]
    congr 1
    omega

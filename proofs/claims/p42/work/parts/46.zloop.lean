/-! ===== loops ===== -/
section ZT
variable {sa : Nat → Nat} {ad ts : List Nat} {vs vs' : List Value}
theorem z_v.low {n : Nat} {c : z_C} {v : Value} (h : z_v sa ad ts vs c v) (hv : ∀ k, k < n → vs'[k]? = vs[k]?) (hc : c.2.1 < n) : z_v sa ad ts vs' c v := by
  have e := hv _ hc
  unfold z_v
  rw [e]
  exact h
theorem z_v.one {c : z_C} {u v : Value} (h : z_v sa ad ts vs c u) (h2 : z_v sa ad ts vs c v) (hc : c.1 = 0 ∨ c.1 = 3) : u = v := by
  rcases hc with hc | hc
  · obtain ⟨_, x, -, rfl, -⟩ := id (h.int hc)
    obtain ⟨_, y, -, rfl, -⟩ := id (h2.int hc)
    rw [h.inj h2 hc]
  · obtain ⟨x, rfl, h3⟩ := h.lng hc
    obtain ⟨y, rfl, h4⟩ := h2.lng hc
    rcases h3 with ⟨h5, h6⟩ | ⟨h5, h6⟩
    · rcases h4 with ⟨h7, h8⟩ | ⟨h7, h8⟩
      · rw [h6, h8]
      · omega
    · rcases h4 with ⟨h7, h8⟩ | ⟨h7, h8⟩
      · omega
      · rw [h6] at h8
        cases h8
        rfl
/-- a code of the template, back -/
theorem z_sb_s {n m : Nat} {th : List z_C} {u : List Value} {c : z_C} {v : Value} (hn : 1 ≤ n) (hm : th.length = m) (hu : z_Sr sa ad ts vs th u) (hlow : ∀ k, k < n → vs'[k]? = vs[k]?) (hnew : ∀ q, q < m → vs'[n + q]? = u[q]?) (h : z_v sa ad ts vs (z_sb n m th c) v) : z_v sa ad ts vs' c v := by
  unfold z_sb at h
  cases h1 : Nat.blt c.2.1 n with
  | true =>
    rw [q_ift _ _ h1] at h
    exact h.low hlow (q_blt.mp h1)
  | false =>
    rw [q_iff _ _ h1] at h
    have h1 : ¬ c.2.1 < n := fun h9 => by rw [q_blt.mpr h9] at h1; cases h1
    have h8 : ∀ v, ¬ z_v sa ad ts vs (8, 0, 0) v := fun v hv => by
      rcases hv with ⟨h9, _⟩ | ⟨h9, _⟩ | ⟨h9, _⟩ | ⟨h9, _⟩ | ⟨h9, _⟩ <;> cases h9
    cases h2 : (Nat.blt c.2.1 (Nat.add n m) && (z_ceq c (0, c.2.1, 2147483648) || z_ceq c (3, c.2.1, 0))) with
    | false =>
      rw [q_iff _ _ h2] at h
      exact absurd h (h8 v)
    | true =>
      rw [q_ift _ _ h2] at h
      obtain ⟨h2, h3⟩ := q_ands h2
      have h2 : c.2.1 < n + m := q_blt.mp h2
      generalize hq : Nat.sub c.2.1 n = q at h
      have hq : c.2.1 - n = q := hq
      have hq2 : c.2.1 = n + q := by omega
      have h : z_v sa ad ts vs (bif Nat.beq (z_nth th q).1 c.1 then z_nth th q else (8, 0, 0)) v := h
      cases h4 : Nat.beq (z_nth th q).1 c.1 with
      | false =>
        rw [q_iff _ _ h4] at h
        exact absurd h (h8 v)
      | true =>
        rw [q_ift _ _ h4] at h
        have h4 := q_beq.mp h4
        have hc03 : c.1 = 0 ∨ c.1 = 3 := by
          rcases q_ors h3 with h5 | h5
          · rw [z_ceq_eq h5]; exact Or.inl rfl
          · rw [z_ceq_eq h5]; exact Or.inr rfl
        obtain ⟨w, hw1, hw2⟩ := hu.nth q (by omega)
        have ew := h.one hw2 (by omega)
        subst ew
        have hv9 : vs'[c.2.1]? = some v := by rw [hq2, hnew q (by omega)]; exact hw1
        rcases q_ors h3 with h5 | h5
        · have h5 := z_ceq_eq h5
          rw [h5] at h4 ⊢
          obtain ⟨_, y, -, rfl, -⟩ := id (h.int h4)
          exact Or.inl ⟨rfl, y, y, hv9, rfl, rfl⟩
        · have h5 := z_ceq_eq h5
          rw [h5] at h4 ⊢
          obtain ⟨x, rfl, -⟩ := h.lng h4
          exact Or.inr (Or.inr (Or.inr (Or.inl ⟨rfl, Or.inr ⟨by show ¬ c.2.1 = 0; omega, hv9, x, rfl⟩⟩)))
theorem z_mL_s {n m : Nat} {th : List z_C} : ∀ {T L : List z_C}, z_mL n m th T L = true → T.length = L.length ∧ ∀ (j : Nat) (c : z_C), T[j]? = some c → c.1 = 9 ∨ L[j]? = some (z_sb n m th c)
  | [], [], _ => ⟨rfl, fun j c h => by cases h⟩
  | [], _ :: _, h => by cases h
  | _ :: _, [], h => by cases h
  | t :: T, d :: L, h => by
    have h : ((Nat.beq t.1 9 || z_ceq (z_sb n m th t) d) && z_mL n m th T L) = true := h
    obtain ⟨h1, h2⟩ := q_ands h
    obtain ⟨h3, h4⟩ := z_mL_s h2
    refine ⟨by rw [List.length_cons, List.length_cons, h3], fun j c hj => ?_⟩
    match j, hj with
    | 0, hj =>
      cases hj
      rcases q_ors h1 with h5 | h5
      · exact Or.inl (q_beq.mp h5)
      · exact Or.inr (by rw [z_ceq_eq h5]; rfl)
    | j + 1, hj => exact h4 j c hj
end ZT

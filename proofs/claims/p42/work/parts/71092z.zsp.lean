/-! ===== an answer that is 0 or 1 ===== -/
theorem z_split {l : Launch} {base : Nat} {D : va_G} {sa : Nat → Nat} {J : va_W → List Nat → Prop} {x m d : Nat} {as : List z_C} {pre post : List (Nat × Nat × z_C)} {ks : List z_C} (h : z_Con l base D sa z_tt J (x, as, pre, ks, m, d, true, [(0, 2147483648, 2147483649)], post)) : z_Con l base D sa z_tt J (x, as, pre, ks, m, d, true, [(0, 2147483648, 2147483648), (0, 2147483649, 2147483649)], post) := by
  intro ws ts av bv h1 h2 h3
  refine (h ws ts av bv h1 h2 h3).imp (fun v ws' ts' hp => ⟨?_, hp.2⟩)
  have hp1 := hp.1
  rw [if_pos rfl] at hp1 ⊢
  obtain ⟨t, t1, r, rfl, t2⟩ := hp1
  rcases List.mem_singleton.mp t1 with rfl
  obtain ⟨y, rfl, y1, y2⟩ := h_tvi t2
  rcases Nat.lt_or_ge (q_qb y) 2147483649 with h9 | h9
  · exact ⟨_, List.mem_cons_self, _, rfl, Or.inl ⟨rfl, y, rfl, y1, Nat.le_of_lt_succ h9⟩⟩
  · exact ⟨_, List.mem_cons_of_mem _ (List.mem_singleton.mpr rfl), _, rfl, Or.inl ⟨rfl, y, rfl, h9, y2⟩⟩

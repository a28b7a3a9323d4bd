/-! ===== guard: all its calls ===== -/
theorem z_rr : ∀ a, a < 16 → ∃ rs, z_ra a rs = true := (lt_s (i := 15) (lt_s (i := 14) (lt_s (i := 13) (lt_s (i := 12) (lt_s (i := 11) (lt_s (i := 10) (lt_s (i := 9) (lt_s (i := 8) (lt_s (i := 7) (lt_s (i := 6) (lt_s (i := 5) (lt_s (i := 4) (lt_s (i := 3) (lt_s (i := 2) (lt_s (i := 1) (lt_s (i := 0) lt_0 ⟨z_rs0, z_r0⟩) ⟨z_rs1, z_r1⟩) ⟨z_rs2, z_r2⟩) ⟨z_rs3, z_r3⟩) ⟨z_rs4, z_r4⟩) ⟨z_rs5, z_r5⟩) ⟨z_rs6, z_r6⟩) ⟨z_rs7, z_r7⟩) ⟨z_rs8, z_r8⟩) ⟨z_rs9, z_r9⟩) ⟨z_rs10, z_r10⟩) ⟨z_rs11, z_r11⟩) ⟨z_rs12, z_r12⟩) ⟨z_rs13, z_r13⟩) ⟨z_rs14, z_r14⟩) ⟨z_rs15, z_r15⟩)
theorem z_o1 : (q_bxt [] 66 67 [] [(0, 2147483647), (0, 4294967295), (0, 4294967295)] && q_bxt [] 66 67 [] [(2147483664, 4294967295), (0, 4294967295), (0, 4294967295)]) = true := by decide +kernel
theorem z_o2 : z_al (fun a => q_bxt [] 66 67 [] [(Nat.add a 2147483648, Nat.add a 2147483648), (0, 2147483647), (0, 4294967295)] && (q_bxt [] 66 67 [] [(Nat.add a 2147483648, Nat.add a 2147483648), (2147483664, 4294967295), (0, 4294967295)] && q_bxt [] 66 67 [] [(Nat.add a 2147483648, Nat.add a 2147483648), (Nat.add a 2147483648, Nat.add a 2147483648), (0, 4294967295)])) 16 = true := by decide +kernel
theorem z_op {mem : q_M} {i1 i2 : Nat} (xs : Nat → Int32) (bs : List q_Bx) (hn : bs.length ≤ 5) (hi : q_inb xs bs 1) (hb : q_bxt mem i1 i2 [] bs = true) : q_Op mem i1 i2 xs (q_xa xs bs.length 1) := by
  have key : ∀ (bs : List q_Bx) (j : Nat), j + bs.length ≤ 13 → q_inb xs bs j → q_S xs [] (q_bcs bs j) (q_xa xs bs.length j) ∧ ∀ c ∈ q_bcs bs j, ¬ c = 4294967314 := by
    intro bs
    induction bs with
    | nil => intro j _ _; exact ⟨trivial, fun _ h => by cases h⟩
    | cons b t ih =>
      intro j hj h
      have hb := q_bc_ok (xs := xs) (b := b) (j := j) [] (by simp at hj; omega) h.1
      have ht := ih (j + 1) (by simp at hj; omega) h.2
      refine ⟨⟨hb.1, ht.1⟩, fun c hc => ?_⟩
      rcases List.mem_cons.mp (show c ∈ q_bc j b :: q_bcs t (j + 1) from hc) with rfl | hc
      · exact hb.2
      · exact ht.2 c hc
  obtain ⟨k1, k2⟩ := key bs 1 (by omega) hi
  have hb : q_two (q_brg bs) mem i1 i2 (q_bcs bs 1 ++ []) = true := hb
  rw [List.append_nil] at hb
  exact ⟨q_brg bs, q_bcs bs 1, q_brg_ok hi, k1, k2, hb⟩
theorem z_i3 {xs : Nat → Int32} {a b c : q_Bx} (h1 : a.1 ≤ q_qb (xs 1) ∧ q_qb (xs 1) ≤ a.2 ∧ a.2 ≤ 4294967295) (h2 : b.1 ≤ q_qb (xs 2) ∧ q_qb (xs 2) ≤ b.2 ∧ b.2 ≤ 4294967295) (h3 : c.1 ≤ q_qb (xs 3) ∧ q_qb (xs 3) ≤ c.2 ∧ c.2 ≤ 4294967295) : q_inb xs [a, b, c] 1 := ⟨h1, h2, h3, trivial⟩
theorem z_op_guard (xs : Nat → Int32) : ∃ mem, (∀ (l : Launch) (base : Nat) (D : va_G) (env : Nat → Int32), ∀ e ∈ mem, q_Met l base D env 5 e.1 e.2.1 e.2.2.1 e.2.2.2.1 e.2.2.2.2) ∧ q_Op mem 66 67 xs (q_xa xs 3 1) := by
  have u1 := q_qb_hi (xs 1)
  have u2 := q_qb_hi (xs 2)
  have u3 := q_qb_hi (xs 3)
  have nil : ∀ (l : Launch) (base : Nat) (D : va_G) (env : Nat → Int32), ∀ e ∈ ([] : q_M), q_Met l base D env 5 e.1 e.2.1 e.2.2.1 e.2.2.2.1 e.2.2.2.2 := fun _ _ _ _ _ h => by cases h
  have al2 : (0, 4294967295).1 ≤ q_qb (xs 2) ∧ q_qb (xs 2) ≤ (0, 4294967295).2 ∧ (0, 4294967295).2 ≤ 4294967295 := ⟨Nat.zero_le _, u2, Nat.le_refl _⟩
  have al3 : (0, 4294967295).1 ≤ q_qb (xs 3) ∧ q_qb (xs 3) ≤ (0, 4294967295).2 ∧ (0, 4294967295).2 ≤ 4294967295 := ⟨Nat.zero_le _, u3, Nat.le_refl _⟩
  obtain ⟨o1, o2⟩ := q_ands z_o1
  generalize e1 : q_qb (xs 1) = v1 at *
  generalize e2 : q_qb (xs 2) = v2 at *
  generalize e3 : q_qb (xs 3) = v3 at *
  by_cases h1 : v1 < 2147483648
  · exact ⟨[], nil, z_op xs [(0, 2147483647), (0, 4294967295), (0, 4294967295)] (show 3 ≤ 5 by decide) (z_i3 (by rw [e1]; exact ⟨Nat.zero_le _, Nat.le_of_lt_succ h1, by decide⟩) (by rw [e2]; exact al2) (by rw [e3]; exact al3)) o1⟩
  by_cases h2 : 2147483664 ≤ v1
  · exact ⟨[], nil, z_op xs [(2147483664, 4294967295), (0, 4294967295), (0, 4294967295)] (show 3 ≤ 5 by decide) (z_i3 (by rw [e1]; exact ⟨h2, u1, by decide⟩) (by rw [e2]; exact al2) (by rw [e3]; exact al3)) o2⟩
  obtain ⟨a, ha, ea⟩ : ∃ a, a < 16 ∧ v1 = Nat.add a 2147483648 := ⟨v1 - 2147483648, by omega, by rw [Nat.add_eq]; omega⟩
  have A1 : (Nat.add a 2147483648, Nat.add a 2147483648).1 ≤ v1 ∧ v1 ≤ (Nat.add a 2147483648, Nat.add a 2147483648).2 ∧ (Nat.add a 2147483648, Nat.add a 2147483648).2 ≤ 4294967295 := ⟨Nat.le_of_eq ea.symm, Nat.le_of_eq ea, by rw [← ea]; exact u1⟩
  have o3 := z_al_ok z_o2 a ha
  obtain ⟨o3, o4⟩ := q_ands o3
  obtain ⟨o4, o5⟩ := q_ands o4
  by_cases h3 : v2 < 2147483648
  · exact ⟨[], nil, z_op xs [(Nat.add a 2147483648, Nat.add a 2147483648), (0, 2147483647), (0, 4294967295)] (show 3 ≤ 5 by decide) (z_i3 (by rw [e1]; exact A1) (by rw [e2]; exact ⟨Nat.zero_le _, Nat.le_of_lt_succ h3, by decide⟩) (by rw [e3]; exact al3)) o3⟩
  by_cases h4 : 2147483664 ≤ v2
  · exact ⟨[], nil, z_op xs [(Nat.add a 2147483648, Nat.add a 2147483648), (2147483664, 4294967295), (0, 4294967295)] (show 3 ≤ 5 by decide) (z_i3 (by rw [e1]; exact A1) (by rw [e2]; exact ⟨h4, u2, by decide⟩) (by rw [e3]; exact al3)) o4⟩
  obtain ⟨b, hb, eb⟩ : ∃ b, b < 16 ∧ v2 = Nat.add b 2147483648 := ⟨v2 - 2147483648, by omega, by rw [Nat.add_eq]; omega⟩
  have B1 : (Nat.add b 2147483648, Nat.add b 2147483648).1 ≤ v2 ∧ v2 ≤ (Nat.add b 2147483648, Nat.add b 2147483648).2 ∧ (Nat.add b 2147483648, Nat.add b 2147483648).2 ≤ 4294967295 := ⟨Nat.le_of_eq eb.symm, Nat.le_of_eq eb, by rw [← eb]; exact u2⟩
  by_cases h5 : a = b
  · subst h5
    exact ⟨[], nil, z_op xs [(Nat.add a 2147483648, Nat.add a 2147483648), (Nat.add a 2147483648, Nat.add a 2147483648), (0, 4294967295)] (show 3 ≤ 5 by decide) (z_i3 (by rw [e1]; exact A1) (by rw [e2]; exact B1) (by rw [e3]; exact al3)) o5⟩
  obtain ⟨rs, hrs⟩ := z_rr a ha
  have hr := z_al_ok hrs b hb
  have hr : (bif Nat.beq a b then true else z_row a b (q_nth rs ([], 0) b)) = true := hr
  rw [q_iff _ _ (q_bneq.mpr h5)] at hr
  generalize q_nth rs ([], 0) b = r at hr
  obtain ⟨r1, r2⟩ := q_ands hr
  obtain ⟨r2, r3⟩ := q_ands r2
  obtain ⟨w1, r3⟩ := q_ands r3
  obtain ⟨w2, r3⟩ := q_ands r3
  obtain ⟨w3, w4⟩ := q_ands r3
  refine ⟨z_mem a b r.1 r.2, fun l base D env e he => ?_, ?_⟩
  · rcases List.mem_cons.mp (show e ∈ (180, [4294967376, a, b], q_h0, zh z_top, [r.2]) :: z_me a b r.1 0 from he) with rfl | he
    · obtain ⟨N, _, k⟩ := c180 (D := 2) ha hb (z_cka b hb)
      rw [q_beq.mp r2] at k
      exact z_mt (z_met l base D env (x := 180) (by decide) (show 3 ≤ q_ml 180 by decide) (z_hc (by decide) (z_hc (z_ne (by omega)) (z_hc (z_ne (by omega)) z_hn))) k)
    · exact z_me_ok l base D env ha hb r.1 0 r1 e he
  · by_cases g1 : v3 < 2147483648
    · exact z_op xs [(Nat.add a 2147483648, Nat.add a 2147483648), (Nat.add b 2147483648, Nat.add b 2147483648), (0, 2147483647)] (show 3 ≤ 5 by decide) (z_i3 (by rw [e1]; exact A1) (by rw [e2]; exact B1) (by rw [e3]; exact ⟨Nat.zero_le _, Nat.le_of_lt_succ g1, by decide⟩)) w1
    by_cases g2 : v3 = 2147483648
    · exact z_op xs [(Nat.add a 2147483648, Nat.add a 2147483648), (Nat.add b 2147483648, Nat.add b 2147483648), (2147483648, 2147483648)] (show 3 ≤ 5 by decide) (z_i3 (by rw [e1]; exact A1) (by rw [e2]; exact B1) (by rw [e3]; exact ⟨Nat.le_of_eq g2.symm, Nat.le_of_eq g2, by decide⟩)) w2
    by_cases g3 : v3 = 2147483649
    · exact z_op xs [(Nat.add a 2147483648, Nat.add a 2147483648), (Nat.add b 2147483648, Nat.add b 2147483648), (2147483649, 2147483649)] (show 3 ≤ 5 by decide) (z_i3 (by rw [e1]; exact A1) (by rw [e2]; exact B1) (by rw [e3]; exact ⟨Nat.le_of_eq g3.symm, Nat.le_of_eq g3, by decide⟩)) w3
    exact z_op xs [(Nat.add a 2147483648, Nat.add a 2147483648), (Nat.add b 2147483648, Nat.add b 2147483648), (2147483650, 4294967295)] (show 3 ≤ 5 by decide) (z_i3 (by rw [e1]; exact A1) (by rw [e2]; exact B1) (by rw [e3]; exact ⟨(by omega : 2147483650 ≤ v3), u3, by decide⟩)) w4

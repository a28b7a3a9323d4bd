/-! ===== the links of what p1 has not ===== -/
def z_tl : List (q_Q3 × Nat) := [((4, 217, 0), 576), ((9, 170, 1), 1464), ((9, 174, 3), 1466), ((9, 176, 4), 1467), ((9, 184, 8), 1471), ((9, 186, 9), 1472), ((9, 188, 10), 1473), ((9, 172, 2), 1465), ((9, 178, 5), 1468), ((9, 180, 6), 1469), ((9, 182, 7), 1470), ((9, 190, 11), 1474), ((9, 192, 12), 1475), ((9, 194, 13), 1476), ((9, 196, 14), 1477), ((9, 198, 15), 1478), ((9, 200, 16), 1479), ((9, 202, 17), 1480), ((9, 204, 18), 1481)]
def z_tx : List (q_Q3 × Nat) := [((4, 212, 2), 634), ((4, 221, 0), 578), ((4, 224, 1), 588)]
theorem z_tl_ok : z_tl.all (fun t => q_wat t.2 (Cond.constantLong (q_own t.1.1) t.1.2.1 (z_lcv t.1.2.2))) = true := by decide +kernel
theorem z_tx_ok : z_tx.all (fun t => q_wat t.2 (Cond.methodLink (q_own t.1.1) t.1.2.1 (z_txm t.1.2.2))) = true := by decide +kernel
def z_chk (i pc ln : Nat) (ins : Instr) (x y z : Nat) : Bool := match ins with
  | .ldc n => not (Nat.beq z 99) || (Nat.beq y 0 || (Nat.beq ln 2 && (decide (q_own (q_on i) = "SandNights$Reader") && ((Nat.beq y 1 && Nat.beq n 219) || (Nat.beq y 2 && Nat.beq n 210)))))
  | .ldc2_w n => Nat.beq z 99 || (Nat.beq ln 3 && q_m3 z_tl (q_on i) n x)
  | .lconst n => decide (ln = 1 ∧ Int64.ofNat (n : Nat) = z_lcv x)
  | .lload_n n => decide (ln = 1 ∧ (n : Nat) = x)
  | .lstore_n n => decide (ln = 1 ∧ (n : Nat) = x ∧ x + 1 < q_ml i)
  | .lookupswitch df ps => decide ((ps.toList.zip (ps.toList.drop 1)).all (fun (a, next) => a.1 < next.1) = true ∧ 0 ≤ (pc : Int) + df ∧ ∀ o ∈ ps.toList, 0 ≤ o.1 ∧ o.1 < 2147483648 ∧ 0 ≤ (pc : Int) + o.2)
  | .laload | .lastore | .lcmp | .i2l | .i2c | .lmul | .ladd | .lor | .lshl => Nat.beq ln 1
  | .invokevirtual n => not (Nat.beq z 99) || (not (Nat.beq y 88) || (Nat.beq ln 3 && (Nat.blt x 3 && q_m3 z_tx (q_on i) n x)))
  | _ => true
theorem z_chk_ok {i pc ln : Nat} {ins : Instr} {x y z : Nat} (hi : i < 281) (h : z_chk i pc ln ins x y z = true) : z_lnk i pc ln ins x y z := by
  have hon := q_on_ok i hi
  cases ins
  case ldc n =>
    intro hz s hs
    have h : (not (Nat.beq z 99) || (Nat.beq y 0 || (Nat.beq ln 2 && (decide (q_own (q_on i) = "SandNights$Reader") && ((Nat.beq y 1 && Nat.beq n 219) || (Nat.beq y 2 && Nat.beq n 210)))))) = true := h
    subst hz
    subst hs
    rcases q_ors h with h | h
    · cases h
    · rcases q_ors h with h | h
      · cases h
      · obtain ⟨h1, h2⟩ := q_ands h
        obtain ⟨h2, h3⟩ := q_ands h2
        refine ⟨q_beq.mp h1, hon.trans (of_decide_eq_true h2), ?_⟩
        rcases q_ors h3 with h4 | h4
        · obtain ⟨h4, h5⟩ := q_ands h4
          have h4 := q_beq.mp h4
          exact Or.inl ⟨by omega, q_beq.mp h5⟩
        · obtain ⟨h4, h5⟩ := q_ands h4
          have h4 := q_beq.mp h4
          exact Or.inr ⟨by omega, q_beq.mp h5⟩
  case ldc2_w n =>
    have h : (Nat.beq z 99 || (Nat.beq ln 3 && q_m3 z_tl (q_on i) n x)) = true := h
    rcases q_ors h with h | h
    · exact Or.inl (q_beq.mp h)
    · obtain ⟨h1, h2⟩ := q_ands h
      obtain ⟨p, hp⟩ := q_m3_ok h2
      have := q_wat_ok (List.all_eq_true.mp z_tl_ok _ hp)
      refine Or.inr ⟨q_beq.mp h1, ?_⟩
      rw [hon]
      exact this
  case lconst n =>
    have h : decide (ln = 1 ∧ Int64.ofNat (n : Nat) = z_lcv x) = true := h
    have h2 := of_decide_eq_true h
    exact h2
  case lload_n n =>
    have h : decide (ln = 1 ∧ (n : Nat) = x) = true := h
    have h2 := of_decide_eq_true h
    exact h2
  case lstore_n n =>
    have h : decide (ln = 1 ∧ (n : Nat) = x ∧ x + 1 < q_ml i) = true := h
    have h2 := of_decide_eq_true h
    exact h2
  case lookupswitch df ps =>
    have h : decide ((ps.toList.zip (ps.toList.drop 1)).all (fun (a, next) => a.1 < next.1) = true ∧ 0 ≤ (pc : Int) + df ∧ ∀ o ∈ ps.toList, 0 ≤ o.1 ∧ o.1 < 2147483648 ∧ 0 ≤ (pc : Int) + o.2) = true := h
    have h2 := of_decide_eq_true h
    exact h2
  case invokevirtual n =>
    intro hz hy
    have h : (not (Nat.beq z 99) || (not (Nat.beq y 88) || (Nat.beq ln 3 && (Nat.blt x 3 && q_m3 z_tx (q_on i) n x)))) = true := h
    subst hz
    subst hy
    rcases q_ors h with h | h
    · cases h
    · rcases q_ors h with h | h
      · cases h
      · obtain ⟨h1, h2⟩ := q_ands h
        obtain ⟨h2, h3⟩ := q_ands h2
        obtain ⟨p, hp⟩ := q_m3_ok h3
        have := q_wat_ok (List.all_eq_true.mp z_tx_ok _ hp)
        refine ⟨q_beq.mp h1, q_blt.mp h2, ?_⟩
        rw [hon]
        exact this
  all_goals first
    | exact trivial
    | (have h : Nat.beq ln 1 = true := h; have h2 := q_beq.mp h; exact h2)
theorem z_lk_all : (List.range 281).all (fun i => (q_code i).all (fun e => z_chk i e.1 e.2.1 e.2.2.1 e.2.2.2.1 e.2.2.2.2.1 e.2.2.2.2.2)) = true := by decide +kernel
theorem z_hlk : ∀ i, i < q_nM → ∀ e ∈ q_code i, z_lnk i e.1 e.2.1 e.2.2.1 e.2.2.2.1 e.2.2.2.2.1 e.2.2.2.2.2 := by
  intro i hi e he
  have hi : i < 281 := hi
  have h1 := List.all_eq_true.mp z_lk_all i (List.mem_range.mpr hi)
  exact z_chk_ok hi (List.all_eq_true.mp h1 e he)

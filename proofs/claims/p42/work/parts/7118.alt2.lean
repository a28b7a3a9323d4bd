/-! ===== ends with an answer, one of several sorts ===== -/
def z_mst2 (M : z_M) (ps : List (Nat × Nat × z_C)) : z_M := (M.1, M.2.1, M.2.2.1, M.2.2.2.1, M.2.2.2.2.1, M.2.2.2.2.2.1, M.2.2.2.2.2.2.1, M.2.2.2.2.2.2.2.1, ps)
noncomputable def z_alt2k (M : z_M) (cs : List z_C) (o : z_O) (R : z_R) : Bool := z_oks (z_mst2 M R.1) cs o && (z_all (fun q => z_rl1 cs o q) R.2.1 && z_all (fun q => z_pb1 cs o q) R.2.2)
def z_alt2P (M : z_M) (bv : List Value) (v : Option Value) (ws : va_W) (ts : List Nat) (R : z_R) : Prop := z_CP (z_mst2 M R.1) bv v ws ts ∧ (∀ q ∈ R.2.1, ∃ (a j : Nat) (e : va_E) (y y0 : Int32), bv[q.1]? = some (.ref a) ∧ ws[j]? = some (a, e) ∧ z_at e q.2.1 = some (.int y) ∧ bv[q.2.2.1]? = some (.int y0) ∧ q_qb y = q_qb y0 + q.2.2.2) ∧ ∀ q ∈ R.2.2, ∃ y0 : Int32, bv[q.1]? = some (.int y0) ∧ q.2.2.1 ≤ q_qb y0 ∧ q_qb y0 ≤ q.2.2.2
section ZA
variable {sa : Nat → Nat} {tt : Nat → z_T} {M : z_M} {cs : List z_C} {o : z_O} {ad ts0 : List Nat} {ws : va_W} {ts : List Nat} {vs vs' bv : List Value} {v : Option Value}
theorem z_alt2_s {R : z_R} (h : z_alt2k M cs o R = true) (hv : z_Sv sa tt vs ws ts o.2.1 vs') (hs : z_Sr sa (q_ad ws) ts vs' o.2.2.2 v.toList) (hcs : z_Sr sa ad ts0 vs cs bv) : z_alt2P M bv v ws ts R := by
  obtain ⟨h1, h2⟩ := q_ands h
  obtain ⟨h2, h3⟩ := q_ands h2
  refine ⟨z_oks_s (v := v) h1 hv hs hcs, fun q hq => ?_, fun q hq => ?_⟩
  · have g := z_all_iff.mp h2 q hq
    obtain ⟨g1, g⟩ := q_ands g
    obtain ⟨g2, g⟩ := q_ands g
    obtain ⟨g3, g⟩ := q_ands g
    have g1 := q_beq.mp g1
    have g2 := q_ble.mp g2
    have g3 := q_beq.mp g3
    obtain ⟨pc, V, L, S⟩ := o
    cases hf : z_fg V.2.2.2.1 (z_nth cs q.1).2.1 (z_kc q.2.1) with
    | none =>
      have g : (match z_fg V.2.2.2.1 (z_nth cs q.1).2.1 (z_kc q.2.1) with
        | none => false
        | some c => Nat.beq c.1 0 && (Nat.beq c.2.1 (z_nth cs q.2.2.1).2.1 && Nat.beq c.2.2 (Nat.add (z_nth cs q.2.2.1).2.2 q.2.2.2))) = true := g
      rw [hf] at g
      cases g
    | some c =>
      have g : (match z_fg V.2.2.2.1 (z_nth cs q.1).2.1 (z_kc q.2.1) with
        | none => false
        | some c => Nat.beq c.1 0 && (Nat.beq c.2.1 (z_nth cs q.2.2.1).2.1 && Nat.beq c.2.2 (Nat.add (z_nth cs q.2.2.1).2.2 q.2.2.2))) = true := g
      rw [hf] at g
      obtain ⟨g4, g⟩ := q_ands g
      obtain ⟨g5, g6⟩ := q_ands g
      have g4 := q_beq.mp g4
      have g5 := q_beq.mp g5
      have g6 := q_beq.mp g6
      rw [Nat.add_eq] at g6
      obtain ⟨f, f1, f2, f3, f4⟩ := z_fg_s hf
      obtain ⟨a, j, k, e, y, r, c1, c2, c3, c4, c5, c6, c7, c8⟩ := hv.2.2.1 f f1
      obtain ⟨w, hw1, hw2⟩ := hcs.nth q.1 (by omega)
      have hva := z_gm hv.1 (hw2.ref g1).1
      rw [f2, hva] at c1
      cases c1
      obtain ⟨u1, u2⟩ := z_kc_v (sa := sa) (ad := q_ad ws) (ts := ts) hv.2.1 (show q.2.1 < 2147483648 by omega)
      rw [f3] at c4
      have ey := c4.inj u1 rfl
      subst ey
      have ek : k = q.2.1 := by omega
      subst ek
      rw [f4] at c8
      obtain ⟨x1, y1, d1, rfl, d2⟩ := c8.int g4
      obtain ⟨w2, hw3, hw4⟩ := hcs.nth q.2.2.1 (by omega)
      obtain ⟨x2, y2, d3, rfl, d4⟩ := hw4.int g3
      have d5 := z_gm hv.1 d3
      rw [g5, d5] at d1
      cases d1
      exact ⟨a, j, e, y1, y2, hw1, c2, c7, hw3, by omega⟩
  · have g := z_all_iff.mp h3 q hq
    obtain ⟨g1, g⟩ := q_ands g
    obtain ⟨g2, g3⟩ := q_ands g
    have g1 := q_beq.mp g1
    have g2 := q_ble.mp g2
    have g3 := q_ble.mp g3
    obtain ⟨w, hw1, hw2⟩ := hcs.nth q.1 (by omega)
    obtain ⟨x2, y2, d3, rfl, d4⟩ := hw2.int g1
    have d5 := z_gm hv.1 d3
    have d6 := hv.2.1.2.2 _ _ d5
    have d6 : q_get o.2.1.2.1 (z_nth cs q.1).2.1 ≤ q_qb x2 ∧ q_qb x2 ≤ q_get o.2.1.2.2.1 (z_nth cs q.1).2.1 := d6
    rw [z_il_eq] at g2
    rw [z_ih_eq] at g3
    exact ⟨y2, hw1, by omega, by omega⟩
end ZA

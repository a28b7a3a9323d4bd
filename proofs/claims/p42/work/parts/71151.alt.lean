/-! ===== ends of a run: a return, one of several ends, what the locals hold ===== -/
theorem y_rend {sa : Nat → Nat} {X : y_X} {M : z_M} {o : z_O} {vs2 vs' sv : List Value} {ls' : Array Slot} {ws' : va_W} {ts' : List Nat} {post : Option Value → va_W → List Nat → Prop} (hok : ∀ i, i < q_nM → q_mok i) (hC : y_C X) (hQ : y_end X post) (hx : y_i X = M.1) (hx2 : M.1 < q_nM) (hd : y_d X = (M.2.2.2.2.2.1, M.2.2.2.2.1)) (hrk : z_rk2 q_code M.1 M.2.2.2.2.1 o = true) (hv' : z_Sv sa z_tt vs2 ws' ts' o.2.1 vs') (hL' : z_Lr sa (q_ad ws') ts' vs' o.2.2.1 (q_ml M.1) ls') (hs' : z_Sr sa (q_ad ws') ts' vs' o.2.2.2 sv) (hq2 : ∀ v : Option Value, v.toList = sv → post v ws' ts') : y_V X o.2.1.2.2.2.2.2 o.1 ls' sv ws' ts' := by
  obtain ⟨hrok, hnar⟩ := q_ands hrk
  have hY0 : ∀ {n : Nat} {st : List Value}, n = o.2.1.2.2.2.2.2 → Y X n o.1 (List.replicate (q_ml (y_i X)) none) st ws' ts' → y_V X o.2.1.2.2.2.2.2 o.1 ls' st ws' ts' := fun hn hy => by
    subst hn
    obtain ⟨lv, l1, -⟩ := hL'.2
    exact v_of hy (y_L0 (by rw [hx]; exact l1))
  have hrok : (match q_jm (q_code M.1) o.1 with
    | [] => false
    | e :: _ => Nat.ble o.2.1.2.2.2.2.2 M.2.2.2.2.1 && (match e.2.2.1 with
      | .return_ => (match o.2.2.2 with
        | [] => true
        | _ => false)
      | .ireturn => (match o.2.2.2 with
        | [c] => Nat.beq c.1 0 && (Nat.beq e.2.2.2.1 0 || (Nat.beq e.2.2.2.1 1 && (z_po o.2.1 c && Nat.ble (z_ih o.2.1 c) 2147483649)))
        | _ => false)
      | .areturn => (match o.2.2.2 with
        | [c] => Nat.beq c.1 1
        | _ => false)
      | _ => false)) = true := hrok
  have hnar : (match q_jm (q_code M.1) o.1 with
    | [] => false
    | e :: _ => (match e.2.2.1 with
      | .areturn => false
      | _ => true)) = true := hnar
  cases hj : q_jm (q_code M.1) o.1 with
  | nil => rw [hj] at hrok; cases hrok
  | cons e0 rr =>
    rw [hj] at hrok hnar
    obtain ⟨hmem, hpc⟩ := z_jm_mem hj
    have E := y_at hok hx2 hmem
    obtain ⟨hle, hr2⟩ := q_ands hrok
    have hle := q_ble.mp hle
    have hle : o.2.1.2.2.2.2.2 ≤ (y_d X).2 := by rw [hd]; exact hle
    rw [← hx] at E
    clear hrok
    obtain ⟨pc0, V0, L0, S0⟩ := o
    obtain ⟨b0, ln0, ins0, x0, y0, z0⟩ := e0
    have hpc : b0 = pc0 := hpc
    subst hpc
    cases ins0 with
    | return_ =>
      match S0, hr2, hs' with
      | _ :: _, hr2, _ => cases hr2
      | [], _, hs' =>
        have h9 := hs'.nil
        subst h9
        exact hY0 rfl (y_vr hC hQ E hle (hq2 none rfl))
    | ireturn =>
      match S0, hr2, hs' with
      | [], hr2, _ => cases hr2
      | _ :: _ :: _, hr2, _ => cases hr2
      | [b], hr2, hs' =>
        obtain ⟨vb, sv1, rfl, hvb, hs1⟩ := hs'.cons
        have h9 := hs1.nil
        subst h9
        have hr2 : (Nat.beq b.1 0 && (Nat.beq x0 0 || (Nat.beq x0 1 && (z_po V0 b && Nat.ble (z_ih V0 b) 2147483649)))) = true := hr2
        obtain ⟨kb, hr3⟩ := q_ands hr2
        have kb := q_beq.mp kb
        obtain ⟨_, xb, -, rfl, -⟩ := id (hvb.int kb)
        rcases q_ors hr3 with h | h
        · have h := q_beq.mp h
          subst h
          exact hY0 rfl (y_ir hC hQ E hle (hq2 (some (.int xb)) rfl))
        · obtain ⟨h, h5⟩ := q_ands h
          have h := q_beq.mp h
          subst h
          obtain ⟨w, hw, rfl⟩ := z_bool01 hv'.2.1 hvb kb (q_ands h5).1 (q_ands h5).2
          exact hY0 rfl (y_zr hC hQ E hle hw (hq2 (some (.int (nI w))) rfl))
    | areturn => cases hnar
    | _ => cases hr2
abbrev z_R : Type := List (Nat × Nat × z_C) × List (Nat × Nat × Nat × Nat) × List (Nat × z_C)
noncomputable def z_rl1 (cs : List z_C) (o : z_O) (q : Nat × Nat × Nat × Nat) : Bool := Nat.beq (z_nth cs q.1).1 1 && (Nat.ble q.2.1 100000 && (Nat.beq (z_nth cs q.2.2.1).1 0 && (match z_fg o.2.1.2.2.2.1 (z_nth cs q.1).2.1 (z_kc q.2.1) with
  | none => false
  | some c => Nat.beq c.1 0 && (Nat.beq c.2.1 (z_nth cs q.2.2.1).2.1 && Nat.beq c.2.2 (Nat.add (z_nth cs q.2.2.1).2.2 q.2.2.2)))))
noncomputable def z_pb1 (cs : List z_C) (o : z_O) (q : Nat × z_C) : Bool := Nat.beq (z_nth cs q.1).1 0 && (Nat.ble q.2.2.1 (z_il o.2.1 (z_nth cs q.1)) && Nat.ble (z_ih o.2.1 (z_nth cs q.1)) q.2.2.2)
/-- an end is of a sort: facts, what has grown by how much, bounds of what was there -/
noncomputable def z_altk (M : z_M) (cs : List z_C) (o : z_O) (R : z_R) : Bool := z_oks (z_mst M R.1) cs o && (z_all (fun q => z_rl1 cs o q) R.2.1 && z_all (fun q => z_pb1 cs o q) R.2.2)
def z_altP (M : z_M) (bv : List Value) (ws : va_W) (ts : List Nat) (R : z_R) : Prop := z_CP (z_mst M R.1) bv none ws ts ∧ (∀ q ∈ R.2.1, ∃ (a j : Nat) (e : va_E) (y y0 : Int32), bv[q.1]? = some (.ref a) ∧ ws[j]? = some (a, e) ∧ z_at e q.2.1 = some (.int y) ∧ bv[q.2.2.1]? = some (.int y0) ∧ q_qb y = q_qb y0 + q.2.2.2) ∧ ∀ q ∈ R.2.2, ∃ y0 : Int32, bv[q.1]? = some (.int y0) ∧ q.2.2.1 ≤ q_qb y0 ∧ q_qb y0 ≤ q.2.2.2
section ZA
variable {sa : Nat → Nat} {tt : Nat → z_T} {M : z_M} {cs : List z_C} {o : z_O} {ad ts0 : List Nat} {ws : va_W} {ts : List Nat} {vs vs' bv : List Value}
theorem z_alt_s {R : z_R} (h : z_altk M cs o R = true) (hv : z_Sv sa tt vs ws ts o.2.1 vs') (hs : z_Sr sa (q_ad ws) ts vs' o.2.2.2 []) (hcs : z_Sr sa ad ts0 vs cs bv) : z_altP M bv ws ts R := by
  obtain ⟨h1, h2⟩ := q_ands h
  obtain ⟨h2, h3⟩ := q_ands h2
  refine ⟨z_oks_s (v := none) h1 hv hs hcs, fun q hq => ?_, fun q hq => ?_⟩
  · have g := z_all_iff.mp h2 q hq
    obtain ⟨g1, g⟩ := q_ands g
    obtain ⟨g2, g⟩ := q_ands g
    obtain ⟨g3, g⟩ := q_ands g
    have g1 := q_beq.mp g1
    have g2 := q_ble.mp g2
    have g3 := q_beq.mp g3
    obtain ⟨pc, V, L, S⟩ := o
    cases hf : z_fg V.2.2.2.1 (z_nth cs q.1).2.1 (z_kc q.2.1) with
    | none =>
      have g : (match z_fg V.2.2.2.1 (z_nth cs q.1).2.1 (z_kc q.2.1) with
        | none => false
        | some c => Nat.beq c.1 0 && (Nat.beq c.2.1 (z_nth cs q.2.2.1).2.1 && Nat.beq c.2.2 (Nat.add (z_nth cs q.2.2.1).2.2 q.2.2.2))) = true := g
      rw [hf] at g
      cases g
    | some c =>
      have g : (match z_fg V.2.2.2.1 (z_nth cs q.1).2.1 (z_kc q.2.1) with
        | none => false
        | some c => Nat.beq c.1 0 && (Nat.beq c.2.1 (z_nth cs q.2.2.1).2.1 && Nat.beq c.2.2 (Nat.add (z_nth cs q.2.2.1).2.2 q.2.2.2))) = true := g
      rw [hf] at g
      obtain ⟨g4, g⟩ := q_ands g
      obtain ⟨g5, g6⟩ := q_ands g
      have g4 := q_beq.mp g4
      have g5 := q_beq.mp g5
      have g6 := q_beq.mp g6
      rw [Nat.add_eq] at g6
      obtain ⟨f, f1, f2, f3, f4⟩ := z_fg_s hf
      obtain ⟨a, j, k, e, y, r, c1, c2, c3, c4, c5, c6, c7, c8⟩ := hv.2.2.1 f f1
      obtain ⟨w, hw1, hw2⟩ := hcs.nth q.1 (by omega)
      have hva := z_gm hv.1 (hw2.ref g1).1
      rw [f2, hva] at c1
      cases c1
      obtain ⟨u1, u2⟩ := z_kc_v (sa := sa) (ad := q_ad ws) (ts := ts) hv.2.1 (show q.2.1 < 2147483648 by omega)
      rw [f3] at c4
      have ey := c4.inj u1 rfl
      subst ey
      have ek : k = q.2.1 := by omega
      subst ek
      rw [f4] at c8
      obtain ⟨x1, y1, d1, rfl, d2⟩ := c8.int g4
      obtain ⟨w2, hw3, hw4⟩ := hcs.nth q.2.2.1 (by omega)
      obtain ⟨x2, y2, d3, rfl, d4⟩ := hw4.int g3
      have d5 := z_gm hv.1 d3
      rw [g5, d5] at d1
      cases d1
      exact ⟨a, j, e, y1, y2, hw1, c2, c7, hw3, by omega⟩
  · have g := z_all_iff.mp h3 q hq
    obtain ⟨g1, g⟩ := q_ands g
    obtain ⟨g2, g3⟩ := q_ands g
    have g1 := q_beq.mp g1
    have g2 := q_ble.mp g2
    have g3 := q_ble.mp g3
    obtain ⟨w, hw1, hw2⟩ := hcs.nth q.1 (by omega)
    obtain ⟨x2, y2, d3, rfl, d4⟩ := hw2.int g1
    have d5 := z_gm hv.1 d3
    have d6 := hv.2.1.2.2 _ _ d5
    have d6 : q_get o.2.1.2.1 (z_nth cs q.1).2.1 ≤ q_qb x2 ∧ q_qb x2 ≤ q_get o.2.1.2.2.1 (z_nth cs q.1).2.1 := d6
    rw [z_il_eq] at g2
    rw [z_ih_eq] at g3
    exact ⟨y2, hw1, by omega, by omega⟩
/-- this lies in its place -/
theorem z_this {ls : Array Slot} {nL a0 : Nat} (h : (z_ceq (z_nth o.2.2.1 0) (z_nth cs 0) && Nat.beq (z_nth cs 0).1 1) = true) (hv : z_Sv sa tt vs ws ts o.2.1 vs') (hL : z_Lr sa (q_ad ws) ts vs' o.2.2.1 nL ls) (hcs : z_Sr sa ad ts0 vs cs bv) (hb : bv[0]? = some (.ref a0)) : ls[0]? = some (.val (.ref a0)) := by
  obtain ⟨c1, c2⟩ := q_ands h
  have c1 := z_ceq_eq c1
  have c2 := q_beq.mp c2
  obtain ⟨w, hw1, hw2⟩ := hcs.nth 0 (by omega)
  rw [hb] at hw1
  cases hw1
  obtain ⟨-, lv, l1, l2⟩ := hL
  have hl0 : o.2.2.1[0]? = some (z_nth cs 0) := by
    rw [← c1]
    cases h9 : o.2.2.1 with
    | nil =>
      rw [h9] at c1
      rw [← c1] at c2
      cases c2
    | cons c0 r0 => rfl
  rcases l2 0 _ hl0 with q | ⟨v, q1, q2⟩
  · omega
  · have q3 := (q2.ref c2).1
    have q4 := z_gm hv.1 (hw2.ref c2).1
    rw [q4] at q3
    cases q3
    exact l1.2.2 _ q1
theorem z_loc1 {L : List z_C} (h : ¬ (z_nth L 1).1 = 9) : L[1]? = some (z_nth L 1) := by
  match L, h with
  | [], h => exact absurd rfl h
  | [_], h => exact absurd rfl h
  | _ :: _ :: _, _ => rfl
/-- the long of local 1 is known -/
theorem z_long1 {ls : Array Slot} {nL k : Nat} (h : (Nat.beq (z_nth o.2.2.1 1).1 3 && Nat.beq (z_lk o.2.1 (z_nth o.2.2.1 1)) (k + 1)) = true) (hv : z_Sv sa tt vs ws ts o.2.1 vs') (hL : z_Lr sa (q_ad ws) ts vs' o.2.2.1 nL ls) : ls[1]? = some (.val (.long (z_lcv k))) := by
  obtain ⟨c1, c2⟩ := q_ands h
  have c1 := q_beq.mp c1
  have c2 := q_beq.mp c2
  obtain ⟨-, lv, l1, l2⟩ := hL
  rcases l2 1 _ (z_loc1 (by omega)) with q | ⟨v, q1, q2⟩
  · omega
  · obtain ⟨x, rfl, q3⟩ := q2.lng c1
    have e : x = z_lcv k := by
      have c2 : (bif Nat.beq (z_nth o.2.2.1 1).2.1 0 then Nat.succ (z_nth o.2.2.1 1).2.2 else q_get o.2.1.2.1 (z_nth o.2.2.1 1).2.1) = k + 1 := c2
      rcases q3 with ⟨e1, e2⟩ | ⟨e1, e2⟩
      · rw [q_beq.mpr e1] at c2
        have c2 : (z_nth o.2.2.1 1).2.2 + 1 = k + 1 := c2
        rw [e2, show (z_nth o.2.2.1 1).2.2 = k by omega]
      · cases hb : Nat.beq (z_nth o.2.2.1 1).2.1 0 with
        | true => exact absurd (q_beq.mp hb) e1
        | false =>
          rw [hb] at c2
          have c2 : q_get o.2.1.2.1 (z_nth o.2.2.1 1).2.1 = k + 1 := c2
          have d6 := hv.2.1.2.2 _ _ e2
          have d6 : q_get o.2.1.2.1 (z_nth o.2.2.1 1).2.1 = 0 ∨ x = z_lcv (q_get o.2.1.2.1 (z_nth o.2.2.1 1).2.1 - 1) := d6
          rw [c2] at d6
          rcases d6 with d6 | d6
          · omega
          · exact d6
    subst e
    exact l1.2.2 _ q1
/-- the int of local 1 is one that was there, and so much more -/
theorem z_int1 {ls : Array Slot} {nL src dl : Nat} (h : (Nat.beq (z_nth o.2.2.1 1).1 0 && (Nat.beq (z_nth cs src).1 0 && (Nat.beq (z_nth o.2.2.1 1).2.1 (z_nth cs src).2.1 && Nat.beq (z_nth o.2.2.1 1).2.2 (Nat.add (z_nth cs src).2.2 dl)))) = true) (hv : z_Sv sa tt vs ws ts o.2.1 vs') (hL : z_Lr sa (q_ad ws) ts vs' o.2.2.1 nL ls) (hcs : z_Sr sa ad ts0 vs cs bv) : ∃ y y0 : Int32, ls[1]? = some (.val (.int y)) ∧ bv[src]? = some (.int y0) ∧ q_qb y = q_qb y0 + dl := by
  obtain ⟨c1, h⟩ := q_ands h
  obtain ⟨c2, h⟩ := q_ands h
  obtain ⟨c3, c4⟩ := q_ands h
  have c1 := q_beq.mp c1
  have c2 := q_beq.mp c2
  have c3 := q_beq.mp c3
  have c4 := q_beq.mp c4
  rw [Nat.add_eq] at c4
  obtain ⟨-, lv, l1, l2⟩ := hL
  rcases l2 1 _ (z_loc1 (by omega)) with q | ⟨v, q1, q2⟩
  · omega
  · obtain ⟨x1, y1, d1, rfl, d2⟩ := q2.int c1
    obtain ⟨w2, hw3, hw4⟩ := hcs.nth src (by omega)
    obtain ⟨x2, y2, d3, rfl, d4⟩ := hw4.int c2
    have d5 := z_gm hv.1 d3
    rw [c3, d5] at d1
    cases d1
    exact ⟨y1, y2, l1.2.2 _ q1, hw3, by omega⟩
end ZA

/-! ===== loops: the template fits, the measure falls ===== -/
theorem z_sumle {α : Type} {a b : α → Nat} : ∀ {l : List α}, (∀ g ∈ l, a g ≤ b g) → (l.map a).sum ≤ (l.map b).sum
  | [], _ => Nat.le_refl _
  | g :: l, h => by
    rw [List.map_cons, List.map_cons, List.sum_cons, List.sum_cons]
    exact Nat.add_le_add (h g List.mem_cons_self) (z_sumle fun k hk => h k (List.mem_cons_of_mem _ hk))
theorem z_sumlt {α : Type} {a b : α → Nat} : ∀ {l : List α}, (∀ g ∈ l, a g ≤ b g) → (∃ g ∈ l, a g < b g) → (l.map a).sum < (l.map b).sum
  | [], _, h => by
    obtain ⟨g, hg, _⟩ := h
    cases hg
  | g :: l, h, h2 => by
    rw [List.map_cons, List.map_cons, List.sum_cons, List.sum_cons]
    obtain ⟨k, hk, h3⟩ := h2
    have h4 := h g List.mem_cons_self
    have h5 : ∀ k ∈ l, a k ≤ b k := fun k hk => h k (List.mem_cons_of_mem _ hk)
    rcases List.mem_cons.mp hk with rfl | hk
    · have := z_sumle h5
      omega
    · have := z_sumlt h5 ⟨k, hk, h3⟩
      omega
section ZU
variable {sa : Nat → Nat} {tt : Nat → z_T} {ws : va_W} {ts : List Nat} {vs vs0 : List Value} {V : z_V} {L : List z_C} {nL : Nat} {ls : Array Slot}
theorem z_fit_k {t c : z_C} (h : z_fit V t c = true) (ht : t.1 = 0 ∨ t.1 = 3) : c.1 = t.1 := by
  unfold z_fit at h
  rcases ht with ht | ht
  · rw [ht] at h ⊢
    have h : (Nat.beq c.1 0 && (Nat.ble t.2.1 (z_il V c) && Nat.ble (z_ih V c) t.2.2)) = true := h
    exact q_beq.mp (q_ands h).1
  · rw [ht] at h ⊢
    have h : Nat.beq c.1 3 = true := h
    exact q_beq.mp h
theorem z_src_s {s : Nat × Nat × Nat × z_C} (hF : z_Fs sa ws ts vs V.2.2.2.1) (hL : z_Lr sa (q_ad ws) ts vs L nL ls) (hc : ¬ (z_src V L s).1 = 9) : ∃ v, z_v sa (q_ad ws) ts vs (z_src V L s) v := by
  unfold z_src at hc ⊢
  cases h1 : Nat.beq s.1 1 with
  | false =>
    rw [h1] at hc
    obtain ⟨v, -, hv⟩ := hL.get hc
    exact ⟨v, hv⟩
  | true =>
    rw [h1] at hc
    cases h2 : z_fg V.2.2.2.1 s.2.1 s.2.2.2 with
    | none => rw [h2] at hc; exact absurd rfl hc
    | some c =>
      obtain ⟨f, f1, -, -, f4⟩ := z_fg_s h2
      obtain ⟨a, j, k, e, y, r, -, -, -, -, -, -, -, g8⟩ := hF f f1
      rw [f4] at g8
      exact ⟨r, g8⟩
theorem z_fits_s (hE : z_E V vs) (hF : z_Fs sa ws ts vs V.2.2.2.1) (hL : z_Lr sa (q_ad ws) ts vs L nL ls) : ∀ {src : List (Nat × Nat × Nat × z_C)} {tp : List z_C}, z_fits V tp (z_map (fun s => z_src V L s) src) = true → ∃ u, z_Sr sa (q_ad ws) ts vs (z_map (fun s => z_src V L s) src) u ∧ u.length = tp.length ∧ ∀ q t, tp[q]? = some t → ∃ v, u[q]? = some v ∧ z_tv (q_ad ws) ts t v ∧ (t.1 = 0 ∨ t.1 = 3) ∧ t.2.2 ≤ 4294967295 ∧ (z_nth (z_map (fun s => z_src V L s) src) q).1 = t.1
  | [], [], _ => ⟨[], trivial, rfl, fun q t h => by cases h⟩
  | [], _ :: _, h => by cases h
  | _ :: _, [], h => by cases h
  | s :: src, t :: tp, h => by
    have h : ((Nat.beq t.1 0 || Nat.beq t.1 3) && (Nat.ble t.2.2 4294967295 && (z_fit V t (z_src V L s) && z_fits V tp (z_map (fun s => z_src V L s) src)))) = true := h
    obtain ⟨h1, h⟩ := q_ands h
    obtain ⟨h2, h⟩ := q_ands h
    obtain ⟨h3, h⟩ := q_ands h
    have h2 := q_ble.mp h2
    have h1 : t.1 = 0 ∨ t.1 = 3 := (q_ors h1).imp q_beq.mp q_beq.mp
    have hk := z_fit_k h3 h1
    obtain ⟨v, hv⟩ := z_src_s hF hL (s := s) (by omega)
    obtain ⟨u, u1, u2, u3⟩ := z_fits_s hE hF hL h
    refine ⟨v :: u, ⟨hv, u1⟩, by rw [List.length_cons, List.length_cons, u2], fun q t9 hq => ?_⟩
    match q, hq with
    | 0, hq =>
      cases hq
      exact ⟨v, rfl, z_fit_s h3 hE hv, h1, h2, hk⟩
    | q + 1, hq => exact u3 q t9 hq
/-- the template fits -/
theorem z_mt_s {X : z_X} (h : z_mt X V L (z_th X V L) = true) (hv : z_Sv sa tt vs0 ws ts V vs) (hL : z_Lr sa (q_ad ws) ts vs L nL ls) : ∃ u vs', z_Sr sa (q_ad ws) ts vs (z_th X V L) u ∧ (1 ≤ X.2.1 ∧ X.2.1 ≤ V.1 ∧ X.2.2.2.2.2.2.1 = V.2.2.2.2.2) ∧ (∀ k, k < X.2.1 → vs'[k]? = vs[k]?) ∧ vs'.length = X.2.1 + X.2.2.1.length ∧ (∀ q t, X.2.2.1[q]? = some t → ∃ v, vs'[X.2.1 + q]? = some v ∧ u[q]? = some v ∧ z_tv (q_ad ws) ts t v ∧ (t.1 = 0 ∨ t.1 = 3) ∧ t.2.2 ≤ 4294967295 ∧ (z_nth (z_th X V L) q).1 = t.1) ∧ z_Fs sa ws ts vs' X.2.2.2.2.2.1 ∧ z_Lr sa (q_ad ws) ts vs' X.2.2.2.2.1 nL ls ∧ ∀ g ∈ X.2.2.2.2.2.2.2, g.1 < X.2.2.1.length := by
  unfold z_mt at h
  obtain ⟨h1, h⟩ := q_ands h
  obtain ⟨h2, h⟩ := q_ands h
  obtain ⟨h3, h⟩ := q_ands h
  obtain ⟨h4, h⟩ := q_ands h
  obtain ⟨h5, h⟩ := q_ands h
  obtain ⟨h6, h7⟩ := q_ands h
  clear h
  have h1 := q_ble.mp h1
  have h5 := q_beq.mp h5
  have h6 := q_ble.mp h6
  rw [q_len_eq] at h3 h4
  obtain ⟨u, u1, u2, u3⟩ := z_fits_s hv.2.1 hv.2.2.1 hL (src := X.2.2.2.1) h2
  have hth : z_map (fun s => z_src V L s) X.2.2.2.1 = z_th X V L := rfl
  rw [hth] at u1 u3
  have hlen : (z_th X V L).length = X.2.2.1.length := by rw [← u2, u1.len]
  have hvl := hv.2.1.1
  have htl : (vs.take X.2.1).length = X.2.1 := by rw [List.length_take]; omega
  have hlow : ∀ k, k < X.2.1 → (vs.take X.2.1 ++ u)[k]? = vs[k]? := fun k hk => by
    rw [List.getElem?_append_left (by omega), List.getElem?_take_of_lt hk]
  have hnew : ∀ q, q < X.2.2.1.length → (vs.take X.2.1 ++ u)[X.2.1 + q]? = u[q]? := fun q hq => by
    rw [List.getElem?_append_right (by omega), htl, Nat.add_sub_cancel_left]
  refine ⟨u, vs.take X.2.1 ++ u, u1, ⟨h6, h1, h5⟩, hlow, by rw [List.length_append, htl, u2], fun q t hq => ?_, fun f hf => ?_, ?_, fun g hg => ?_⟩
  · obtain ⟨v, v1, v2⟩ := u3 q t hq
    exact ⟨v, by rw [hnew q (List.getElem?_eq_some_iff.mp hq).1]; exact v1, v1, v2⟩
  · have h8 := z_all_iff.mp h4 f hf
    obtain ⟨f1, h8⟩ := q_ands h8
    obtain ⟨f2, h8⟩ := q_ands h8
    have f1 := q_blt.mp f1
    have f2 := q_blt.mp f2
    obtain ⟨f9, m9, h9⟩ := z_any_iff.mp h8
    obtain ⟨e1, h9⟩ := q_ands h9
    obtain ⟨e2, h9⟩ := q_ands h9
    obtain ⟨e3, e4⟩ := q_ands h9
    have e1 := q_beq.mp e1
    have e2 := q_beq.mp e2
    have e3 := z_ceq_eq e3
    have e4 := z_ceq_eq e4
    obtain ⟨a, j, k, e, y, r, g1, g2, g3, g4, g5, g6, g7, g8⟩ := hv.2.2.1 f9 m9
    rw [e1] at g1
    rw [e2] at g3
    rw [e3] at g4 g5
    rw [e4] at g8
    exact ⟨a, j, k, e, y, r, by rw [hlow _ f1]; exact g1, g2, g3, g4.low hlow f2, g5, g6, g7, z_sb_s h6 hlen u1 hlow hnew g8⟩
  · obtain ⟨m1, m2⟩ := z_mL_s h3
    obtain ⟨l1, lv, l2, l3⟩ := hL
    refine ⟨m1.trans l1, lv, l2, fun j c hj => ?_⟩
    rcases m2 j c hj with h9 | h9
    · exact Or.inl h9
    · rcases l3 j _ h9 with h8 | ⟨v, h8, g8⟩
      · by_cases hc9 : c.1 = 9
        · exact Or.inl hc9
        · exfalso
          unfold z_sb at h8
          cases b1 : Nat.blt c.2.1 X.2.1 with
          | true =>
            rw [q_ift _ _ b1] at h8
            exact hc9 h8
          | false =>
            rw [q_iff _ _ b1] at h8
            cases b2 : (Nat.blt c.2.1 (Nat.add X.2.1 X.2.2.1.length) && (z_ceq c (0, c.2.1, 2147483648) || z_ceq c (3, c.2.1, 0))) with
            | false =>
              rw [q_iff _ _ b2] at h8
              cases h8
            | true =>
              rw [q_ift _ _ b2] at h8
              have h8 : (bif Nat.beq (z_nth (z_th X V L) (Nat.sub c.2.1 X.2.1)).1 c.1 then z_nth (z_th X V L) (Nat.sub c.2.1 X.2.1) else (8, 0, 0)).1 = 9 := h8
              cases b3 : Nat.beq (z_nth (z_th X V L) (Nat.sub c.2.1 X.2.1)).1 c.1 with
              | false =>
                rw [q_iff _ _ b3] at h8
                cases h8
              | true =>
                rw [q_ift _ _ b3] at h8
                have b3 := q_beq.mp b3
                exact hc9 (b3.symm.trans h8)
      · exact Or.inr ⟨v, h8, z_sb_s h6 hlen u1 hlow hnew g8⟩
  · have := q_blt.mp (z_all_iff.mp h7 g hg)
    rw [q_len_eq] at this
    exact this
/-- the measure falls -/
theorem z_ms_s {X : z_X} {th : List z_C} {u vs' : List Value} (h : z_ms X V th = true) (hE : z_E V vs) (hu : z_Sr sa (q_ad ws) ts vs th u) (hold : ∀ q t, X.2.2.1[q]? = some t → t.1 = 0 → ∃ x, vs[X.2.1 + q]? = some (.int x)) (hnew : ∀ q t, X.2.2.1[q]? = some t → ∃ v, vs'[X.2.1 + q]? = some v ∧ u[q]? = some v ∧ z_tv (q_ad ws) ts t v ∧ (t.1 = 0 ∨ t.1 = 3) ∧ t.2.2 ≤ 4294967295 ∧ (z_nth th q).1 = t.1) : z_mu X vs' < z_mu X vs := by
  unfold z_ms at h
  obtain ⟨h1, h2⟩ := q_ands h
  have key : ∀ g ∈ X.2.2.2.2.2.2.2, z_mu1 X vs' g ≤ z_mu1 X vs g ∧ (z_m1 V X.2.1 th g = true → z_mu1 X vs' g < z_mu1 X vs g) := by
    intro g hg
    have h3 := z_all_iff.mp h1 g hg
    obtain ⟨h3, h4⟩ := q_ands h3
    obtain ⟨h4, h5⟩ := q_ands h4
    have h3 := q_blt.mp h3
    rw [q_len_eq] at h3
    have h4 := q_beq.mp h4
    obtain ⟨q, dr⟩ := g
    have h3 : q < X.2.2.1.length := h3
    have ht : X.2.2.1[q]? = some (z_nth X.2.2.1 q) := z_nth_at rfl (by show ¬ (z_nth X.2.2.1 q).1 = 9; have h4 : (z_nth X.2.2.1 q).1 = 0 := h4; omega)
    have h4 : (z_nth X.2.2.1 q).1 = 0 := h4
    obtain ⟨x, hx⟩ := hold q _ ht h4
    obtain ⟨v, v1, v2, v3, v4, v5, v6⟩ := hnew q _ ht
    rcases v3 with ⟨_, y, rfl, y1, y2⟩ | ⟨h9, _⟩ | ⟨h9, _⟩ | ⟨h9, _⟩
    · obtain ⟨w, w1, w2⟩ := hu.nth q (by omega)
      rw [v2] at w1
      cases w1
      have k0 : (z_nth th q).1 = 0 := by omega
      have hb := z_il_le hE w2 k0
      obtain ⟨x9, y9, c1, c2, c3⟩ := w2.int k0
      cases c2
      have hbx := hE.2.2 _ _ hx
      have hbx : q_get V.2.1 (X.2.1 + q) ≤ q_qb x ∧ q_qb x ≤ q_get V.2.2.1 (X.2.1 + q) := hbx
      have e1 : z_mu1 X vs (q, dr) = if dr = 0 then (z_nth X.2.2.1 q).2.2 - q_qb x else q_qb x - (z_nth X.2.2.1 q).2.1 := by
        unfold z_mu1
        rw [show X.2.1 + (q, dr).1 = X.2.1 + q from rfl, hx]
      have e2 : z_mu1 X vs' (q, dr) = if dr = 0 then (z_nth X.2.2.1 q).2.2 - q_qb y else q_qb y - (z_nth X.2.2.1 q).2.1 := by
        unfold z_mu1
        rw [show X.2.1 + (q, dr).1 = X.2.1 + q from rfl, v1]
      rw [e1, e2]
      have hsame : (z_nth th q).2.1 = X.2.1 + q → q_qb y + 2147483648 = q_qb x + (z_nth th q).2.2 := fun e9 => by
        rw [e9, hx] at c1
        cases c1
        exact c3
      unfold z_m0 at h5
      cases hdr : Nat.beq dr 0 with
      | true =>
        have hdr2 := q_beq.mp hdr
        rw [if_pos hdr2, if_pos hdr2]
        have h5 : (bif Nat.beq dr 0 then (Nat.beq (z_nth th q).2.1 (Nat.add X.2.1 q) && Nat.ble 2147483648 (z_nth th q).2.2) || Nat.ble (q_get V.2.2.1 (Nat.add X.2.1 q)) (z_il V (z_nth th q)) else (Nat.beq (z_nth th q).2.1 (Nat.add X.2.1 q) && Nat.ble (z_nth th q).2.2 2147483648) || Nat.ble (z_ih V (z_nth th q)) (q_get V.2.1 (Nat.add X.2.1 q))) = true := h5
        rw [q_ift _ _ hdr] at h5
        have hxy : q_qb x ≤ q_qb y := by
          rcases q_ors h5 with h6 | h6
          · obtain ⟨h6, h7⟩ := q_ands h6
            have h7 := q_ble.mp h7
            have := hsame (q_beq.mp h6)
            omega
          · have h6 : q_get V.2.2.1 (X.2.1 + q) ≤ z_il V (z_nth th q) := q_ble.mp h6
            omega
        refine ⟨by omega, fun h8 => ?_⟩
        have h8 : (bif Nat.beq dr 0 then (Nat.beq (z_nth th q).2.1 (Nat.add X.2.1 q) && Nat.blt 2147483648 (z_nth th q).2.2) || Nat.blt (q_get V.2.2.1 (Nat.add X.2.1 q)) (z_il V (z_nth th q)) else (Nat.beq (z_nth th q).2.1 (Nat.add X.2.1 q) && Nat.blt (z_nth th q).2.2 2147483648) || Nat.blt (z_ih V (z_nth th q)) (q_get V.2.1 (Nat.add X.2.1 q))) = true := h8
        rw [q_ift _ _ hdr] at h8
        have hxy2 : q_qb x < q_qb y := by
          rcases q_ors h8 with h6 | h6
          · obtain ⟨h6, h7⟩ := q_ands h6
            have h7 := q_blt.mp h7
            have := hsame (q_beq.mp h6)
            omega
          · have h6 : q_get V.2.2.1 (X.2.1 + q) < z_il V (z_nth th q) := q_blt.mp h6
            omega
        omega
      | false =>
        have hdr2 := q_bneq.mp hdr
        rw [if_neg hdr2, if_neg hdr2]
        have h5 : (bif Nat.beq dr 0 then (Nat.beq (z_nth th q).2.1 (Nat.add X.2.1 q) && Nat.ble 2147483648 (z_nth th q).2.2) || Nat.ble (q_get V.2.2.1 (Nat.add X.2.1 q)) (z_il V (z_nth th q)) else (Nat.beq (z_nth th q).2.1 (Nat.add X.2.1 q) && Nat.ble (z_nth th q).2.2 2147483648) || Nat.ble (z_ih V (z_nth th q)) (q_get V.2.1 (Nat.add X.2.1 q))) = true := h5
        rw [q_iff _ _ hdr] at h5
        have hxy : q_qb y ≤ q_qb x := by
          rcases q_ors h5 with h6 | h6
          · obtain ⟨h6, h7⟩ := q_ands h6
            have h7 := q_ble.mp h7
            have := hsame (q_beq.mp h6)
            omega
          · have h6 : z_ih V (z_nth th q) ≤ q_get V.2.1 (X.2.1 + q) := q_ble.mp h6
            omega
        refine ⟨by omega, fun h8 => ?_⟩
        have h8 : (bif Nat.beq dr 0 then (Nat.beq (z_nth th q).2.1 (Nat.add X.2.1 q) && Nat.blt 2147483648 (z_nth th q).2.2) || Nat.blt (q_get V.2.2.1 (Nat.add X.2.1 q)) (z_il V (z_nth th q)) else (Nat.beq (z_nth th q).2.1 (Nat.add X.2.1 q) && Nat.blt (z_nth th q).2.2 2147483648) || Nat.blt (z_ih V (z_nth th q)) (q_get V.2.1 (Nat.add X.2.1 q))) = true := h8
        rw [q_iff _ _ hdr] at h8
        have hxy2 : q_qb y < q_qb x := by
          rcases q_ors h8 with h6 | h6
          · obtain ⟨h6, h7⟩ := q_ands h6
            have h7 := q_blt.mp h7
            have := hsame (q_beq.mp h6)
            omega
          · have h6 : z_ih V (z_nth th q) < q_get V.2.1 (X.2.1 + q) := q_blt.mp h6
            omega
        omega
    all_goals omega
  obtain ⟨g, g1, g2⟩ := z_any_iff.mp h2
  exact z_sumlt (fun g hg => (key g hg).1) ⟨g, g1, (key g g1).2 g2⟩
end ZU

/-! ===== the start: what holds behind the constructors ===== -/
def h_ts0 : List Nat := [0, 1, 2, 3, 4, 5, 6, 7, 8, 9, 10, 11, 4, 5, 6, 7, 8, 9, 10, 11, 12, 13, 14, 15, 16, 17, 18, 19, 20, 21, 22, 23, 24, 25, 26, 27, 28, 29, 30, 31, 32, 33, 34, 35, 36, 37, 38, 39, 40, 41, 42, 49, 50, 43, 44, 45, 51, 46, 47, 48, 52, 53, 54, 55, 56, 57, 58, 59, 60, 61, 62, 63, 64, 65, 66, 67, 68, 69, 70, 71, 72, 73, 74, 75, 76, 77, 78, 79, 80, 81, 82, 83, 84, 85, 86, 87]
/-- all numbers below n -/
noncomputable def h_lp (n : Nat) (p : Nat → Bool) : Bool := Nat.rec true (fun k ih => bif p k then ih else false) n
theorem h_lp_s {p : Nat → Bool} : ∀ {n : Nat}, h_lp n p = true → ∀ j, j < n → p j = true
  | 0, _, j, h => absurd h (Nat.not_lt_zero _)
  | n + 1, h, j, hj => by
    have h : (bif p n then h_lp n p else false) = true := h
    cases hp : p n with
    | false => rw [hp] at h; cases h
    | true =>
      rw [hp] at h
      rcases Nat.lt_or_ge j n with g | g
      · exact h_lp_s (n := n) h j g
      · rw [show j = n by omega]
        exact hp
theorem h_alb_c {p : Nat → Bool} (h : ∀ j, p j = true) : ∀ (k a : Nat), z_alb p k a = true
  | 0, a => h a
  | k + 1, a => by
    show q_fr (Nat.mul 2 a) (fun b => z_alb p k b && q_fr (Nat.succ b) (fun c => z_alb p k c)) = true
    rw [q_fr_eq]
    show (z_alb p k (Nat.mul 2 a) && q_fr (Nat.succ (Nat.mul 2 a)) (fun c => z_alb p k c)) = true
    rw [h_alb_c h k, q_fr_eq, h_alb_c h k]
    rfl
theorem h_get0 (j : Nat) : q_get 0 j = 0 := by
  unfold q_get
  simp
noncomputable def h_qar (T : z_T) (N : Nat) : Bool := bif Nat.beq N 0 then Nat.blt 0 T.2.2.2.1 && h_lp T.2.2.2.1 (fun r => (fun s : Nat × Nat => z_qin s.1 s.2 0) (z_el T.2.2.1 r)) else h_lp T.2.1 (fun j => q_fr (q_get N j) (fun v => (fun s : Nat × Nat => z_qin s.1 s.2 v) (z_el T.2.2.1 (Nat.mod j T.2.2.2.1))))
theorem h_qar_s {T : z_T} {N : Nat} (h : h_qar T N = true) : z_alb (fun j => not (Nat.blt j T.2.1) || q_fr (q_get N j) (fun v => (fun s : Nat × Nat => z_qin s.1 s.2 v) (z_el T.2.2.1 (Nat.mod j T.2.2.2.1)))) 15 0 = true := by
  refine h_alb_c (fun j => ?_) 15 0
  cases hj : Nat.blt j T.2.1 with
  | false => rfl
  | true =>
    have hj := q_blt.mp hj
    show q_fr (q_get N j) (fun v => (fun s : Nat × Nat => z_qin s.1 s.2 v) (z_el T.2.2.1 (Nat.mod j T.2.2.2.1))) = true
    unfold h_qar at h
    cases hN : Nat.beq N 0 with
    | true =>
      rw [hN] at h
      obtain ⟨h1, h2⟩ := q_ands h
      have h1 := q_blt.mp h1
      have hN := q_beq.mp hN
      subst hN
      rw [q_fr_eq, h_get0]
      exact h_lp_s h2 (Nat.mod j T.2.2.2.1) (Nat.mod_lt _ h1)
    | false =>
      rw [hN] at h
      exact h_lp_s h j hj
noncomputable def h_qc2 (n : Nat) (ts : List Nat) (T : z_T) (c : q_C) : Bool := bif Nat.beq T.1 0 then Nat.beq c.1 (Nat.mul 2 T.2.1) && (Nat.beq c.2.1 (q_len T.2.2.1) && z_qfl n ts c.2.2 T.2.2.1 0) else Nat.beq c.1 T.1 && (Nat.beq c.2.1 T.2.1 && (bif Nat.beq T.1 1 || (Nat.beq T.1 3 || Nat.beq T.1 5) then Nat.ble T.2.1 32768 && h_qar T c.2.2 else bif Nat.beq T.1 7 then true else Nat.beq T.1 9 && Nat.beq c.2.2 0))
theorem h_qc2_s {n : Nat} {ts : List Nat} {T : z_T} {c : q_C} (h : h_qc2 n ts T c = true) : z_qc1 n ts T c = true := by
  unfold h_qc2 at h
  unfold z_qc1
  cases h0 : Nat.beq T.1 0 with
  | true =>
    rw [q_ift _ _ h0] at h
    rw [q_ift _ _ rfl]
    exact h
  | false =>
    rw [q_iff _ _ h0] at h
    rw [q_iff _ _ rfl]
    obtain ⟨h1, h⟩ := q_ands h
    obtain ⟨h2, h⟩ := q_ands h
    rw [h1, h2, Bool.true_and, Bool.true_and]
    cases h3 : (Nat.beq T.1 1 || (Nat.beq T.1 3 || Nat.beq T.1 5)) with
    | true =>
      rw [q_ift _ _ h3] at h
      obtain ⟨h4, h5⟩ := q_ands h
      rw [q_ift _ _ rfl, h4, Bool.true_and]
      exact h_qar_s h5
    | false =>
      rw [q_iff _ _ h3] at h
      rw [q_iff _ _ rfl]
      exact h
noncomputable def h_qcl (h : q_H) (ts l : List Nat) : Nat → Bool := List.rec (fun _ => true) (fun t _ ih k => bif h_qc2 h.1 ts (z_tt t) (q_tg 7 h.2 k) then ih (Nat.succ k) else false) l
theorem h_qcl_s {h : q_H} {ts : List Nat} : ∀ (l : List Nat) (k : Nat), h_qcl h ts l k = true → z_qcl z_tt h ts l k = true
  | [], _, _ => rfl
  | t :: l, k, hh => by
    have hh : (bif h_qc2 h.1 ts (z_tt t) (q_tg 7 h.2 k) then h_qcl h ts l (Nat.succ k) else false) = true := hh
    show (z_qc1 h.1 ts (z_tt t) (q_tg 7 h.2 k) && z_qcl z_tt h ts l (Nat.succ k)) = true
    cases hc : h_qc2 h.1 ts (z_tt t) (q_tg 7 h.2 k) with
    | false => rw [hc] at hh; cases hh
    | true =>
      rw [hc] at hh
      rw [h_qc2_s hc, h_qcl_s l (Nat.succ k) hh]
      rfl
theorem h_ts0_ck : h_qcl q_h0 h_ts0 h_ts0 0 = true := by decide +kernel
theorem h_ts0_ok : z_qck z_tt q_h0 h_ts0 = true := by
  show (Nat.beq (q_len h_ts0) q_h0.1 && (Nat.ble (z_c40 h_ts0) 1 && z_qcl z_tt q_h0 h_ts0 h_ts0 0)) = true
  rw [h_qcl_s _ _ h_ts0_ck, show Nat.beq (q_len h_ts0) q_h0.1 = true from by decide +kernel, show Nat.ble (z_c40 h_ts0) 1 = true from by decide +kernel]
  rfl
noncomputable def h_qi (k j n : Nat) : Bool := (fun c : q_C => Nat.beq (c.1 % 2) 0 && (Nat.blt j c.2.1 && (Nat.beq (q_get c.2.2 j) n && Nat.ble n 4294967295))) (q_tg 7 q_h0.2 k)
noncomputable def h_qr (k j k2 : Nat) : Bool := (fun c : q_C => Nat.beq (c.1 % 2) 0 && (Nat.blt j c.2.1 && (Nat.beq (q_get c.2.2 j) (4294967328 + k2) && Nat.blt k2 96))) (q_tg 7 q_h0.2 k)
noncomputable def h_qa (k j n : Nat) : Bool := (fun c : q_C => (Nat.beq c.1 1 || Nat.beq c.1 5) && (Nat.blt j c.2.1 && (Nat.beq (q_get c.2.2 j) n && Nat.ble n 4294967295))) (q_tg 7 q_h0.2 k)
section QS
variable {xs : Nat → Int32} {ws : va_W} {tys : List (ClassId × FieldType)}
theorem h_qvi {ad : List Nat} {c : Nat} {v : Value} (h : q_v xs ad c v) (hc : c ≤ 4294967295) : v = .int (nI c) := by
  rcases h with ⟨_, q⟩ | ⟨q, _⟩ | ⟨q, _⟩ | ⟨q, _⟩ | ⟨q, _⟩ | ⟨q, _⟩ <;> first | exact q | omega
theorem h_qsi (hw : q_W xs q_h0 ws tys) {k j n : Nat} (hk : k < 96) (h : h_qi k j n = true) : h_pl ws k j (.int (nI n)) := by
  obtain ⟨h1, h⟩ := q_ands h
  obtain ⟨h2, h⟩ := q_ands h
  obtain ⟨h3, h4⟩ := q_ands h
  have h1 := q_beq.mp h1
  have h2 := q_blt.mp h2
  have h3 := q_beq.mp h3
  have h4 := q_ble.mp h4
  obtain ⟨a, e, e1, e2⟩ := hw.2.2 k hk
  rcases e2 with ⟨ci, fs, g1, g2, g3, g4⟩ | ⟨g, _⟩ | ⟨g, _⟩ | ⟨g, _⟩ | ⟨g, _⟩ | ⟨g, _⟩
  · subst g2
    have h9 : fs[j]? = some (fs[j]'(by omega)) := List.getElem?_eq_getElem (by omega)
    rcases g4 j _ h9 with ⟨g5, -⟩ | g5
    · omega
    · rw [h3] at g5
      rw [h_qvi g5 h4] at h9
      exact ⟨a, _, e1, h9⟩
  all_goals omega
theorem h_qsr (hw : q_W xs q_h0 ws tys) {k j k2 : Nat} (hk : k < 96) (h : h_qr k j k2 = true) : ∃ a, h_pl ws k j (.ref a) ∧ (q_ad ws)[k2]? = some a := by
  obtain ⟨h1, h⟩ := q_ands h
  obtain ⟨h2, h⟩ := q_ands h
  obtain ⟨h3, h4⟩ := q_ands h
  have h1 := q_beq.mp h1
  have h2 := q_blt.mp h2
  have h3 := q_beq.mp h3
  have h4 := q_blt.mp h4
  obtain ⟨a, e, e1, e2⟩ := hw.2.2 k hk
  rcases e2 with ⟨ci, fs, g1, g2, g3, g4⟩ | ⟨g, _⟩ | ⟨g, _⟩ | ⟨g, _⟩ | ⟨g, _⟩ | ⟨g, _⟩
  · subst g2
    have h9 : fs[j]? = some (fs[j]'(by omega)) := List.getElem?_eq_getElem (by omega)
    rcases g4 j _ h9 with ⟨g5, -⟩ | g5
    · omega
    · rw [h3] at g5
      rcases g5 with ⟨q, _⟩ | ⟨q, _⟩ | ⟨q, q2, _⟩ | ⟨q, _⟩ | ⟨q, _⟩ | ⟨_, _, a2, q3, q4⟩
      · omega
      · omega
      · omega
      · omega
      · omega
      · rw [Nat.add_sub_cancel_left] at q3
        rw [q4] at h9
        exact ⟨a2, ⟨a, _, e1, h9⟩, q3⟩
  all_goals omega
theorem h_qsa (hw : q_W xs q_h0 ws tys) {k j n : Nat} (hk : k < 96) (h : h_qa k j n = true) : h_pl ws k j (.int (nI n)) := by
  obtain ⟨h1, h⟩ := q_ands h
  obtain ⟨h2, h⟩ := q_ands h
  obtain ⟨h3, h4⟩ := q_ands h
  have h2 := q_blt.mp h2
  have h3 := q_beq.mp h3
  have h4 := q_ble.mp h4
  have h1 : (q_tg 7 q_h0.2 k).1 = 1 ∨ (q_tg 7 q_h0.2 k).1 = 5 := by
    rcases q_ors h1 with g | g
    · exact Or.inl (q_beq.mp g)
    · exact Or.inr (q_beq.mp g)
  obtain ⟨a, e, e1, e2⟩ := hw.2.2 k hk
  have fin : ∀ {ty : FieldType}, q_ca xs tys ty (q_tg 7 q_h0.2 k).2.1 (q_tg 7 q_h0.2 k).2.2 e → h_pl ws k j (.int (nI n)) := fun hca => by
    obtain ⟨cA, t, f, g1, g2, g3, g4⟩ := hca
    subst g1
    have g5 := (g4 j h2).2
    rw [h3] at g5
    have g6 := Value.int.inj (h_qvi g5 h4)
    refine ⟨a, _, e1, ?_⟩
    rw [h_aat h2, g6]
  rcases e2 with ⟨ci, fs, g1, g2, g3, g4⟩ | ⟨g, hh⟩ | ⟨g, _⟩ | ⟨g, hh⟩ | ⟨g, _⟩ | ⟨g, _⟩
  · omega
  · exact fin hh
  · omega
  · exact fin hh
  · omega
  · omega
theorem h_start (hw : q_W xs q_h0 ws tys) {ax am : Nat} (hax : (q_ad ws)[0]? = some ax) (ham : (q_ad ws)[48]? = some am) : z_W z_tt ws tys h_ts0 ∧ h_I 0 ax 48 am ws h_ts0 ∧ h_T2 0 48 0 0 ws := by
  have hW := z_ofq hw h_ts0_ok
  obtain ⟨a7, b7, c7⟩ := h_qsr hw (k := 0) (j := 7) (k2 := 33) (by decide) (by decide +kernel)
  have i2 := h_qsi hw (k := 33) (j := 2) (n := 0) (by decide) (by decide +kernel)
  have i3 := h_qsi hw (k := 33) (j := 3) (n := 0) (by decide) (by decide +kernel)
  have t0 := h_qsi hw (k := 0) (j := 12) (n := 0) (by decide) (by decide +kernel)
  have t1 := h_qsi hw (k := 48) (j := 65) (n := 0) (by decide) (by decide +kernel)
  have h34 := h_qsi hw (k := 48) (j := 34) (n := 0) (by decide) (by decide +kernel)
  have h43 := h_qsi hw (k := 48) (j := 43) (n := 0) (by decide) (by decide +kernel)
  have h44 := h_qsi hw (k := 48) (j := 44) (n := 0) (by decide) (by decide +kernel)
  obtain ⟨a11, b11, c11⟩ := h_qsr hw (k := 48) (j := 11) (k2 := 51) (by decide) (by decide +kernel)
  obtain ⟨a12, b12, c12⟩ := h_qsr hw (k := 48) (j := 12) (k2 := 52) (by decide) (by decide +kernel)
  obtain ⟨a41, b41, c41⟩ := h_qsr hw (k := 48) (j := 41) (k2 := 74) (by decide) (by decide +kernel)
  obtain ⟨a42, b42, c42⟩ := h_qsr hw (k := 48) (j := 42) (k2 := 75) (by decide) (by decide +kernel)
  obtain ⟨a66, b66, c66⟩ := h_qsr hw (k := 48) (j := 66) (k2 := 94) (by decide) (by decide +kernel)
  obtain ⟨a67, b67, c67⟩ := h_qsr hw (k := 48) (j := 67) (k2 := 95) (by decide) (by decide +kernel)
  obtain ⟨a16, b16, c16⟩ := h_qsr hw (k := 48) (j := 16) (k2 := 56) (by decide) (by decide +kernel)
  obtain ⟨a20, b20, c20⟩ := h_qsr hw (k := 48) (j := 20) (k2 := 60) (by decide) (by decide +kernel)
  obtain ⟨a25, b25, c25⟩ := h_qsr hw (k := 48) (j := 25) (k2 := 65) (by decide) (by decide +kernel)
  have v11 := h_qsa hw (k := 51) (j := 0) (n := 4) (by decide) (by decide +kernel)
  have v12 := h_qsa hw (k := 52) (j := 0) (n := 4) (by decide) (by decide +kernel)
  have v16 := h_qsa hw (k := 56) (j := 0) (n := 0) (by decide) (by decide +kernel)
  have v25 := h_qsa hw (k := 65) (j := 0) (n := 0) (by decide) (by decide +kernel)
  have hal : ∀ w, (w < 5 ∨ w = 435) → h_qa 74 w 0 = true := fun w hw => by
    rcases (show w = 0 ∨ w = 1 ∨ w = 2 ∨ w = 3 ∨ w = 4 ∨ w = 435 by omega) with rfl | rfl | rfl | rfl | rfl | rfl <;> decide +kernel
  have hib : ∀ w, w < 3 → h_qa 95 w 0 = true := fun w hw => by
    rcases (show w = 0 ∨ w = 1 ∨ w = 2 by omega) with rfl | rfl | rfl <;> decide +kernel
  have z0 : q_qb (nI 0) = 2147483648 := z_qnI (by decide)
  have z4 : q_qb (nI 4) = 2147483652 := z_qnI (by decide)
  have tm : h_ts0[48]? = some 40 := by decide +kernel
  refine ⟨hW, ⟨⟨hax, ham⟩, ⟨by decide +kernel, 33, a7, 0, 0, ⟨b7, c7, by decide +kernel⟩, i2, i3, by omega⟩, ⟨0, 16, 0, 0, ⟨tm, by decide, h34, by omega, 51, a11, 52, a12, nI 4, nI 4, ⟨⟨b11, c11, by decide +kernel⟩, v11⟩, ⟨⟨b12, c12, by decide +kernel⟩, v12⟩, by omega, by omega, by omega, h_nmul 4 4⟩, ⟨h43, h44, by omega⟩, ⟨74, a41, ⟨b41, c41, by decide +kernel⟩, fun w hw => ⟨nI 0, h_qsa (by assumption) (by decide) (hal w hw), ?_⟩⟩, ⟨75, a42, ⟨b42, c42, by decide +kernel⟩, fun k w hk _ => absurd hk (by omega)⟩, ⟨94, a66, 95, a67, ⟨b66, c66, by decide +kernel⟩, ⟨b67, c67, by decide +kernel⟩, fun c hc => ⟨nI 0, h_qsa (by assumption) (by decide) (hib c hc), fun e => absurd ((nI_eq (by decide) (by decide)).mp e) (by decide)⟩⟩, ⟨56, a16, 60, a20, nI 0, ⟨⟨b16, c16, by decide +kernel⟩, v16⟩, ⟨b20, c20, by decide +kernel⟩, fun w hw hl => absurd hl (by omega)⟩⟩, h_Jc.new hW ham tm (show 0 < 2 by decide) h34 ⟨65, a25, ⟨b25, c25, by decide +kernel⟩, v25⟩ (Or.inl rfl)⟩, ⟨by omega, by omega⟩, t0, t1⟩
  rw [z0]
  unfold h_bn
  split <;> omega
end QS

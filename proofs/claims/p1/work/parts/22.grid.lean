/-! ===== a call on the fresh objects, for every box of its arguments ===== -/
noncomputable def q_two (rg : Nat → Nat × Nat) (mem : q_M) (i1 i2 : Nat) (codes : List Nat) : Bool := match q_run rg q_code mem 400000 10 i1 (q_code i1) (q_code i1) (q_pk (4294967328 :: codes)) [] q_h0 with
  | some (h1, [v]) => (match q_run rg q_code mem 400000 10 i2 (q_code i2) (q_code i2) (q_pk (4294967376 :: codes)) [] h1 with
    | some (h2, [w]) => Nat.beq v w && (Nat.ble v 4294967295 && (Nat.ble (q_ss h2) 7000000 && (Nat.ble h2.1 200 && Nat.beq (q_tg 7 h1.2 48).1 18)))
    | _ => false)
  | _ => false
theorem q_two_ok {rg : Nat → Nat × Nat} {mem : q_M} {i1 i2 : Nat} {codes : List Nat} (h : q_two rg mem i1 i2 codes = true) : ∃ h1 h2 v, v ≤ 4294967295 ∧ q_ss h2 ≤ 7000000 ∧ h2.1 ≤ 200 ∧ (q_tg 7 h1.2 48).1 = 18 ∧ q_run rg q_code mem 400000 10 i1 (q_code i1) (q_code i1) (q_pk (4294967328 :: codes)) [] q_h0 = some (h1, [v]) ∧ q_run rg q_code mem 400000 10 i2 (q_code i2) (q_code i2) (q_pk (4294967376 :: codes)) [] h1 = some (h2, [v]) := by
  unfold q_two at h
  generalize hr1 : q_run rg q_code mem 400000 10 i1 (q_code i1) (q_code i1) (q_pk (4294967328 :: codes)) [] q_h0 = o1 at h
  match o1, h with
  | some (h1, [v]), h =>
    have h : (match q_run rg q_code mem 400000 10 i2 (q_code i2) (q_code i2) (q_pk (4294967376 :: codes)) [] h1 with
      | some (h2, [w]) => Nat.beq v w && (Nat.ble v 4294967295 && (Nat.ble (q_ss h2) 7000000 && (Nat.ble h2.1 200 && Nat.beq (q_tg 7 h1.2 48).1 18)))
      | _ => false) = true := h
    generalize hr2 : q_run rg q_code mem 400000 10 i2 (q_code i2) (q_code i2) (q_pk (4294967376 :: codes)) [] h1 = o2 at h
    match o2, h with
    | some (h2, [w]), h =>
      have h : (Nat.beq v w && (Nat.ble v 4294967295 && (Nat.ble (q_ss h2) 7000000 && (Nat.ble h2.1 200 && Nat.beq (q_tg 7 h1.2 48).1 18)))) = true := h
      obtain ⟨a1, a2⟩ := q_ands h
      obtain ⟨a2, a3⟩ := q_ands a2
      obtain ⟨a3, a4⟩ := q_ands a3
      obtain ⟨a4, a5⟩ := q_ands a4
      have e := q_beq.mp a1
      subst e
      exact ⟨h1, h2, v, q_ble.mp a2, q_ble.mp a3, q_ble.mp a4, q_beq.mp a5, rfl, hr2⟩
    | none, h => cases h
    | some (_, []), h => cases h
    | some (_, _ :: _ :: _), h => cases h
  | none, h => cases h
  | some (_, []), h => cases h
  | some (_, _ :: _ :: _), h => cases h
abbrev q_Bx : Type := Nat × Nat
/-- the code of the j-th told int within bounds -/
def q_bc (j : Nat) (b : q_Bx) : Nat := bif Nat.beq b.1 b.2 then q_bi b.1 else bif Nat.beq b.1 0 && Nat.beq b.2 4294967295 then 4294967296 else Nat.add 4294967297 j
noncomputable def q_bcs (bs : List q_Bx) : Nat → List Nat := List.rec (fun _ => []) (fun b _ ih j => q_bc j b :: ih (Nat.succ j)) bs
noncomputable def q_brg (bs : List q_Bx) (i : Nat) : Nat × Nat := q_nth ((0, 4294967295) :: bs) (0, 4294967295) i
/-- every box of the grid -/
noncomputable def q_grd (f : List q_Bx → Bool) (ps : List (List q_Bx)) : List q_Bx → Bool := List.rec (fun acc => f acc) (fun p _ ih acc => List.rec true (fun b _ r => ih (acc ++ [b]) && r) p) ps
def q_cov (l : List q_Bx) (s : Nat) : Bool := match l with
  | [] => Nat.beq s 4294967296
  | b :: t => Nat.beq b.1 s && (Nat.ble b.1 b.2 && (Nat.ble b.2 4294967295 && q_cov t (b.2 + 1)))
theorem q_cov_ok : ∀ (l : List q_Bx) (s v : Nat), q_cov l s = true → s ≤ v → v ≤ 4294967295 → ∃ b ∈ l, b.1 ≤ v ∧ v ≤ b.2 ∧ b.2 ≤ 4294967295
  | [], s, v, h, h1, h2 => by
    have := q_beq.mp h
    omega
  | b :: t, s, v, h, h1, h2 => by
    obtain ⟨a1, a2⟩ := q_ands h
    obtain ⟨a2, a3⟩ := q_ands a2
    obtain ⟨a3, a4⟩ := q_ands a3
    have a1 := q_beq.mp a1
    have a2 := q_ble.mp a2
    have a3 := q_ble.mp a3
    rcases Nat.lt_or_ge b.2 v with g | g
    · obtain ⟨c, hc, hc2⟩ := q_cov_ok t (b.2 + 1) v a4 g h2
      exact ⟨c, List.mem_cons_of_mem _ hc, hc2⟩
    · exact ⟨b, List.mem_cons_self, by omega, g, a3⟩
def q_inb (xs : Nat → Int32) : List q_Bx → Nat → Prop
  | [], _ => True
  | b :: t, j => (b.1 ≤ q_qb (xs j) ∧ q_qb (xs j) ≤ b.2 ∧ b.2 ≤ 4294967295) ∧ q_inb xs t (j + 1)
theorem q_inb_app {xs : Nat → Int32} : ∀ {a c : List q_Bx} {j : Nat}, q_inb xs a j → q_inb xs c (j + a.length) → q_inb xs (a ++ c) j
  | [], _, _, _, h => h
  | b :: a, c, j, h1, h => ⟨h1.1, q_inb_app h1.2 (by rw [show j + 1 + a.length = j + (b :: a).length by simp; omega]; exact h)⟩
theorem q_grd_ok {xs : Nat → Int32} {f : List q_Bx → Bool} : ∀ (ps : List (List q_Bx)) (acc : List q_Bx), (∀ p ∈ ps, q_cov p 0 = true) → q_grd f ps acc = true → q_inb xs acc 1 → ∃ bs, bs.length = acc.length + ps.length ∧ q_inb xs bs 1 ∧ f bs = true
  | [], acc, _, h, hi => ⟨acc, rfl, hi, h⟩
  | p :: ps, acc, hc, h, hi => by
    obtain ⟨b, hb, hb1, hb2, hb3⟩ := q_cov_ok p 0 (q_qb (xs (1 + acc.length))) (hc p List.mem_cons_self) (Nat.zero_le _) (q_qb_hi _)
    have key : ∀ (l : List q_Bx), List.rec (motive := fun _ => Bool) true (fun b _ r => q_grd f ps (acc ++ [b]) && r) l = true → ∀ b ∈ l, q_grd f ps (acc ++ [b]) = true := by
      intro l
      induction l with
      | nil => intro _ b hb; cases hb
      | cons c t ih =>
        intro h b hb
        have h : (q_grd f ps (acc ++ [c]) && List.rec (motive := fun _ => Bool) true (fun b _ r => q_grd f ps (acc ++ [b]) && r) t) = true := h
        obtain ⟨h1, h2⟩ := q_ands h
        rcases List.mem_cons.mp hb with rfl | hb
        · exact h1
        · exact ih h2 b hb
    obtain ⟨bs, e1, e2, e3⟩ := q_grd_ok ps (acc ++ [b]) (fun q hq => hc q (List.mem_cons_of_mem _ hq)) (key p h b hb) (q_inb_app hi ⟨⟨hb1, hb2, hb3⟩, trivial⟩)
    exact ⟨bs, by rw [e1]; simp; omega, e2, e3⟩
theorem q_brg_ok {xs : Nat → Int32} {bs : List q_Bx} (h : q_inb xs bs 1) : q_rgs xs (q_brg bs) := by
  have key : ∀ (bs : List q_Bx) (j k : Nat), q_inb xs bs j → (bs.getD k (0, 4294967295)).1 ≤ q_qb (xs (j + k)) ∧ q_qb (xs (j + k)) ≤ (bs.getD k (0, 4294967295)).2 := by
    intro bs
    induction bs with
    | nil => intro j k _; simp only [List.getD_nil]; exact ⟨Nat.zero_le _, q_qb_hi _⟩
    | cons b t ih =>
      intro j k h
      cases k with
      | zero => exact ⟨h.1.1, h.1.2.1⟩
      | succ k =>
        have := ih (j + 1) k h.2
        rw [show j + 1 + k = j + (k + 1) by omega] at this
        exact this
  intro i _
  unfold q_brg
  rw [q_nth_eq]
  cases i with
  | zero => exact ⟨Nat.zero_le _, q_qb_hi _⟩
  | succ i =>
    have := key bs 1 i h
    rw [show 1 + i = i + 1 by omega] at this
    exact this
theorem q_bc_ok {xs : Nat → Int32} {b : q_Bx} {j : Nat} (ad : List Nat) (hj : j < 13) (h : b.1 ≤ q_qb (xs j) ∧ q_qb (xs j) ≤ b.2 ∧ b.2 ≤ 4294967295) : q_v xs ad (q_bc j b) (.int (xs j)) ∧ ¬ q_bc j b = 4294967314 := by
  unfold q_bc
  cases h1 : Nat.beq b.1 b.2 with
  | true =>
    rw [q_ift _ _ rfl]
    have h1 := q_beq.mp h1
    have hb : q_bi b.1 = (b.1 + 2147483648) % 4294967296 := rfl
    have hle : q_bi b.1 ≤ 4294967295 := by rw [hb]; omega
    refine ⟨q_v.exq ad hle ?_, by omega⟩
    apply (q_eq_iff _ _).mpr
    rw [q_qb_nI hle]
    show q_qb (xs j) = (q_bi b.1 + 2147483648) % 4294967296
    rw [hb]
    omega
  | false =>
    rw [q_iff _ _ rfl]
    cases h2 : (Nat.beq b.1 0 && Nat.beq b.2 4294967295) with
    | true =>
      rw [q_ift _ _ rfl]
      exact ⟨q_v.top ad _, by decide⟩
    | false =>
      rw [q_iff _ _ rfl, Nat.add_eq]
      refine ⟨Or.inr (Or.inr (Or.inl ⟨by omega, by omega, by rw [Nat.add_sub_cancel_left]⟩)), by omega⟩
/-- a call that both answer alike: its codes, its runs -/
def q_Op (mem : q_M) (i1 i2 : Nat) (xs : Nat → Int32) (as : List Value) : Prop := ∃ (rg : Nat → Nat × Nat) (codes : List Nat), q_rgs xs rg ∧ q_S xs [] codes as ∧ (∀ c ∈ codes, ¬ c = 4294967314) ∧ q_two rg mem i1 i2 codes = true
noncomputable def q_bxt (mem : q_M) (i1 i2 : Nat) (ext : List Nat) (bs : List q_Bx) : Bool := q_two (q_brg bs) mem i1 i2 (q_bcs bs 1 ++ ext)
def q_xa (xs : Nat → Int32) : Nat → Nat → List Value
  | 0, _ => []
  | n + 1, j => .int (xs j) :: q_xa xs n (j + 1)
theorem q_op_of {mem : q_M} {i1 i2 : Nat} {ext : List Nat} {ev : List Value} {ps : List (List q_Bx)} (xs : Nat → Int32) (hn : ps.length ≤ 5) (he : q_S xs [] ext ev) (hne : ∀ c ∈ ext, ¬ c = 4294967314) (hc : ps.all (fun p => q_cov p 0) = true) (hg : q_grd (q_bxt mem i1 i2 ext) ps [] = true) : q_Op mem i1 i2 xs (q_xa xs ps.length 1 ++ ev) := by
  obtain ⟨bs, e1, e2, e3⟩ := q_grd_ok (xs := xs) ps [] (fun p hp => List.all_eq_true.mp hc p hp) hg trivial
  have key : ∀ (bs : List q_Bx) (j : Nat), j + bs.length ≤ 13 → q_inb xs bs j → q_S xs [] (q_bcs bs j) (q_xa xs bs.length j) ∧ ∀ c ∈ q_bcs bs j, ¬ c = 4294967314 := by
    intro bs
    induction bs with
    | nil => intro j _ _; exact ⟨trivial, fun _ h => by cases h⟩
    | cons b t ih =>
      intro j hj h
      have hb := q_bc_ok (xs := xs) (b := b) (j := j) [] (by simp at hj; omega) h.1
      have ht := ih (j + 1) (by simp at hj; omega) h.2
      refine ⟨⟨hb.1, ht.1⟩, fun c hc => ?_⟩
      rcases List.mem_cons.mp (show c ∈ q_bc j b :: q_bcs t (j + 1) from hc) with rfl | hc
      · exact hb.2
      · exact ht.2 c hc
  have hl : bs.length = ps.length := by rw [e1]; simp
  obtain ⟨k1, k2⟩ := key bs 1 (by omega) e2
  rw [hl] at k1
  refine ⟨q_brg bs, q_bcs bs 1 ++ ext, q_brg_ok e2, q_S.app k1 he, fun c hc => ?_, e3⟩
  rcases List.mem_append.mp hc with hc | hc
  · exact k2 c hc
  · exact hne c hc

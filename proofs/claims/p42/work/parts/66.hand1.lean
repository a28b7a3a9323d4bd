/-! ===== by hand: bitsOf, divisor ===== -/
theorem y_Ei (hok : ∀ i, i < q_nM → q_mok i) {X : y_X} {i : Nat} (hi : y_i X = i) (hlt : i < q_nM) {cd : List q_I} (hcd : q_code i = cd) : ∀ (k : Nat) (q : q_I), cd[k]? = some q → y_E (y_i X) q := fun k q hq => by
  rw [hi]
  exact y_at hok hlt (by rw [hcd]; exact List.mem_of_getElem? hq)
theorem h_and1 {v : Int32} (h : ¬ v = 0) : (v &&& (v - nI 1)).toUInt32.toNat < v.toUInt32.toNat := by
  have e1 : (v &&& (v - nI 1)).toUInt32.toNat = (v.toBitVec &&& (v.toBitVec - 1#32)).toNat := rfl
  have e2 : v.toUInt32.toNat = v.toBitVec.toNat := rfl
  have hb : v.toBitVec ≠ 0#32 := fun z => h (Int32.toBitVec_inj.mp z)
  rw [e1, e2]
  generalize v.toBitVec = b at hb
  have h0 : b.toNat ≠ 0 := fun z => hb (BitVec.eq_of_toNat_eq (by rw [z]; rfl))
  have h1 := b.isLt
  have h2 : (b - 1#32).toNat = b.toNat - 1 := by
    rw [BitVec.toNat_sub]
    have : (1#32).toNat = 1 := rfl
    omega
  rw [BitVec.toNat_and, h2]
  have := @Nat.and_le_right b.toNat (b.toNat - 1)
  omega
section HA
variable {X : y_X} {n : Nat} {ws : va_W} {ts : List Nat} {post : Option Value → va_W → List Nat → Prop}
theorem h_bits (hok : ∀ i, i < q_nM → q_mok i) (hC : y_C X) (hi : y_i X = 139) (hQ : y_end X post) (hn : n ≤ (y_d X).2) (hp : ∀ c : Int32, post (some (.int c)) ws ts) : ∀ (N : Nat) (s v c : Int32), v.toUInt32.toNat ≤ N → Y X n 4 [some (.int s), some (.int c), some (.int v)] [] ws ts := by
  have E := y_Ei hok hi (by decide) (cd := q_cd139) rfl
  intro N
  induction N with
  | zero =>
    intro s v c hv
    refine y_iln hC (E 4 _ rfl) rfl ?_
    refine y_if hC (E 5 _ rfl) (fun h => ?_) (fun h => ?_)
    · refine y_iln hC (E 14 _ rfl) rfl ?_
      exact y_ir hC hQ (E 15 _ rfl) hn (hp c)
    · have h : ¬ v = 0 := h
      have := h_and1 h
      omega
  | succ N IH =>
    intro s v c hv
    refine y_iln hC (E 4 _ rfl) rfl ?_
    refine y_if hC (E 5 _ rfl) (fun h => ?_) (fun h => ?_)
    · refine y_iln hC (E 14 _ rfl) rfl ?_
      exact y_ir hC hQ (E 15 _ rfl) hn (hp c)
    · have h : ¬ v = 0 := h
      refine y_ii hC (E 6 _ rfl) rfl ?_
      refine y_iln hC (E 7 _ rfl) rfl ?_
      refine y_iln hC (E 8 _ rfl) rfl ?_
      refine y_ic hC (E 9 _ rfl) ?_
      refine y_sub hC (E 10 _ rfl) ?_
      refine y_and hC (E 11 _ rfl) ?_
      refine y_isn hC (E 12 _ rfl) ?_
      refine y_go hC (E 13 _ rfl) ?_
      have := h_and1 h
      exact IH s _ _ (by omega)
end HA
def z_tInt : z_C := (0, 0, 4294967295)
theorem h_tint (ad ts : List Nat) (x : Int32) : z_tv ad ts (0, 0, 4294967295) (.int x) := Or.inl ⟨rfl, x, rfl, Nat.zero_le _, q_qb_hi x⟩
theorem h_cp1 {M : z_M} {bv : List Value} {ws : va_W} {ts : List Nat} {r : Value} {t : z_C} (h1 : M.2.2.2.2.2.2.1 = true) (h2 : M.2.2.2.2.2.2.2.2 = []) (ht : t ∈ M.2.2.2.2.2.2.2.1) (hv : z_tv (q_ad ws) ts t r) : z_CP M bv (some r) ws ts := ⟨by rw [if_pos h1]; exact ⟨t, ht, r, rfl, hv⟩, fun q hq => by rw [h2] at hq; cases hq⟩
def h_Mbits : z_M := (139, [(0, 0, 4294967295)], [], [], 0, 0, true, [(0, 0, 4294967295)], [])
section HB
variable {l : Launch} {base : Nat} {D : va_G} {sa : Nat → Nat} {J : va_W → List Nat → Prop}
theorem h_ta1 {ad ts : List Nat} {t : z_C} {av : List Value} (h : z_Ta ad ts [t] av) : ∃ v, av = [v] ∧ z_tv ad ts t v := by
  match av, h with
  | [v], h => exact ⟨v, rfl, h.1⟩
theorem h_ta2 {ad ts : List Nat} {t u : z_C} {av : List Value} (h : z_Ta ad ts [t, u] av) : ∃ v w, av = [v, w] ∧ z_tv ad ts t v ∧ z_tv ad ts u w := by
  match av, h with
  | [v, w], h => exact ⟨v, w, rfl, h.1, h.2.1⟩
theorem h_tvi {ad ts : List Nat} {a b : Nat} {v : Value} (h : z_tv ad ts (0, a, b) v) : ∃ x, v = .int x ∧ a ≤ q_qb x ∧ q_qb x ≤ b := by
  rcases h with ⟨-, h⟩ | ⟨h, _⟩ | ⟨h, _⟩ | ⟨h, _⟩
  · exact h
  all_goals cases h
theorem h_con_bits (hok : ∀ i, i < q_nM → q_mok i) (hJ : ∀ ws ts ws' ts', J ws ts → z_Fr [] ws ts ws' ts' → J ws' ts') : z_Con l base D sa z_tt J h_Mbits := by
  intro ws ts av bv ha hf hj
  obtain ⟨v0, rfl, hv⟩ := h_ta1 ha
  obtain ⟨s0, rfl, -⟩ := h_tvi hv
  refine y_meth (J := J) (hok 139 (by decide)) (fun v hv => by rcases List.mem_singleton.mp hv with rfl; rfl) (show 1 ≤ 3 by decide) (fun ws' ts' h => hJ _ _ _ _ hj h) ?_
  intro p e s m below meth c X hX hC hQ
  have hi : y_i X = 139 := by rw [hX]; rfl
  have hd : y_d X = (0, 0) := by rw [hX]; rfl
  clear hX
  have E := y_Ei hok hi (by decide) (cd := q_cd139) rfl
  show Y X 0 0 [some (.int s0), none, none] [] ws ts
  refine y_ic hC (E 0 _ rfl) ?_
  refine y_isn hC (E 1 _ rfl) ?_
  refine y_iln hC (E 2 _ rfl) rfl ?_
  refine y_isn hC (E 3 _ rfl) ?_
  exact h_bits hok hC hi hQ (by rw [hd]; exact Nat.le_refl _) (fun c => h_cp1 rfl rfl (List.mem_singleton.mpr rfl) (h_tint _ _ c)) _ s0 s0 (nI 0) (Nat.le_refl _)
end HB
section HC
variable {X : y_X} {n : Nat} {ws : va_W} {ts : List Nat} {post : Option Value → va_W → List Nat → Prop}
theorem h_div (hok : ∀ i, i < q_nM → q_mok i) (hC : y_C X) (hi : y_i X = 39) (hQ : y_end X post) (hn : n ≤ (y_d X).2) (hp : ∀ c : Int32, 2147483649 ≤ q_qb c → post (some (.int c)) ws ts) : ∀ (N : Nat) (a b x y : Int32) (r : Option Value), q_qb y ≤ N → 2147483649 ≤ q_qb x → Y X n 4 [some (.int a), some (.int b), some (.int x), some (.int y), r] [] ws ts := by
  have E := y_Ei hok hi (by decide) (cd := q_cd39) rfl
  intro N
  induction N with
  | zero =>
    intro a b x y r hy hx
    refine y_iln hC (E 4 _ rfl) rfl ?_
    refine y_if hC (E 5 _ rfl) (fun h => ?_) (fun h => ?_)
    · refine y_iln hC (E 15 _ rfl) rfl ?_
      exact y_ir hC hQ (E 16 _ rfl) hn (hp x hx)
    · have h : q_qb 0 < q_qb y := (q_lt_iff _ _).mp h
      rw [z_qb0] at h
      omega
  | succ N IH =>
    intro a b x y r hy hx
    refine y_iln hC (E 4 _ rfl) rfl ?_
    refine y_if hC (E 5 _ rfl) (fun h => ?_) (fun h => ?_)
    · refine y_iln hC (E 15 _ rfl) rfl ?_
      exact y_ir hC hQ (E 16 _ rfl) hn (hp x hx)
    · have h : q_qb 0 < q_qb y := (q_lt_iff _ _).mp h
      rw [z_qb0] at h
      have hr := z_qrem (x := x) h
      refine y_iln hC (E 6 _ rfl) rfl ?_
      refine y_iln hC (E 7 _ rfl) rfl ?_
      refine y_rem hC (E 8 _ rfl) (fun z => by rw [z, z_qb0] at h; omega) ?_
      refine y_is hC (E 9 _ rfl) ?_
      refine y_iln hC (E 10 _ rfl) rfl ?_
      refine y_isn hC (E 11 _ rfl) ?_
      refine y_il hC (E 12 _ rfl) rfl ?_
      refine y_isn hC (E 13 _ rfl) ?_
      refine y_go hC (E 14 _ rfl) ?_
      exact IH a b y _ _ (by omega) (by omega)
end HC
def h_Mdiv : z_M := (39, [(0, 2147483649, 4294967295), (0, 0, 4294967295)], [], [], 0, 0, true, [(0, 2147483649, 4294967295)], [])
section HD
variable {l : Launch} {base : Nat} {D : va_G} {sa : Nat → Nat} {J : va_W → List Nat → Prop}
theorem h_con_div (hok : ∀ i, i < q_nM → q_mok i) (hJ : ∀ ws ts ws' ts', J ws ts → z_Fr [] ws ts ws' ts' → J ws' ts') : z_Con l base D sa z_tt J h_Mdiv := by
  intro ws ts av bv ha hf hj
  obtain ⟨v0, v1, rfl, hv0, hv1⟩ := h_ta2 ha
  obtain ⟨a0, rfl, ha0, -⟩ := h_tvi hv0
  obtain ⟨b0, rfl, -⟩ := h_tvi hv1
  refine y_meth (J := J) (hok 39 (by decide)) (fun v hv => by
    rcases List.mem_cons.mp hv with rfl | hv
    · rfl
    · rcases List.mem_singleton.mp hv with rfl
      rfl) (show 2 ≤ 5 by decide) (fun ws' ts' h => hJ _ _ _ _ hj h) ?_
  intro p e s m below meth c X hX hC hQ
  have hi : y_i X = 39 := by rw [hX]; rfl
  have hd : y_d X = (0, 0) := by rw [hX]; rfl
  clear hX
  have E := y_Ei hok hi (by decide) (cd := q_cd39) rfl
  show Y X 0 0 [some (.int a0), some (.int b0), none, none, none] [] ws ts
  refine y_iln hC (E 0 _ rfl) rfl ?_
  refine y_isn hC (E 1 _ rfl) ?_
  refine y_iln hC (E 2 _ rfl) rfl ?_
  refine y_isn hC (E 3 _ rfl) ?_
  exact h_div hok hC hi hQ (by rw [hd]; exact Nat.le_refl _) (fun c hc => h_cp1 rfl rfl (List.mem_singleton.mpr rfl) (Or.inl ⟨rfl, c, rfl, hc, q_qb_hi c⟩)) _ a0 b0 a0 b0 none (Nat.le_refl _) ha0
end HD

/-! ===== guard, the reference: layFar, isGuarded (printed by wip/p1/zref2.py) ===== -/
def z_Inv (b B N : Nat) : Prop := (∀ j, j < 25 → q_get N j ≤ 4294967295) ∧ q_get N b = 0 ∧ ∀ j, j < 16 → q_get N j = 10000 ∨ (q_get N j < 10000 ∧ B.testBit j = true)
def z_Cl (s B : Nat) : Prop := ∀ c e, c < 16 → e < 16 → s.testBit c = false → z_sb c e = 1 → B.testBit e = true → B.testBit c = true
def z_S (N : Nat) : Nat → Nat
  | 0 => 0
  | n + 1 => z_S N n + q_get N n
def z_nr (s N c e : Nat) : Prop := s.testBit e = true ∨ ¬ z_sb c e = 1 ∨ q_get N c ≤ q_get N e + 1
theorem z_S_eq {N c v : Nat} (hv : v < 2 ^ 34) : ∀ n, n ≤ c → z_S (q_set N c v) n = z_S N n
  | 0, _ => rfl
  | n + 1, h => by
    show z_S (q_set N c v) n + q_get (q_set N c v) n = z_S N n + q_get N n
    rw [z_S_eq hv n (by omega), q_get_set N c v n hv, if_neg (by omega)]
theorem z_S_lt {N c v : Nat} (hv : v < q_get N c) (hv2 : v < 2 ^ 34) : ∀ n, c < n → z_S (q_set N c v) n < z_S N n
  | 0, h => by omega
  | n + 1, h => by
    show z_S (q_set N c v) n + q_get (q_set N c v) n < z_S N n + q_get N n
    rw [q_get_set N c v n hv2]
    by_cases e : n = c
    · rw [if_pos e, z_S_eq hv2 n (by omega), e]
      omega
    · rw [if_neg e]
      have := z_S_lt hv hv2 n (by omega)
      omega
theorem z_Inv.le {b B N : Nat} (h : z_Inv b B N) {j : Nat} (hj : j < 16) : q_get N j ≤ 10000 := by
  rcases h.2.2 j hj with g | g <;> omega
theorem z_Inv.set {b B s N c e : Nat} (hI : z_Inv b B N) (hB : z_Cl s B) (hb : b < 16) (hc : c < 16) (he : e < 16) (hsc : s.testBit c = false) (h1 : z_sb c e = 1) (h2 : q_get N e + 1 < q_get N c) : z_Inv b B (q_set N c (q_get N e + 1)) := by
  have hC := hI.le hc
  have hv : q_get N e + 1 < 2 ^ 34 := by omega
  have hbc : ¬ b = c := by
    intro g
    have := hI.2.1
    rw [g] at this
    omega
  have hBe : B.testBit e = true := by
    rcases hI.2.2 e he with g | g
    · omega
    · exact g.2
  refine ⟨fun j hj => ?_, ?_, fun j hj => ?_⟩
  · rw [q_get_set N c _ j hv]
    by_cases g : j = c
    · rw [if_pos g]
      omega
    · rw [if_neg g]
      exact hI.1 j hj
  · rw [q_get_set N c _ b hv, if_neg hbc]
    exact hI.2.1
  · rw [q_get_set N c _ j hv]
    by_cases g : j = c
    · rw [if_pos g]
      refine Or.inr ⟨by omega, ?_⟩
      rw [g]
      exact hB c e hc he hsc h1 hBe
    · rw [if_neg g]
      exact hI.2.2 j hj
theorem c6i {D b s B c : Nat} (hb : b < 16) (hs : s < 65536) (hB : z_Cl s B) (hc : c < 16) (hsc : s.testBit c = false) : ∀ (n e N m : Nat), e + n = 16 → z_Inv b B N → m ≤ 1 → ∃ N' m', z_Inv b B N' ∧ m' ≤ 1 ∧ ((m' = m ∧ N' = N ∧ ∀ f, e ≤ f → f < 16 → z_nr s N c f) ∨ (m' = 1 ∧ z_S N' 16 < z_S N 16)) ∧ ∀ R, Z (D + 1) 6 t6_157 [4294967377, b + 1, s + 1, m' + 1, c + 1, 17] [] (zh N') R → Z (D + 1) 6 t6_69 [4294967377, b + 1, s + 1, m + 1, c + 1, e + 1] [] (zh N) R
  | 0, e, N, m, he, hI, hm => by
    have e16 : e = 16 := by omega
    subst e16
    refine ⟨N, m, hI, hm, Or.inl ⟨rfl, rfl, fun f h1 h2 => by omega⟩, fun R k => ?_⟩
    refine z_il (c := 16) rfl (by decide) ?_
    refine z_aln (c := 4294967376) rfl (by decide) ?_
    refine z_ivt (sa := [4294967376]) (r := [16]) (rt := [16]) (j := 48) rfl rfl rfl rfl rfl (z_hc (by decide) z_hn) rfl rfl (show 48 < 96 by decide) (congrArg Prod.fst (zh48 N)) (c0) ?_
    refine z_iT (z_geT (by decide) (by decide) (by decide)) j6_157 ?_
    exact k
  | n + 1, e, N, m, he, hI, hm => by
    have hE : q_get N e ≤ 10000 := hI.le (by omega)
    have hC : q_get N c ≤ 10000 := hI.le hc
    have skip : z_nr s N c e → (∀ R, Z (D + 1) 6 t6_69 [4294967377, b + 1, s + 1, m + 1, c + 1, e + 1 + 1] [] (zh N) R → Z (D + 1) 6 t6_69 [4294967377, b + 1, s + 1, m + 1, c + 1, e + 1] [] (zh N) R) → ∃ N' m', z_Inv b B N' ∧ m' ≤ 1 ∧ ((m' = m ∧ N' = N ∧ ∀ f, e ≤ f → f < 16 → z_nr s N c f) ∨ (m' = 1 ∧ z_S N' 16 < z_S N 16)) ∧ ∀ R, Z (D + 1) 6 t6_157 [4294967377, b + 1, s + 1, m' + 1, c + 1, 17] [] (zh N') R → Z (D + 1) 6 t6_69 [4294967377, b + 1, s + 1, m + 1, c + 1, e + 1] [] (zh N) R := fun hnr hk => by
      obtain ⟨N', m', a1, a2, a3, a4⟩ := c6i (D := D) hb hs hB hc hsc n (e + 1) N m (by omega) hI hm
      refine ⟨N', m', a1, a2, ?_, fun R k => hk R (a4 R k)⟩
      rcases a3 with ⟨b1, b2, b3⟩ | b
      · refine Or.inl ⟨b1, b2, fun f h1 h2 => ?_⟩
        rcases Nat.eq_or_lt_of_le h1 with g | g
        · rw [← g]
          exact hnr
        · exact b3 f g h2
      · exact Or.inr b
    cases hbit : s.testBit e with
    | true =>
      refine skip (Or.inl hbit) (fun R k => ?_)
      refine z_il (c := e) rfl (by omega : e ≤ 4294967295) ?_
      refine z_aln (c := 4294967376) rfl (by decide) ?_
      refine z_ivt (sa := [4294967376]) (r := [e]) (rt := [16]) (j := 48) rfl rfl rfl rfl rfl (z_hc (by decide) z_hn) rfl rfl (show 48 < 96 by decide) (congrArg Prod.fst (zh48 N)) (c0) ?_
      refine z_iF (z_geF (by omega) (by decide) (by omega)) ?_
      refine z_iln (c := s) rfl (by omega : s ≤ 4294967295) ?_
      refine z_il (c := e) rfl (by omega : e ≤ 4294967295) ?_
      refine z_ist (sa := [e, s]) (r := []) (rt := [1]) rfl rfl rfl rfl rfl rfl (z_hc (z_ne (by omega : e ≤ 4294967295)) (z_hc (z_ne (by omega : s ≤ 4294967295)) z_hn)) rfl (c1T (by omega) (by omega) hbit) ?_
      refine z_cT (z_neT (by decide) (by decide) (by decide)) j6_151 ?_
      refine z_ii (c := e) (v := e + 1) rfl (show 5 < 6 by decide) rfl (by omega) ?_
      refine z_go j6_69 ?_
      exact k
    | false =>
      by_cases h1 : z_sb c e = 1
      · by_cases h2 : q_get N e + 1 < q_get N c
        · obtain ⟨N', m', a1, a2, a3, a4⟩ := c6i (D := D) hb hs hB hc hsc n (e + 1) (q_set N c (q_get N e + 1)) 1 (by omega) (hI.set hB hb hc (by omega) hsc h1 h2) (by omega)
          have hlt := z_S_lt (N := N) h2 (by omega) 16 hc
          refine ⟨N', m', a1, a2, Or.inr ?_, fun R k => ?_⟩
          · rcases a3 with ⟨b1, b2, b3⟩ | ⟨b1, b2⟩
            · rw [b2]
              exact ⟨b1, hlt⟩
            · exact ⟨b1, by omega⟩
          · have k := a4 R k
            refine z_il (c := e) rfl (by omega : e ≤ 4294967295) ?_
            refine z_aln (c := 4294967376) rfl (by decide) ?_
            refine z_ivt (sa := [4294967376]) (r := [e]) (rt := [16]) (j := 48) rfl rfl rfl rfl rfl (z_hc (by decide) z_hn) rfl rfl (show 48 < 96 by decide) (congrArg Prod.fst (zh48 N)) (c0) ?_
            refine z_iF (z_geF (by omega) (by decide) (by omega)) ?_
            refine z_iln (c := s) rfl (by omega : s ≤ 4294967295) ?_
            refine z_il (c := e) rfl (by omega : e ≤ 4294967295) ?_
            refine z_ist (sa := [e, s]) (r := []) (rt := [0]) rfl rfl rfl rfl rfl rfl (z_hc (z_ne (by omega : e ≤ 4294967295)) (z_hc (z_ne (by omega : s ≤ 4294967295)) z_hn)) rfl (c1F (by omega) (by omega) hbit) ?_
            refine z_cF (z_neF (by decide) rfl) ?_
            refine z_aln (c := 4294967376) rfl (by decide) ?_
            refine z_il (c := c) rfl (by omega : c ≤ 4294967295) ?_
            refine z_il (c := e) rfl (by omega : e ≤ 4294967295) ?_
            refine z_ivt (sa := [e, c, 4294967376]) (r := []) (rt := [z_sb c e]) (j := 48) rfl rfl rfl rfl rfl (z_hc (z_ne (by omega : e ≤ 4294967295)) (z_hc (z_ne (by omega : c ≤ 4294967295)) (z_hc (by decide) z_hn))) rfl rfl (show 48 < 96 by decide) (congrArg Prod.fst (zh48 N)) (c2 hc (by omega)) ?_
            refine z_ic ?_
            refine z_iF (z_neF (by unfold z_sb; omega) h1) ?_
            refine z_aln (c := 4294967376) rfl (by decide) ?_
            refine z_gf (j := 48) (v := 4294967404) rfl (show 48 < 96 by decide) (zhl N) (zh48 N) (by decide) z_g48_45 (by decide) ?_
            refine z_il (c := e) rfl (by omega : e ≤ 4294967295) ?_
            refine z_ia (j := 76) (m := e) (v := q_get N e) rfl (show 76 < 96 by decide) (zhl N) (zh76 N) (by omega) rfl ?_
            refine z_aln (c := 4294967376) rfl (by decide) ?_
            refine z_gf (j := 48) (v := 4294967405) rfl (show 48 < 96 by decide) (zhl N) (zh48 N) (by decide) z_g48_46 (by decide) ?_
            refine z_il (c := e) rfl (by omega : e ≤ 4294967295) ?_
            refine z_ia (j := 77) (m := e) (v := 1) rfl (show 77 < 96 by decide) (zhl N) (zh77 N) (by omega) (z_gw e (by omega)) ?_
            refine z_add (a := q_get N e) (b := 1) (v := q_get N e + 1) rfl (by omega : q_get N e + 1 ≤ 4294967295) ?_
            refine z_aln (c := 4294967376) rfl (by decide) ?_
            refine z_gf (j := 48) (v := 4294967404) rfl (show 48 < 96 by decide) (zhl N) (zh48 N) (by decide) z_g48_45 (by decide) ?_
            refine z_il (c := c) rfl (by omega : c ≤ 4294967295) ?_
            refine z_ia (j := 76) (m := c) (v := q_get N c) rfl (show 76 < 96 by decide) (zhl N) (zh76 N) (by omega) rfl ?_
            refine z_iT (z_ltT (by omega) (by omega) h2) j6_127 ?_
            refine z_aln (c := 4294967376) rfl (by decide) ?_
            refine z_gf (j := 48) (v := 4294967404) rfl (show 48 < 96 by decide) (zhl N) (zh48 N) (by decide) z_g48_45 (by decide) ?_
            refine z_il (c := c) rfl (by omega : c ≤ 4294967295) ?_
            refine z_aln (c := 4294967376) rfl (by decide) ?_
            refine z_gf (j := 48) (v := 4294967404) rfl (show 48 < 96 by decide) (zhl N) (zh48 N) (by decide) z_g48_45 (by decide) ?_
            refine z_il (c := e) rfl (by omega : e ≤ 4294967295) ?_
            refine z_ia (j := 76) (m := e) (v := q_get N e) rfl (show 76 < 96 by decide) (zhl N) (zh76 N) (by omega) rfl ?_
            refine z_aln (c := 4294967376) rfl (by decide) ?_
            refine z_gf (j := 48) (v := 4294967405) rfl (show 48 < 96 by decide) (zhl N) (zh48 N) (by decide) z_g48_46 (by decide) ?_
            refine z_il (c := e) rfl (by omega : e ≤ 4294967295) ?_
            refine z_ia (j := 77) (m := e) (v := 1) rfl (show 77 < 96 by decide) (zhl N) (zh77 N) (by omega) (z_gw e (by omega)) ?_
            refine z_add (a := q_get N e) (b := 1) (v := q_get N e + 1) rfl (by omega : q_get N e + 1 ≤ 4294967295) ?_
            refine z_ias (j := 76) (m := c) (v := q_get N e + 1) (h' := zh (q_set N c (q_get N e + 1))) rfl (show 76 < 96 by decide) (zhl N) (zh76 N) (by omega) (by omega : q_get N e + 1 ≤ 4294967295) (zhu _ _) ?_
            refine z_ic ?_
            refine z_isn (show 3 < 6 by decide) (by decide) ?_
            refine z_ii (c := e) (v := e + 1) rfl (show 5 < 6 by decide) rfl (by omega) ?_
            refine z_go j6_69 ?_
            exact k
        · refine skip (Or.inr (Or.inr (by omega))) (fun R k => ?_)
          refine z_il (c := e) rfl (by omega : e ≤ 4294967295) ?_
          refine z_aln (c := 4294967376) rfl (by decide) ?_
          refine z_ivt (sa := [4294967376]) (r := [e]) (rt := [16]) (j := 48) rfl rfl rfl rfl rfl (z_hc (by decide) z_hn) rfl rfl (show 48 < 96 by decide) (congrArg Prod.fst (zh48 N)) (c0) ?_
          refine z_iF (z_geF (by omega) (by decide) (by omega)) ?_
          refine z_iln (c := s) rfl (by omega : s ≤ 4294967295) ?_
          refine z_il (c := e) rfl (by omega : e ≤ 4294967295) ?_
          refine z_ist (sa := [e, s]) (r := []) (rt := [0]) rfl rfl rfl rfl rfl rfl (z_hc (z_ne (by omega : e ≤ 4294967295)) (z_hc (z_ne (by omega : s ≤ 4294967295)) z_hn)) rfl (c1F (by omega) (by omega) hbit) ?_
          refine z_cF (z_neF (by decide) rfl) ?_
          refine z_aln (c := 4294967376) rfl (by decide) ?_
          refine z_il (c := c) rfl (by omega : c ≤ 4294967295) ?_
          refine z_il (c := e) rfl (by omega : e ≤ 4294967295) ?_
          refine z_ivt (sa := [e, c, 4294967376]) (r := []) (rt := [z_sb c e]) (j := 48) rfl rfl rfl rfl rfl (z_hc (z_ne (by omega : e ≤ 4294967295)) (z_hc (z_ne (by omega : c ≤ 4294967295)) (z_hc (by decide) z_hn))) rfl rfl (show 48 < 96 by decide) (congrArg Prod.fst (zh48 N)) (c2 hc (by omega)) ?_
          refine z_ic ?_
          refine z_iF (z_neF (by unfold z_sb; omega) h1) ?_
          refine z_aln (c := 4294967376) rfl (by decide) ?_
          refine z_gf (j := 48) (v := 4294967404) rfl (show 48 < 96 by decide) (zhl N) (zh48 N) (by decide) z_g48_45 (by decide) ?_
          refine z_il (c := e) rfl (by omega : e ≤ 4294967295) ?_
          refine z_ia (j := 76) (m := e) (v := q_get N e) rfl (show 76 < 96 by decide) (zhl N) (zh76 N) (by omega) rfl ?_
          refine z_aln (c := 4294967376) rfl (by decide) ?_
          refine z_gf (j := 48) (v := 4294967405) rfl (show 48 < 96 by decide) (zhl N) (zh48 N) (by decide) z_g48_46 (by decide) ?_
          refine z_il (c := e) rfl (by omega : e ≤ 4294967295) ?_
          refine z_ia (j := 77) (m := e) (v := 1) rfl (show 77 < 96 by decide) (zhl N) (zh77 N) (by omega) (z_gw e (by omega)) ?_
          refine z_add (a := q_get N e) (b := 1) (v := q_get N e + 1) rfl (by omega : q_get N e + 1 ≤ 4294967295) ?_
          refine z_aln (c := 4294967376) rfl (by decide) ?_
          refine z_gf (j := 48) (v := 4294967404) rfl (show 48 < 96 by decide) (zhl N) (zh48 N) (by decide) z_g48_45 (by decide) ?_
          refine z_il (c := c) rfl (by omega : c ≤ 4294967295) ?_
          refine z_ia (j := 76) (m := c) (v := q_get N c) rfl (show 76 < 96 by decide) (zhl N) (zh76 N) (by omega) rfl ?_
          refine z_iF (z_ltF (by omega) (by omega) (by omega)) ?_
          refine z_go j6_151 ?_
          refine z_ii (c := e) (v := e + 1) rfl (show 5 < 6 by decide) rfl (by omega) ?_
          refine z_go j6_69 ?_
          exact k
      · refine skip (Or.inr (Or.inl h1)) (fun R k => ?_)
        refine z_il (c := e) rfl (by omega : e ≤ 4294967295) ?_
        refine z_aln (c := 4294967376) rfl (by decide) ?_
        refine z_ivt (sa := [4294967376]) (r := [e]) (rt := [16]) (j := 48) rfl rfl rfl rfl rfl (z_hc (by decide) z_hn) rfl rfl (show 48 < 96 by decide) (congrArg Prod.fst (zh48 N)) (c0) ?_
        refine z_iF (z_geF (by omega) (by decide) (by omega)) ?_
        refine z_iln (c := s) rfl (by omega : s ≤ 4294967295) ?_
        refine z_il (c := e) rfl (by omega : e ≤ 4294967295) ?_
        refine z_ist (sa := [e, s]) (r := []) (rt := [0]) rfl rfl rfl rfl rfl rfl (z_hc (z_ne (by omega : e ≤ 4294967295)) (z_hc (z_ne (by omega : s ≤ 4294967295)) z_hn)) rfl (c1F (by omega) (by omega) hbit) ?_
        refine z_cF (z_neF (by decide) rfl) ?_
        refine z_aln (c := 4294967376) rfl (by decide) ?_
        refine z_il (c := c) rfl (by omega : c ≤ 4294967295) ?_
        refine z_il (c := e) rfl (by omega : e ≤ 4294967295) ?_
        refine z_ivt (sa := [e, c, 4294967376]) (r := []) (rt := [z_sb c e]) (j := 48) rfl rfl rfl rfl rfl (z_hc (z_ne (by omega : e ≤ 4294967295)) (z_hc (z_ne (by omega : c ≤ 4294967295)) (z_hc (by decide) z_hn))) rfl rfl (show 48 < 96 by decide) (congrArg Prod.fst (zh48 N)) (c2 hc (by omega)) ?_
        refine z_ic ?_
        refine z_iT (z_neT (by unfold z_sb; omega) (by decide) h1) j6_151 ?_
        refine z_ii (c := e) (v := e + 1) rfl (show 5 < 6 by decide) rfl (by omega) ?_
        refine z_go j6_69 ?_
        exact k
theorem c6m {D b s B : Nat} (hb : b < 16) (hs : s < 65536) (hB : z_Cl s B) : ∀ (n c N m l5 : Nat), c + n = 16 → z_Inv b B N → m ≤ 1 → ∃ N' m' l5', z_Inv b B N' ∧ m' ≤ 1 ∧ ((m' = m ∧ N' = N ∧ ∀ c', c ≤ c' → c' < 16 → s.testBit c' = false → ∀ f, f < 16 → z_nr s N c' f) ∨ (m' = 1 ∧ z_S N' 16 < z_S N 16)) ∧ ∀ R, Z (D + 1) 6 t6_163 [4294967377, b + 1, s + 1, m' + 1, 17, l5'] [] (zh N') R → Z (D + 1) 6 t6_45 [4294967377, b + 1, s + 1, m + 1, c + 1, l5] [] (zh N) R
  | 0, c, N, m, l5, he, hI, hm => by
    have e16 : c = 16 := by omega
    subst e16
    refine ⟨N, m, l5, hI, hm, Or.inl ⟨rfl, rfl, fun f h1 h2 => by omega⟩, fun R k => ?_⟩
    refine z_il (c := 16) rfl (by decide) ?_
    refine z_aln (c := 4294967376) rfl (by decide) ?_
    refine z_ivt (sa := [4294967376]) (r := [16]) (rt := [16]) (j := 48) rfl rfl rfl rfl rfl (z_hc (by decide) z_hn) rfl rfl (show 48 < 96 by decide) (congrArg Prod.fst (zh48 N)) (c0) ?_
    refine z_iT (z_geT (by decide) (by decide) (by decide)) j6_163 ?_
    exact k
  | n + 1, c, N, m, l5, he, hI, hm => by
    have hc : c < 16 := by omega
    cases hbit : s.testBit c with
    | true =>
      obtain ⟨N', m', l6, a1, a2, a3, a4⟩ := c6m (D := D) hb hs hB n (c + 1) N m l5 (by omega) hI hm
      refine ⟨N', m', l6, a1, a2, ?_, fun R k => ?_⟩
      · rcases a3 with ⟨b1, b2, b3⟩ | b
        · refine Or.inl ⟨b1, b2, fun c' h1 h2 h3 => ?_⟩
          rcases Nat.eq_or_lt_of_le h1 with g | g
          · rw [← g, hbit] at h3
            cases h3
          · exact b3 c' g h2 h3
        · exact Or.inr b
      · have k := a4 R k
        refine z_il (c := c) rfl (by omega : c ≤ 4294967295) ?_
        refine z_aln (c := 4294967376) rfl (by decide) ?_
        refine z_ivt (sa := [4294967376]) (r := [c]) (rt := [16]) (j := 48) rfl rfl rfl rfl rfl (z_hc (by decide) z_hn) rfl rfl (show 48 < 96 by decide) (congrArg Prod.fst (zh48 N)) (c0) ?_
        refine z_iF (z_geF (by omega) (by decide) (by omega)) ?_
        refine z_iln (c := s) rfl (by omega : s ≤ 4294967295) ?_
        refine z_il (c := c) rfl (by omega : c ≤ 4294967295) ?_
        refine z_ist (sa := [c, s]) (r := []) (rt := [1]) rfl rfl rfl rfl rfl rfl (z_hc (z_ne (by omega : c ≤ 4294967295)) (z_hc (z_ne (by omega : s ≤ 4294967295)) z_hn)) rfl (c1T (by omega) (by omega) hbit) ?_
        refine z_cF (z_eqF (by decide) (by decide) (by decide)) ?_
        refine z_go j6_157 ?_
        refine z_ii (c := c) (v := c + 1) rfl (show 4 < 6 by decide) rfl (by omega) ?_
        refine z_go j6_45 ?_
        exact k
    | false =>
      obtain ⟨N1, m1, a1, a2, a3, a4⟩ := c6i (D := D) hb hs hB hc hbit 16 0 N m (by omega) hI hm
      obtain ⟨N', m', l6, d1, d2, d3, d4⟩ := c6m (D := D) hb hs hB n (c + 1) N1 m1 17 (by omega) a1 a2
      refine ⟨N', m', l6, d1, d2, ?_, fun R k => ?_⟩
      · rcases a3 with ⟨b1, b2, b3⟩ | ⟨b1, b2⟩
        · rcases d3 with ⟨e1, e2, e3⟩ | ⟨e1, e2⟩
          · refine Or.inl ⟨by rw [e1, b1], by rw [e2, b2], fun c' h1 h2 h3 => ?_⟩
            rcases Nat.eq_or_lt_of_le h1 with g | g
            · rw [← g]
              exact fun f hf => b3 f (Nat.zero_le _) hf
            · have := e3 c' g h2 h3
              rw [b2] at this
              exact this
          · rw [b2] at e2
            exact Or.inr ⟨e1, e2⟩
        · rcases d3 with ⟨e1, e2, e3⟩ | ⟨e1, e2⟩
          · refine Or.inr ⟨by rw [e1, b1], by rw [e2]; exact b2⟩
          · exact Or.inr ⟨e1, by omega⟩
      · have k := d4 R k
        have k1 : Z (D + 1) 6 t6_157 [4294967377, b + 1, s + 1, m1 + 1, c + 1, 17] [] (zh N1) R := by
          refine z_ii (c := c) (v := c + 1) rfl (show 4 < 6 by decide) rfl (by omega) ?_
          refine z_go j6_45 ?_
          exact k
        have k := a4 R k1
        refine z_il (c := c) rfl (by omega : c ≤ 4294967295) ?_
        refine z_aln (c := 4294967376) rfl (by decide) ?_
        refine z_ivt (sa := [4294967376]) (r := [c]) (rt := [16]) (j := 48) rfl rfl rfl rfl rfl (z_hc (by decide) z_hn) rfl rfl (show 48 < 96 by decide) (congrArg Prod.fst (zh48 N)) (c0) ?_
        refine z_iF (z_geF (by omega) (by decide) (by omega)) ?_
        refine z_iln (c := s) rfl (by omega : s ≤ 4294967295) ?_
        refine z_il (c := c) rfl (by omega : c ≤ 4294967295) ?_
        refine z_ist (sa := [c, s]) (r := []) (rt := [0]) rfl rfl rfl rfl rfl rfl (z_hc (z_ne (by omega : c ≤ 4294967295)) (z_hc (z_ne (by omega : s ≤ 4294967295)) z_hn)) rfl (c1F (by omega) (by omega) hbit) ?_
        refine z_cT (z_eqT (by decide) rfl) j6_66 ?_
        refine z_ic ?_
        refine z_is (show 5 < 6 by decide) (by decide) ?_
        exact k
theorem c6o {D b s B : Nat} (hb : b < 16) (hs : s < 65536) (hB : z_Cl s B) : ∀ (q N l4 l5 : Nat), z_S N 16 ≤ q → z_Inv b B N → ∃ N', z_Inv b B N' ∧ (∀ c, c < 16 → s.testBit c = false → ∀ f, f < 16 → z_nr s N' c f) ∧ Z (D + 1) 6 t6_36 [4294967377, b + 1, s + 1, 2, l4, l5] [] (zh N) (zh N', [])
  | q, N, l4, l5, hq, hI => by
    obtain ⟨N1, m1, l6, a1, a2, a3, a4⟩ := c6m (D := D) hb hs hB 16 0 N 0 l5 (by omega) hI (by omega)
    rcases a3 with ⟨b1, b2, b3⟩ | ⟨b1, b2⟩
    · subst b1
      subst b2
      refine ⟨N1, a1, fun c hc => b3 c (Nat.zero_le _) hc, ?_⟩
      have k1 : Z (D + 1) 6 t6_163 [4294967377, b + 1, s + 1, 0 + 1, 17, l6] [] (zh N1) (zh N1, []) := by
        refine z_go j6_36 ?_
        refine z_iln (c := 0) rfl (by decide) ?_
        refine z_cT (z_eqT (by decide) rfl) j6_166 ?_
        exact z_rt
      have k := a4 _ k1
      refine z_iln (c := 1) rfl (by decide) ?_
      refine z_cF (z_eqF (by decide) (by decide) (by decide)) ?_
      refine z_ic ?_
      refine z_isn (show 3 < 6 by decide) (by decide) ?_
      refine z_ic ?_
      refine z_is (show 4 < 6 by decide) (by decide) ?_
      exact k
    · subst b1
      match q, hq with
      | 0, hq => omega
      | q + 1, hq =>
        obtain ⟨N2, d1, d2, d3⟩ := c6o (D := D) hb hs hB q N1 17 l6 (by omega) a1
        refine ⟨N2, d1, d2, ?_⟩
        have k1 : Z (D + 1) 6 t6_163 [4294967377, b + 1, s + 1, 1 + 1, 17, l6] [] (zh N1) (zh N2, []) := by
          refine z_go j6_36 ?_
          exact d3
        have k := a4 _ k1
        refine z_iln (c := 1) rfl (by decide) ?_
        refine z_cF (z_eqF (by decide) (by decide) (by decide)) ?_
        refine z_ic ?_
        refine z_isn (show 3 < 6 by decide) (by decide) ?_
        refine z_ic ?_
        refine z_is (show 4 < 6 by decide) (by decide) ?_
        exact k
theorem c6a {D b s : Nat} (hb : b < 16) (hs : s < 65536) : ∀ (n c N : Nat), c + n = 16 → (∀ j, j < 25 → q_get N j ≤ 4294967295) → (∀ j, j < c → q_get N j = if j = b then 0 else 10000) → ∃ N', (∀ j, j < 25 → q_get N' j ≤ 4294967295) ∧ (∀ j, j < 16 → q_get N' j = if j = b then 0 else 10000) ∧ ∀ R, Z (D + 1) 6 t6_34 [4294967377, b + 1, s + 1, 17, 0, 0] [] (zh N') R → Z (D + 1) 6 t6_2 [4294967377, b + 1, s + 1, c + 1, 0, 0] [] (zh N) R
  | 0, c, N, hc, hI, hJ => by
    have e16 : c = 16 := by omega
    subst e16
    refine ⟨N, hI, hJ, fun R k => ?_⟩
    refine z_iln (c := 16) rfl (by decide) ?_
    refine z_aln (c := 4294967376) rfl (by decide) ?_
    refine z_ivt (sa := [4294967376]) (r := [16]) (rt := [16]) (j := 48) rfl rfl rfl rfl rfl (z_hc (by decide) z_hn) rfl rfl (show 48 < 96 by decide) (congrArg Prod.fst (zh48 N)) (c0) ?_
    refine z_iT (z_geT (by decide) (by decide) (by decide)) j6_34 ?_
    exact k
  | n + 1, c, N, hc, hI, hJ => by
    by_cases h1 : c = b
    · skip
      obtain ⟨N', a1, a2, a3⟩ := c6a (D := D) hb hs n (c + 1) (q_set N c 0) (by omega) (fun j hj => by
        rw [q_get_set N c 0 j (by decide)]
        by_cases g : j = c
        · rw [if_pos g]; omega
        · rw [if_neg g]; exact hI j hj) (fun j hj => by
        rw [q_get_set N c 0 j (by decide)]
        by_cases g : j = c
        · rw [if_pos g, g]; simp [h1]
        · rw [if_neg g]; exact hJ j (by omega))
      refine ⟨N', a1, a2, fun R k => ?_⟩
      have k := a3 R k
      refine z_iln (c := c) rfl (by omega : c ≤ 4294967295) ?_
      refine z_aln (c := 4294967376) rfl (by decide) ?_
      refine z_ivt (sa := [4294967376]) (r := [c]) (rt := [16]) (j := 48) rfl rfl rfl rfl rfl (z_hc (by decide) z_hn) rfl rfl (show 48 < 96 by decide) (congrArg Prod.fst (zh48 N)) (c0) ?_
      refine z_iF (z_geF (by omega) (by decide) (by omega)) ?_
      refine z_aln (c := 4294967376) rfl (by decide) ?_
      refine z_gf (j := 48) (v := 4294967404) rfl (show 48 < 96 by decide) (zhl N) (zh48 N) (by decide) z_g48_45 (by decide) ?_
      refine z_iln (c := c) rfl (by omega : c ≤ 4294967295) ?_
      refine z_iln (c := c) rfl (by omega : c ≤ 4294967295) ?_
      refine z_iln (c := b) rfl (by omega : b ≤ 4294967295) ?_
      refine z_iF (z_neF (by omega) h1) ?_
      refine z_ic ?_
      refine z_go j6_27 ?_
      refine z_ias (j := 76) (m := c) (v := 0) (h' := zh (q_set N c 0)) rfl (show 76 < 96 by decide) (zhl N) (zh76 N) (by omega) (by decide) (zhu _ _) ?_
      refine z_ii (c := c) (v := c + 1) rfl (show 3 < 6 by decide) rfl (by omega) ?_
      refine z_go j6_2 ?_
      exact k
    · skip
      obtain ⟨N', a1, a2, a3⟩ := c6a (D := D) hb hs n (c + 1) (q_set N c 10000) (by omega) (fun j hj => by
        rw [q_get_set N c 10000 j (by decide)]
        by_cases g : j = c
        · rw [if_pos g]; omega
        · rw [if_neg g]; exact hI j hj) (fun j hj => by
        rw [q_get_set N c 10000 j (by decide)]
        by_cases g : j = c
        · rw [if_pos g, g]; simp [h1]
        · rw [if_neg g]; exact hJ j (by omega))
      refine ⟨N', a1, a2, fun R k => ?_⟩
      have k := a3 R k
      refine z_iln (c := c) rfl (by omega : c ≤ 4294967295) ?_
      refine z_aln (c := 4294967376) rfl (by decide) ?_
      refine z_ivt (sa := [4294967376]) (r := [c]) (rt := [16]) (j := 48) rfl rfl rfl rfl rfl (z_hc (by decide) z_hn) rfl rfl (show 48 < 96 by decide) (congrArg Prod.fst (zh48 N)) (c0) ?_
      refine z_iF (z_geF (by omega) (by decide) (by omega)) ?_
      refine z_aln (c := 4294967376) rfl (by decide) ?_
      refine z_gf (j := 48) (v := 4294967404) rfl (show 48 < 96 by decide) (zhl N) (zh48 N) (by decide) z_g48_45 (by decide) ?_
      refine z_iln (c := c) rfl (by omega : c ≤ 4294967295) ?_
      refine z_iln (c := c) rfl (by omega : c ≤ 4294967295) ?_
      refine z_iln (c := b) rfl (by omega : b ≤ 4294967295) ?_
      refine z_iT (z_neT (by omega) (by omega) h1) j6_24 ?_
      refine z_sp ?_
      refine z_ias (j := 76) (m := c) (v := 10000) (h' := zh (q_set N c 10000)) rfl (show 76 < 96 by decide) (zhl N) (zh76 N) (by omega) (by decide) (zhu _ _) ?_
      refine z_ii (c := c) (v := c + 1) rfl (show 3 < 6 by decide) rfl (by omega) ?_
      refine z_go j6_2 ?_
      exact k
theorem c6 {D b s B N : Nat} (hb : b < 16) (hs : s < 65536) (hB : z_Cl s B) (hbB : B.testBit b = true) (hN : ∀ j, j < 25 → q_get N j ≤ 4294967295) : ∃ N', z_Inv b B N' ∧ (∀ c, c < 16 → s.testBit c = false → ∀ f, f < 16 → z_nr s N' c f) ∧ ZC (D + 1) 6 [4294967376, b, s] (zh N) (zh N', []) := by
  obtain ⟨N1, a1, a2, a3⟩ := c6a (D := D) hb hs 16 0 N (by omega) hN (fun j hj => by omega)
  have hI : z_Inv b B N1 := ⟨a1, by rw [a2 b hb, if_pos rfl], fun j hj => by
    rw [a2 j hj]
    by_cases g : j = b
    · rw [if_pos g, g]
      exact Or.inr ⟨by decide, hbB⟩
    · rw [if_neg g]
      exact Or.inl rfl⟩
  obtain ⟨N2, d1, d2, d3⟩ := c6o (D := D) hb hs hB (z_S N1 16) N1 0 0 (Nat.le_refl _) hI
  refine ⟨N2, d1, d2, ?_⟩
  have k1 : Z (D + 1) 6 t6_34 [4294967377, b + 1, s + 1, 17, 0, 0] [] (zh N1) (zh N2, []) := by
    refine z_ic ?_
    refine z_isn (show 3 < 6 by decide) (by decide) ?_
    exact d3
  have k := a3 _ k1
  refine z_C (l := [4294967377, b + 1, s + 1, 0, 0, 0]) (z_bc (by decide) (z_bc (z_em (by omega : b ≤ 4294967295)) (z_bc (z_em (by omega : s ≤ 4294967295)) z_bn))) t6 (fun j => by rcases j with _ | _ | _ | _ | _ | _ | _ | _ | _ | _ | _ | _ | j <;> rfl) ?_
  refine z_ic ?_
  refine z_isn (show 3 < 6 by decide) (by decide) ?_
  exact k
/-! the cells that steps join to b, by bits -/
def z_sp2 (r : Nat) : Nat := Nat.lor r (Nat.lor (Nat.lor (Nat.shiftLeft (Nat.land r 30583) 1) (Nat.shiftRight (Nat.land r 61166) 1)) (Nat.lor (Nat.shiftLeft r 4) (Nat.shiftRight r 4)))
noncomputable def z_B (w n : Nat) : Nat → Nat := Nat.rec (fun r => r) (fun _ ih r => q_fr (Nat.land (z_sp2 r) w) (fun x => bif Nat.beq x r then r else ih x)) n
theorem z_BS (w n r : Nat) : z_B w (n + 1) r = bif Nat.beq (Nat.land (z_sp2 r) w) r then r else z_B w n (Nat.land (z_sp2 r) w) := by
  show q_fr (Nat.land (z_sp2 r) w) (fun x => bif Nat.beq x r then r else z_B w n x) = _
  rw [q_fr_eq]
theorem z_sp2b (r c : Nat) : (z_sp2 r).testBit c = (r.testBit c || (((decide (c ≥ 1) && (r.testBit (c - 1) && (30583 : Nat).testBit (c - 1))) || (r.testBit (1 + c) && (61166 : Nat).testBit (1 + c))) || ((decide (c ≥ 4) && r.testBit (c - 4)) || r.testBit (4 + c)))) := by
  show (r ||| (((r &&& 30583) <<< 1 ||| (r &&& 61166) >>> 1) ||| (r <<< 4 ||| r >>> 4))).testBit c = _
  simp only [Nat.testBit_or, Nat.testBit_and, Nat.testBit_shiftLeft, Nat.testBit_shiftRight]
theorem z_tab1 : ∀ c, c < 16 → (c ≥ 1 → (30583 : Nat).testBit (c - 1) = true → z_sb c (c - 1) = 1) ∧ ((61166 : Nat).testBit (1 + c) = true → 1 + c < 16 ∧ z_sb c (1 + c) = 1) ∧ (c ≥ 4 → z_sb c (c - 4) = 1) ∧ (4 + c < 16 → z_sb c (4 + c) = 1) := by decide
def z_t2 (c e : Nat) : Bool := !(Nat.beq (z_sb c e) 1) || ((Nat.ble 1 c && (Nat.beq e (c - 1) && (30583 : Nat).testBit (c - 1))) || ((Nat.beq e (1 + c) && (61166 : Nat).testBit (1 + c)) || ((Nat.ble 4 c && Nat.beq e (c - 4)) || Nat.beq e (4 + c))))
theorem z_t2a : ∀ c, c < 16 → ∀ e, e < 16 → z_t2 c e = true := by decide
theorem z_tab2 {c e : Nat} (hc : c < 16) (he : e < 16) (h : z_sb c e = 1) : (c ≥ 1 ∧ e = c - 1 ∧ (30583 : Nat).testBit (c - 1) = true) ∨ (e = 1 + c ∧ (61166 : Nat).testBit (1 + c) = true) ∨ (c ≥ 4 ∧ e = c - 4) ∨ e = 4 + c := by
  have := z_t2a c hc e he
  unfold z_t2 at this
  rw [q_beq.mpr h] at this
  rcases q_ors this with g | g
  · cases g
  rcases q_ors g with g | g
  · obtain ⟨g1, g2⟩ := q_ands g
    obtain ⟨g2, g3⟩ := q_ands g2
    exact Or.inl ⟨q_ble.mp g1, q_beq.mp g2, g3⟩
  rcases q_ors g with g | g
  · obtain ⟨g1, g2⟩ := q_ands g
    exact Or.inr (Or.inl ⟨q_beq.mp g1, g2⟩)
  rcases q_ors g with g | g
  · obtain ⟨g1, g2⟩ := q_ands g
    exact Or.inr (Or.inr (Or.inl ⟨q_ble.mp g1, q_beq.mp g2⟩))
  · exact Or.inr (Or.inr (Or.inr (q_beq.mp g)))
theorem z_lt16 {r c : Nat} (hr : r < 65536) (h : r.testBit c = true) : c < 16 := by
  rcases Nat.lt_or_ge c 16 with g | g
  · exact g
  · have := Nat.testBit_lt_two_pow (x := r) (i := c) (Nat.lt_of_lt_of_le hr (Nat.pow_le_pow_right (by decide) g : 2 ^ 16 ≤ 2 ^ c))
    rw [this] at h
    cases h
theorem z_sp2i {r c : Nat} (hr : r < 65536) (hc : c < 16) (h : (z_sp2 r).testBit c = true) : r.testBit c = true ∨ ∃ e, e < 16 ∧ z_sb c e = 1 ∧ r.testBit e = true := by
  rw [z_sp2b] at h
  obtain ⟨t1, t2, t3, t4⟩ := z_tab1 c hc
  simp only [Bool.or_eq_true, Bool.and_eq_true, decide_eq_true_eq] at h
  rcases h with h | (⟨h1, h2, h3⟩ | ⟨h1, h2⟩) | (⟨h1, h2⟩ | h)
  · exact Or.inl h
  · exact Or.inr ⟨c - 1, by omega, t1 h1 h3, h2⟩
  · exact Or.inr ⟨1 + c, (t2 h2).1, (t2 h2).2, h1⟩
  · exact Or.inr ⟨c - 4, by omega, t3 h1, h2⟩
  · exact Or.inr ⟨4 + c, z_lt16 hr h, t4 (z_lt16 hr h), h⟩
theorem z_sp2r {r c e : Nat} (hc : c < 16) (he : e < 16) (h1 : z_sb c e = 1) (h : r.testBit e = true) : (z_sp2 r).testBit c = true := by
  rw [z_sp2b]
  rcases z_tab2 hc he h1 with ⟨g1, g2, g3⟩ | ⟨g1, g2⟩ | ⟨g1, g2⟩ | g1
  · rw [g2] at h
    rw [h, g3, decide_eq_true g1]
    simp
  · rw [g1] at h
    rw [h, g2]
    simp
  · rw [g2] at h
    rw [h, decide_eq_true g1]
    simp
  · rw [g1] at h
    rw [h]
    simp
theorem z_wb {s c : Nat} (hc : c < 16) : (Nat.xor 65535 s).testBit c = !s.testBit c := by
  show (65535 ^^^ s).testBit c = _
  rw [Nat.testBit_xor, show (65535 : Nat).testBit c = true from (by decide : ∀ c, c < 16 → (65535 : Nat).testBit c = true) c hc]
  cases s.testBit c <;> rfl
theorem z_lb (a w c : Nat) : (Nat.land a w).testBit c = (a.testBit c && w.testBit c) := Nat.testBit_and a w c
/-- each cell of the set is joined to b by as many steps as rounds -/
theorem z_Br {s N : Nat} (hs : s < 65536) (hnr : ∀ c, c < 16 → s.testBit c = false → ∀ f, f < 16 → z_nr s N c f) : ∀ (n k r : Nat), r < 65536 → (∀ c, c < 16 → r.testBit c = true → s.testBit c = false ∧ q_get N c ≤ k) → ∀ c, c < 16 → (z_B (Nat.xor 65535 s) n r).testBit c = true → q_get N c ≤ k + n
  | 0, k, r, hr, h, c, hc, hb => (h c hc hb).2
  | n + 1, k, r, hr, h, c, hc, hb => by
    rw [z_BS] at hb
    cases e : Nat.beq (Nat.land (z_sp2 r) (Nat.xor 65535 s)) r with
    | true =>
      rw [q_ift _ _ e] at hb
      have := (h c hc hb).2
      omega
    | false =>
      rw [q_iff _ _ e] at hb
      have hw : Nat.xor 65535 s < 65536 := Nat.xor_lt_two_pow (n := 16) (by decide) hs
      have hr2 : Nat.land (z_sp2 r) (Nat.xor 65535 s) < 65536 := Nat.lt_of_le_of_lt (Nat.and_le_right (n := z_sp2 r) (m := Nat.xor 65535 s)) hw
      have := z_Br hs hnr n (k + 1) _ hr2 (fun c hc hb => by
        rw [z_lb, Bool.and_eq_true, z_wb hc] at hb
        have hsc : s.testBit c = false := by
          have := hb.2
          cases g : s.testBit c with
          | true => rw [g] at this; cases this
          | false => rfl
        refine ⟨hsc, ?_⟩
        rcases z_sp2i hr hc hb.1 with g | ⟨e, he, g1, g2⟩
        · have := (h c hc g).2
          omega
        · have h2 := h e he g2
          rcases hnr c hc hsc e he with g | g | g
          · rw [h2.1] at g
            cases g
          · exact absurd g1 g
          · omega) c hc hb
      omega
noncomputable def z_Bs (b s : Nat) : Nat := z_B (Nat.xor 65535 s) 25 (Nat.shiftLeft 1 b)
/-- nothing is left out -/
noncomputable def z_clo (b s : Nat) : Bool := q_fr (z_Bs b s) (fun B => Nat.beq (Nat.land (z_sp2 B) (Nat.xor 65535 s)) B && Nat.testBit B b)
theorem z_clo_ok {b s : Nat} (h : z_clo b s = true) : z_Cl s (z_Bs b s) ∧ (z_Bs b s).testBit b = true := by
  unfold z_clo at h
  rw [q_fr_eq] at h
  obtain ⟨h1, h2⟩ := q_ands h
  refine ⟨fun c e hc he hsc h3 h4 => ?_, h2⟩
  rw [← q_beq.mp h1, z_lb, z_sp2r hc he h3 h4, z_wb hc, hsc]
  rfl
theorem z_lt1 {c : Nat} (h : (1 : Nat).testBit c = true) : c = 0 := by
  cases c with
  | zero => rfl
  | succ c =>
    rw [Nat.testBit_succ] at h
    simp at h
theorem z_1b {b c : Nat} : (Nat.shiftLeft 1 b).testBit c = true → c = b := by
  intro h
  have h : (1 <<< b).testBit c = true := h
  rw [Nat.testBit_shiftLeft] at h
  simp only [Bool.and_eq_true, decide_eq_true_eq] at h
  have := z_lt1 h.2
  omega
noncomputable def z_ig (a b s : Nat) : Bool := !Nat.testBit (z_Bs b s) a
theorem c7 {D a b s N : Nat} (ha : a < 16) (hb : b < 16) (hs : s < 65536) (hsb : s.testBit b = false) (hc : z_clo b s = true) (hN : ∀ j, j < 25 → q_get N j ≤ 4294967295) : ∃ N', (∀ j, j < 25 → q_get N' j ≤ 4294967295) ∧ ZC (D + 2) 7 [4294967376, a, b, s] (zh N) (zh N', [(z_ig a b s).toNat]) := by
  obtain ⟨hB, hbB⟩ := z_clo_ok hc
  obtain ⟨N1, hI, hnr, k⟩ := c6 (D := D) hb hs hB hbB hN
  refine ⟨N1, hI.1, ?_⟩
  have hA := hI.le ha
  refine z_C (l := [4294967377, a + 1, b + 1, s + 1]) (z_bc (by decide) (z_bc (z_em (by omega : a ≤ 4294967295)) (z_bc (z_em (by omega : b ≤ 4294967295)) (z_bc (z_em (by omega : s ≤ 4294967295)) z_bn)))) t7 (fun j => by rcases j with _ | _ | _ | _ | _ | _ | _ | _ | _ | _ | _ | _ | j <;> rfl) ?_
  unfold z_ig
  cases hbit : (z_Bs b s).testBit a with
  | true =>
    have := z_Br hs hnr 25 0 (Nat.shiftLeft 1 b) ((by decide : ∀ b, b < 16 → Nat.shiftLeft 1 b < 65536) b hb) (fun c hc h => by
      rw [z_1b h]
      exact ⟨hsb, Nat.le_of_eq hI.2.1⟩) a ha hbit
    have e : ¬ q_get N1 a = 10000 := by omega
    show Z (D + 2) 7 t7_0 [4294967377, a + 1, b + 1, s + 1] [] (zh N) (zh N1, [0])
    refine z_aln (c := 4294967376) rfl (by decide) ?_
    refine z_iln (c := b) rfl (by omega : b ≤ 4294967295) ?_
    refine z_aln (c := 4294967376) rfl (by decide) ?_
    refine z_gf (j := 48) (v := 4294967383) rfl (show 48 < 96 by decide) (zhl N) (zh48 N) (by decide) z_g48_15 (by decide) ?_
    refine z_aln (c := 4294967376) rfl (by decide) ?_
    refine z_gf (j := 48) (v := 0) rfl (show 48 < 96 by decide) (zhl N) (zh48 N) (by decide) z_g48_34 (by decide) ?_
    refine z_ia (j := 55) (m := 0) (v := 0) rfl (show 55 < 96 by decide) (zhl N) (zh55 N) (by decide) z_g55 ?_
    refine z_iln (c := s) rfl (by omega : s ≤ 4294967295) ?_
    refine z_or (a := 0) (b := s) (v := s) (by decide) (by omega : s ≤ 4294967295) (Nat.zero_or s) ?_
    refine z_ivt (sa := [s, b, 4294967376]) (r := []) (rt := []) (j := 48) rfl rfl rfl rfl rfl (z_hc (z_ne (by omega : s ≤ 4294967295)) (z_hc (z_ne (by omega : b ≤ 4294967295)) (z_hc (by decide) z_hn))) rfl rfl (show 48 < 96 by decide) (congrArg Prod.fst (zh48 N)) (k) ?_
    refine z_aln (c := 4294967376) rfl (by decide) ?_
    refine z_gf (j := 48) (v := 4294967404) rfl (show 48 < 96 by decide) (zhl N1) (zh48 N1) (by decide) z_g48_45 (by decide) ?_
    refine z_iln (c := a) rfl (by omega : a ≤ 4294967295) ?_
    refine z_ia (j := 76) (m := a) (v := q_get N1 a) rfl (show 76 < 96 by decide) (zhl N1) (zh76 N1) (by omega) rfl ?_
    refine z_sp ?_
    refine z_iT (z_neT (by omega) (by decide) e) j7_32 ?_
    refine z_ic ?_
    exact z_ir1 rfl (by decide)
  | false =>
    have e : q_get N1 a = 10000 := by
      rcases hI.2.2 a ha with g | g
      · exact g
      · rw [hbit] at g
        cases g.2
    show Z (D + 2) 7 t7_0 [4294967377, a + 1, b + 1, s + 1] [] (zh N) (zh N1, [1])
    refine z_aln (c := 4294967376) rfl (by decide) ?_
    refine z_iln (c := b) rfl (by omega : b ≤ 4294967295) ?_
    refine z_aln (c := 4294967376) rfl (by decide) ?_
    refine z_gf (j := 48) (v := 4294967383) rfl (show 48 < 96 by decide) (zhl N) (zh48 N) (by decide) z_g48_15 (by decide) ?_
    refine z_aln (c := 4294967376) rfl (by decide) ?_
    refine z_gf (j := 48) (v := 0) rfl (show 48 < 96 by decide) (zhl N) (zh48 N) (by decide) z_g48_34 (by decide) ?_
    refine z_ia (j := 55) (m := 0) (v := 0) rfl (show 55 < 96 by decide) (zhl N) (zh55 N) (by decide) z_g55 ?_
    refine z_iln (c := s) rfl (by omega : s ≤ 4294967295) ?_
    refine z_or (a := 0) (b := s) (v := s) (by decide) (by omega : s ≤ 4294967295) (Nat.zero_or s) ?_
    refine z_ivt (sa := [s, b, 4294967376]) (r := []) (rt := []) (j := 48) rfl rfl rfl rfl rfl (z_hc (z_ne (by omega : s ≤ 4294967295)) (z_hc (z_ne (by omega : b ≤ 4294967295)) (z_hc (by decide) z_hn))) rfl rfl (show 48 < 96 by decide) (congrArg Prod.fst (zh48 N)) (k) ?_
    refine z_aln (c := 4294967376) rfl (by decide) ?_
    refine z_gf (j := 48) (v := 4294967404) rfl (show 48 < 96 by decide) (zhl N1) (zh48 N1) (by decide) z_g48_45 (by decide) ?_
    refine z_iln (c := a) rfl (by omega : a ≤ 4294967295) ?_
    refine z_ia (j := 76) (m := a) (v := q_get N1 a) rfl (show 76 < 96 by decide) (zhl N1) (zh76 N1) (by omega) rfl ?_
    refine z_sp ?_
    refine z_iF (z_neF (by omega) e) ?_
    refine z_ic ?_
    refine z_go j7_33 ?_
    exact z_ir1 rfl (by decide)

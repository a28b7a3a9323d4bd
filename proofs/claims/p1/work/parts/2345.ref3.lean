/-! ===== guard, the reference: guardOf (printed by wip/p1/zref3.py) ===== -/
def z_set (x y z : Nat) : Nat := Nat.lor (Nat.lor (q_w (Nat.shiftLeft 1 x)) (q_w (Nat.shiftLeft 1 y))) (q_w (Nat.shiftLeft 1 z))
def z_no (a b : Nat) : Nat := Nat.lor (q_w (Nat.shiftLeft 1 a)) (q_w (Nat.shiftLeft 1 b))
noncomputable def z_cnd (best s : Nat) : Bool := bif Nat.beq best 4294967295 then true else (Nat.blt (z_pop s) (z_pop best) || (Nat.beq (z_pop s) (z_pop best) && Nat.blt s best))
noncomputable def z_up1 (a b no best s : Nat) : Nat := bif Nat.beq (Nat.land s no) 0 then (bif z_cnd best s then (bif z_ig a b s then s else best) else best) else best
noncomputable def z_lz (a b no x y n : Nat) : Nat → Nat → Nat := Nat.rec (fun _ best => best) (fun _ ih z best => q_fr (z_set x y z) (fun s => q_fr (z_up1 a b no best s) (fun best' => q_fr (Nat.succ z) (fun z' => ih z' best')))) n
noncomputable def z_ly (a b no x n : Nat) : Nat → Nat → Nat := Nat.rec (fun _ best => best) (fun _ ih y best => q_fr (z_lz a b no x y (Nat.sub 16 y) y best) (fun best' => q_fr (Nat.succ y) (fun y' => ih y' best'))) n
noncomputable def z_lx (a b no n : Nat) : Nat → Nat → Nat := Nat.rec (fun _ best => best) (fun _ ih x best => q_fr (z_ly a b no x (Nat.sub 16 x) x best) (fun best' => q_fr (Nat.succ x) (fun x' => ih x' best'))) n
noncomputable def z_gr (a b : Nat) : Nat := bif z_ig a b 0 then 0 else z_lx a b (z_no a b) 16 0 4294967295
theorem z_lzS (a b no x y n z best : Nat) : z_lz a b no x y (n + 1) z best = z_lz a b no x y n (z + 1) (z_up1 a b no best (z_set x y z)) := by
  show q_fr (z_set x y z) (fun s => q_fr (z_up1 a b no best s) (fun best' => q_fr (Nat.succ z) (fun z' => z_lz a b no x y n z' best'))) = _
  rw [q_fr_eq, q_fr_eq, q_fr_eq]
theorem z_lyS (a b no x n y best : Nat) : z_ly a b no x (n + 1) y best = z_ly a b no x n (y + 1) (z_lz a b no x y (16 - y) y best) := by
  show q_fr (z_lz a b no x y (Nat.sub 16 y) y best) (fun best' => q_fr (Nat.succ y) (fun y' => z_ly a b no x n y' best')) = _
  rw [q_fr_eq, q_fr_eq]
  rfl
theorem z_lxS (a b no n x best : Nat) : z_lx a b no (n + 1) x best = z_lx a b no n (x + 1) (z_ly a b no x (16 - x) x best) := by
  show q_fr (z_ly a b no x (Nat.sub 16 x) x best) (fun best' => q_fr (Nat.succ x) (fun x' => z_lx a b no n x' best')) = _
  rw [q_fr_eq, q_fr_eq]
  rfl
theorem z_b16 : ∀ x, x < 16 → q_w (1 <<< x) < 65536 := by decide
theorem z_setl {x y z : Nat} (hx : x < 16) (hy : y < 16) (hz : z < 16) : z_set x y z < 65536 := Nat.or_lt_two_pow (n := 16) (Nat.or_lt_two_pow (n := 16) (z_b16 x hx) (z_b16 y hy)) (z_b16 z hz)
theorem z_nol {a b : Nat} (ha : a < 16) (hb : b < 16) : z_no a b < 65536 := Nat.or_lt_two_pow (n := 16) (z_b16 a ha) (z_b16 b hb)
theorem z_nob {a b s : Nat} (hb : b < 16) (h : s &&& z_no a b = 0) : s.testBit b = false := by
  have h1 : (s &&& z_no a b).testBit b = false := by rw [h]; exact Nat.zero_testBit b
  have h2 : (z_no a b).testBit b = true := by
    show (q_w (1 <<< a) ||| q_w (1 <<< b)).testBit b = true
    rw [Nat.testBit_or, (by decide : ∀ b, b < 16 → (q_w (1 <<< b)).testBit b = true) b hb, Bool.or_true]
  rw [Nat.testBit_and, h2, Bool.and_true] at h1
  exact h1
/-- what is looked up once for every b: no flood leaves anything out -/
noncomputable def z_al (f : Nat → Bool) (n : Nat) : Bool := Nat.rec true (fun k ih => ih && f k) n
theorem z_al_ok {f : Nat → Bool} : ∀ {n : Nat}, z_al f n = true → ∀ k, k < n → f k = true
  | 0, _, k, hk => by omega
  | n + 1, h, k, hk => by
    have h : (z_al f n && f n) = true := h
    obtain ⟨h1, h2⟩ := q_ands h
    rcases Nat.lt_or_ge k n with g | g
    · exact z_al_ok h1 k g
    · rw [show k = n by omega]
      exact h2
noncomputable def z_ck (b : Nat) : Bool := z_clo b 0 && z_al (fun x => z_al (fun y => bif Nat.ble x y then z_al (fun z => bif Nat.ble y z then q_fr (z_set x y z) (fun s => bif Nat.testBit s b then true else z_clo b s) else true) 16 else true) 16) 16
theorem z_ck_ok {b : Nat} (h : z_ck b = true) : z_clo b 0 = true ∧ ∀ x y z, x ≤ y → y ≤ z → z < 16 → (z_set x y z).testBit b = false → z_clo b (z_set x y z) = true := by
  obtain ⟨h0, h⟩ := q_ands h
  refine ⟨h0, fun x y z hx hy hz hb => ?_⟩
  have h1 := z_al_ok h x (by omega)
  have h2 := z_al_ok h1 y (by omega)
  have h2 : (bif Nat.ble x y then z_al (fun z => bif Nat.ble y z then q_fr (z_set x y z) (fun s => bif Nat.testBit s b then true else z_clo b s) else true) 16 else true) = true := h2
  rw [q_ift _ _ (q_ble.mpr hx)] at h2
  have h3 := z_al_ok h2 z hz
  have h3 : (bif Nat.ble y z then q_fr (z_set x y z) (fun s => bif Nat.testBit s b then true else z_clo b s) else true) = true := h3
  rw [q_ift _ _ (q_ble.mpr hy), q_fr_eq, q_iff _ _ hb] at h3
  exact h3
def z_Hb (best : Nat) : Prop := best = 4294967295 ∨ best < 65536
def z_HN (N : Nat) : Prop := ∀ j, j < 25 → q_get N j ≤ 4294967295
theorem z_Hb.le {b : Nat} (h : z_Hb b) : b ≤ 4294967295 := by
  rcases h with h | h <;> omega
theorem z_up1b {a b no best s : Nat} (hb : z_Hb best) (hs : s < 65536) : z_Hb (z_up1 a b no best s) := by
  unfold z_up1
  cases Nat.beq (Nat.land s no) 0 with
  | false => exact hb
  | true =>
    cases z_cnd best s with
    | false => exact hb
    | true =>
      cases z_ig a b s with
      | false => exact hb
      | true => exact Or.inr hs
theorem c180g {D a b no best s lx ly lz l9 N : Nat} (ha : a < 16) (hb : b < 16) (hno : no < 65536) (hbe : best ≤ 4294967295) (hs : s < 65536) (hsb : s.testBit b = false) (hc : z_clo b s = true) (hN : z_HN N) : ∃ N', z_HN N' ∧ ∀ R, Z (D + 3) 180 t180_155 [4294967377, a + 1, b + 1, no + 1, (bif z_ig a b s then s else best) + 1, lx, ly, lz, s + 1, l9] [] (zh N') R → Z (D + 3) 180 t180_140 [4294967377, a + 1, b + 1, no + 1, best + 1, lx, ly, lz, s + 1, l9] [] (zh N) R := by
  obtain ⟨N1, hN1, k0⟩ := c7 (D := D) ha hb hs hsb hc hN
  refine ⟨N1, hN1, ?_⟩
  cases e : z_ig a b s with
  | true =>
    rw [e] at k0
    intro R k
    have k0 : ZC (D + 2) 7 [4294967376, a, b, s] (zh N) (zh N1, [1]) := k0
    have k : Z (D + 3) 180 t180_155 [4294967377, a + 1, b + 1, no + 1, s + 1, lx, ly, lz, s + 1, l9] [] (zh N1) R := k
    · skip
      refine z_aln (c := 4294967376) rfl (by decide) ?_
      refine z_iln (c := a) rfl (by omega : a ≤ 4294967295) ?_
      refine z_iln (c := b) rfl (by omega : b ≤ 4294967295) ?_
      refine z_il (c := s) rfl (by omega : s ≤ 4294967295) ?_
      refine z_ivt (sa := [s, b, a, 4294967376]) (r := []) (rt := [1]) (j := 48) rfl rfl rfl rfl rfl (z_hc (z_ne (by omega : s ≤ 4294967295)) (z_hc (z_ne (by omega : b ≤ 4294967295)) (z_hc (z_ne (by omega : a ≤ 4294967295)) (z_hc (by decide) z_hn)))) rfl rfl (show 48 < 96 by decide) (congrArg Prod.fst (zh48 N)) (k0) ?_
      refine z_cF (z_eqF (by decide) (by decide) (by decide)) ?_
      refine z_il (c := s) rfl (by omega : s ≤ 4294967295) ?_
      refine z_is (show 4 < 10 by decide) (by omega : s ≤ 4294967295) ?_
      exact k
  | false =>
    rw [e] at k0
    intro R k
    have k0 : ZC (D + 2) 7 [4294967376, a, b, s] (zh N) (zh N1, [0]) := k0
    have k : Z (D + 3) 180 t180_155 [4294967377, a + 1, b + 1, no + 1, best + 1, lx, ly, lz, s + 1, l9] [] (zh N1) R := k
    · skip
      refine z_aln (c := 4294967376) rfl (by decide) ?_
      refine z_iln (c := a) rfl (by omega : a ≤ 4294967295) ?_
      refine z_iln (c := b) rfl (by omega : b ≤ 4294967295) ?_
      refine z_il (c := s) rfl (by omega : s ≤ 4294967295) ?_
      refine z_ivt (sa := [s, b, a, 4294967376]) (r := []) (rt := [0]) (j := 48) rfl rfl rfl rfl rfl (z_hc (z_ne (by omega : s ≤ 4294967295)) (z_hc (z_ne (by omega : b ≤ 4294967295)) (z_hc (z_ne (by omega : a ≤ 4294967295)) (z_hc (by decide) z_hn)))) rfl rfl (show 48 < 96 by decide) (congrArg Prod.fst (zh48 N)) (k0) ?_
      refine z_cT (z_eqT (by decide) rfl) j180_155 ?_
      exact k
theorem c180c {D a b no best s lx ly lz l9 N : Nat} (ha : a < 16) (hb : b < 16) (hno : no < 65536) (hB : z_Hb best) (hs : s < 65536) (hsb : s.testBit b = false) (hc : z_clo b s = true) (hN : z_HN N) : ∃ N' l9', z_HN N' ∧ ∀ R, Z (D + 3) 180 t180_155 [4294967377, a + 1, b + 1, no + 1, (bif z_cnd best s then (bif z_ig a b s then s else best) else best) + 1, lx, ly, lz, s + 1, l9'] [] (zh N') R → Z (D + 3) 180 t180_101 [4294967377, a + 1, b + 1, no + 1, best + 1, lx, ly, lz, s + 1, l9] [] (zh N) R := by
  have hbe := hB.le
  by_cases h0 : best = 4294967295
  · obtain ⟨N', hN', k0⟩ := c180g (D := D) (lx := lx) (ly := ly) (lz := lz) (l9 := 4294967295 + 1) ha hb hno hbe hs hsb hc hN
    refine ⟨N', 4294967295 + 1, hN', fun R k => ?_⟩
    have e : z_cnd best s = true := by unfold z_cnd; rw [q_ift _ _ (q_beq.mpr h0)]
    rw [q_ift _ _ e] at k
    have k := k0 R k
    refine z_il (c := best) rfl hbe ?_
    refine z_cF (z_geN hbe (by omega)) ?_
    refine z_ic ?_
    refine z_go j180_121 ?_
    refine z_is (show 9 < 10 by decide) (by decide) ?_
    refine z_il (c := 4294967295) rfl (by decide) ?_
    refine z_cT (z_ltN (by decide) (by decide)) j180_140 ?_
    exact k
  · have hbb : best < 65536 := by
      rcases hB with g | g
      · exact absurd g h0
      · exact g
    have p1 := z_popl s
    have p2 := z_popl best
    have e0 : z_cnd best s = (Nat.blt (z_pop s) (z_pop best) || (Nat.beq (z_pop s) (z_pop best) && Nat.blt s best)) := by unfold z_cnd; rw [q_iff _ _ (q_bneq.mpr h0)]
    by_cases h1 : z_pop s < z_pop best
    · obtain ⟨N', hN', k0⟩ := c180g (D := D) (lx := lx) (ly := ly) (lz := lz) (l9 := (z_pop s + 4294967296 - z_pop best) % 4294967296 + 1) ha hb hno hbe hs hsb hc hN
      refine ⟨N', (z_pop s + 4294967296 - z_pop best) % 4294967296 + 1, hN', fun R k => ?_⟩
      have e : z_cnd best s = true := by rw [e0, q_blt.mpr h1]; rfl
      rw [q_ift _ _ e] at k
      have k := k0 R k
      refine z_il (c := best) rfl hbe ?_
      refine z_cT (z_geT (by omega) (by decide) (Nat.zero_le _)) j180_110 ?_
      refine z_il (c := s) rfl (by omega : s ≤ 4294967295) ?_
      refine z_ist (sa := [s]) (r := []) (rt := [z_pop s]) rfl rfl rfl rfl rfl rfl (z_hc (z_ne (by omega : s ≤ 4294967295)) z_hn) rfl (c139 hs) ?_
      refine z_il (c := best) rfl hbe ?_
      refine z_ist (sa := [best]) (r := [z_pop s]) (rt := [z_pop best]) rfl rfl rfl rfl rfl rfl (z_hc (z_ne hbe) z_hn) rfl (c139 hbb) ?_
      refine z_sub (a := z_pop s) (b := z_pop best) (v := (z_pop s + 4294967296 - z_pop best) % 4294967296) (by omega : z_pop s ≤ 4294967295) (by omega : z_pop best ≤ 4294967295) rfl ?_
      refine z_is (show 9 < 10 by decide) (by omega : (z_pop s + 4294967296 - z_pop best) % 4294967296 ≤ 4294967295) ?_
      refine z_il (c := (z_pop s + 4294967296 - z_pop best) % 4294967296) rfl (by omega : (z_pop s + 4294967296 - z_pop best) % 4294967296 ≤ 4294967295) ?_
      refine z_cT (z_ltN (by omega) (by omega)) j180_140 ?_
      exact k
    · by_cases h2 : z_pop s = z_pop best
      · by_cases h3 : s < best
        · obtain ⟨N', hN', k0⟩ := c180g (D := D) (lx := lx) (ly := ly) (lz := lz) (l9 := (z_pop s + 4294967296 - z_pop best) % 4294967296 + 1) ha hb hno hbe hs hsb hc hN
          refine ⟨N', (z_pop s + 4294967296 - z_pop best) % 4294967296 + 1, hN', fun R k => ?_⟩
          have e : z_cnd best s = true := by rw [e0, z_bltf (by omega), q_beq.mpr h2, q_blt.mpr h3]; rfl
          rw [q_ift _ _ e] at k
          have k := k0 R k
          refine z_il (c := best) rfl hbe ?_
          refine z_cT (z_geT (by omega) (by decide) (Nat.zero_le _)) j180_110 ?_
          refine z_il (c := s) rfl (by omega : s ≤ 4294967295) ?_
          refine z_ist (sa := [s]) (r := []) (rt := [z_pop s]) rfl rfl rfl rfl rfl rfl (z_hc (z_ne (by omega : s ≤ 4294967295)) z_hn) rfl (c139 hs) ?_
          refine z_il (c := best) rfl hbe ?_
          refine z_ist (sa := [best]) (r := [z_pop s]) (rt := [z_pop best]) rfl rfl rfl rfl rfl rfl (z_hc (z_ne hbe) z_hn) rfl (c139 hbb) ?_
          refine z_sub (a := z_pop s) (b := z_pop best) (v := (z_pop s + 4294967296 - z_pop best) % 4294967296) (by omega : z_pop s ≤ 4294967295) (by omega : z_pop best ≤ 4294967295) rfl ?_
          refine z_is (show 9 < 10 by decide) (by omega : (z_pop s + 4294967296 - z_pop best) % 4294967296 ≤ 4294967295) ?_
          refine z_il (c := (z_pop s + 4294967296 - z_pop best) % 4294967296) rfl (by omega : (z_pop s + 4294967296 - z_pop best) % 4294967296 ≤ 4294967295) ?_
          refine z_cF (z_ltF (by omega) (by decide) (Nat.zero_le _)) ?_
          refine z_il (c := (z_pop s + 4294967296 - z_pop best) % 4294967296) rfl (by omega : (z_pop s + 4294967296 - z_pop best) % 4294967296 ≤ 4294967295) ?_
          refine z_cF (z_neF (by omega) (by omega)) ?_
          refine z_il (c := s) rfl (by omega : s ≤ 4294967295) ?_
          refine z_il (c := best) rfl hbe ?_
          refine z_iF (z_geF (by omega) (by omega) h3) ?_
          exact k
        · refine ⟨N, (z_pop s + 4294967296 - z_pop best) % 4294967296 + 1, hN, fun R k => ?_⟩
          have e : z_cnd best s = false := by rw [e0, z_bltf (by omega), q_beq.mpr h2, z_bltf (by omega)]; rfl
          rw [q_iff _ _ e] at k
          refine z_il (c := best) rfl hbe ?_
          refine z_cT (z_geT (by omega) (by decide) (Nat.zero_le _)) j180_110 ?_
          refine z_il (c := s) rfl (by omega : s ≤ 4294967295) ?_
          refine z_ist (sa := [s]) (r := []) (rt := [z_pop s]) rfl rfl rfl rfl rfl rfl (z_hc (z_ne (by omega : s ≤ 4294967295)) z_hn) rfl (c139 hs) ?_
          refine z_il (c := best) rfl hbe ?_
          refine z_ist (sa := [best]) (r := [z_pop s]) (rt := [z_pop best]) rfl rfl rfl rfl rfl rfl (z_hc (z_ne hbe) z_hn) rfl (c139 hbb) ?_
          refine z_sub (a := z_pop s) (b := z_pop best) (v := (z_pop s + 4294967296 - z_pop best) % 4294967296) (by omega : z_pop s ≤ 4294967295) (by omega : z_pop best ≤ 4294967295) rfl ?_
          refine z_is (show 9 < 10 by decide) (by omega : (z_pop s + 4294967296 - z_pop best) % 4294967296 ≤ 4294967295) ?_
          refine z_il (c := (z_pop s + 4294967296 - z_pop best) % 4294967296) rfl (by omega : (z_pop s + 4294967296 - z_pop best) % 4294967296 ≤ 4294967295) ?_
          refine z_cF (z_ltF (by omega) (by decide) (Nat.zero_le _)) ?_
          refine z_il (c := (z_pop s + 4294967296 - z_pop best) % 4294967296) rfl (by omega : (z_pop s + 4294967296 - z_pop best) % 4294967296 ≤ 4294967295) ?_
          refine z_cF (z_neF (by omega) (by omega)) ?_
          refine z_il (c := s) rfl (by omega : s ≤ 4294967295) ?_
          refine z_il (c := best) rfl hbe ?_
          refine z_iT (z_geT (by omega) (by omega) (by omega)) j180_155 ?_
          exact k
      · refine ⟨N, (z_pop s + 4294967296 - z_pop best) % 4294967296 + 1, hN, fun R k => ?_⟩
        have e : z_cnd best s = false := by rw [e0, z_bltf (by omega), q_bneq.mpr h2]; rfl
        rw [q_iff _ _ e] at k
        refine z_il (c := best) rfl hbe ?_
        refine z_cT (z_geT (by omega) (by decide) (Nat.zero_le _)) j180_110 ?_
        refine z_il (c := s) rfl (by omega : s ≤ 4294967295) ?_
        refine z_ist (sa := [s]) (r := []) (rt := [z_pop s]) rfl rfl rfl rfl rfl rfl (z_hc (z_ne (by omega : s ≤ 4294967295)) z_hn) rfl (c139 hs) ?_
        refine z_il (c := best) rfl hbe ?_
        refine z_ist (sa := [best]) (r := [z_pop s]) (rt := [z_pop best]) rfl rfl rfl rfl rfl rfl (z_hc (z_ne hbe) z_hn) rfl (c139 hbb) ?_
        refine z_sub (a := z_pop s) (b := z_pop best) (v := (z_pop s + 4294967296 - z_pop best) % 4294967296) (by omega : z_pop s ≤ 4294967295) (by omega : z_pop best ≤ 4294967295) rfl ?_
        refine z_is (show 9 < 10 by decide) (by omega : (z_pop s + 4294967296 - z_pop best) % 4294967296 ≤ 4294967295) ?_
        refine z_il (c := (z_pop s + 4294967296 - z_pop best) % 4294967296) rfl (by omega : (z_pop s + 4294967296 - z_pop best) % 4294967296 ≤ 4294967295) ?_
        refine z_cF (z_ltF (by omega) (by decide) (Nat.zero_le _)) ?_
        refine z_il (c := (z_pop s + 4294967296 - z_pop best) % 4294967296) rfl (by omega : (z_pop s + 4294967296 - z_pop best) % 4294967296 ≤ 4294967295) ?_
        refine z_cT (z_neT (by omega) (by decide) (by omega)) j180_155 ?_
        exact k
theorem c180z {D a b no x y : Nat} (ha : a < 16) (hb : b < 16) (hno : no = z_no a b) (hxy : x ≤ y) (hy : y < 16) (hck : z_ck b = true) : ∀ (n z best N l8 l9 : Nat), z + n = 16 → y ≤ z → z_Hb best → z_HN N → ∃ N' l8' l9', z_HN N' ∧ z_Hb (z_lz a b no x y n z best) ∧ ∀ R, Z (D + 3) 180 t180_161 [4294967377, a + 1, b + 1, no + 1, z_lz a b no x y n z best + 1, x + 1, y + 1, 17, l8', l9'] [] (zh N') R → Z (D + 3) 180 t180_66 [4294967377, a + 1, b + 1, no + 1, best + 1, x + 1, y + 1, z + 1, l8, l9] [] (zh N) R
  | 0, z, best, N, l8, l9, hz, hyz, hB, hN => by
    have e16 : z = 16 := by omega
    subst e16
    have hbe := hB.le
    have hnl : no < 65536 := by rw [hno]; exact z_nol ha hb
    refine ⟨N, l8, l9, hN, hB, fun R k => ?_⟩
    have k : Z (D + 3) 180 t180_161 [4294967377, a + 1, b + 1, no + 1, best + 1, x + 1, y + 1, 17, l8, l9] [] (zh N) R := k
    refine z_il (c := 16) rfl (by decide) ?_
    refine z_aln (c := 4294967376) rfl (by decide) ?_
    refine z_ivt (sa := [4294967376]) (r := [16]) (rt := [16]) (j := 48) rfl rfl rfl rfl rfl (z_hc (by decide) z_hn) rfl rfl (show 48 < 96 by decide) (congrArg Prod.fst (zh48 N)) (c0) ?_
    refine z_iT (z_geT (by decide) (by decide) (by decide)) j180_161 ?_
    exact k
  | n + 1, z, best, N, l8, l9, hz, hyz, hB, hN => by
    have hbe := hB.le
    have hnl : no < 65536 := by rw [hno]; exact z_nol ha hb
    have hs : z_set x y z < 65536 := z_setl (by omega) hy (by omega)
    have hse : z_set x y z ≤ 4294967295 := by omega
    rw [z_lzS]
    by_cases h0 : z_set x y z &&& no = 0
    · have hsb : (z_set x y z).testBit b = false := z_nob (a := a) hb (by rw [← hno]; exact h0)
      have hc := (z_ck_ok hck).2 x y z hxy hyz (by omega) hsb
      obtain ⟨N1, l9', hN1, k1⟩ := c180c (D := D) (lx := x + 1) (ly := y + 1) (lz := z + 1) (l9 := l9) ha hb hnl hB hs hsb hc hN
      have eu : z_up1 a b no best (z_set x y z) = bif z_cnd best (z_set x y z) then (bif z_ig a b (z_set x y z) then z_set x y z else best) else best := by
        unfold z_up1
        rw [q_ift _ _ (z_l0 h0)]
      have hB2 : z_Hb (z_up1 a b no best (z_set x y z)) := z_up1b hB hs
      obtain ⟨N2, m8, m9, hN2, hB3, k2⟩ := c180z (D := D) ha hb hno hxy hy hck n (z + 1) (z_up1 a b no best (z_set x y z)) N1 (z_set x y z + 1) l9' (by omega) (by omega) hB2 hN1
      refine ⟨N2, m8, m9, hN2, hB3, fun R k => ?_⟩
      have k := k2 R k
      have k3 : Z (D + 3) 180 t180_155 [4294967377, a + 1, b + 1, no + 1, z_up1 a b no best (z_set x y z) + 1, x + 1, y + 1, z + 1, z_set x y z + 1, l9'] [] (zh N1) R := by
        have hbe := hB2.le
        refine z_ii (c := z) (v := z + 1) rfl (show 7 < 10 by decide) rfl (by omega) ?_
        refine z_go j180_66 ?_
        exact k
      rw [eu] at k3
      have k := k1 R k3
      refine z_il (c := z) rfl (by omega : z ≤ 4294967295) ?_
      refine z_aln (c := 4294967376) rfl (by decide) ?_
      refine z_ivt (sa := [4294967376]) (r := [z]) (rt := [16]) (j := 48) rfl rfl rfl rfl rfl (z_hc (by decide) z_hn) rfl rfl (show 48 < 96 by decide) (congrArg Prod.fst (zh48 N)) (c0) ?_
      refine z_iF (z_geF (by omega) (by decide) (by omega)) ?_
      refine z_ic ?_
      refine z_il (c := x) rfl (by omega : x ≤ 4294967295) ?_
      refine z_shl (a := 1) (b := x) (by decide) (by omega) ?_
      refine z_ic ?_
      refine z_il (c := y) rfl (by omega : y ≤ 4294967295) ?_
      refine z_shl (a := 1) (b := y) (by decide) (by omega) ?_
      refine z_or (a := q_w (1 <<< x)) (b := q_w (1 <<< y)) (v := (q_w (1 <<< x)) ||| (q_w (1 <<< y))) (q_w_le _) (q_w_le _) rfl ?_
      refine z_ic ?_
      refine z_il (c := z) rfl (by omega : z ≤ 4294967295) ?_
      refine z_shl (a := 1) (b := z) (by decide) (by omega) ?_
      refine z_or (a := (q_w (1 <<< x)) ||| (q_w (1 <<< y))) (b := q_w (1 <<< z)) (v := z_set x y z) (z_orl (q_w_le _) (q_w_le _)) (q_w_le _) rfl ?_
      refine z_is (show 8 < 10 by decide) hse ?_
      refine z_il (c := z_set x y z) rfl hse ?_
      refine z_iln (c := no) rfl (by omega : no ≤ 4294967295) ?_
      refine z_and (a := z_set x y z) (b := no) (v := (z_set x y z) &&& no) hse (by omega : no ≤ 4294967295) rfl ?_
      refine z_cT (z_eqT (z_anl hse) h0) j180_101 ?_
      exact k
    · have eu : z_up1 a b no best (z_set x y z) = best := by
        unfold z_up1
        rw [q_iff _ _ (z_l1 h0)]
      rw [eu]
      obtain ⟨N2, m8, m9, hN2, hB3, k2⟩ := c180z (D := D) ha hb hno hxy hy hck n (z + 1) best N (z_set x y z + 1) l9 (by omega) (by omega) hB hN
      refine ⟨N2, m8, m9, hN2, hB3, fun R k => ?_⟩
      have k := k2 R k
      refine z_il (c := z) rfl (by omega : z ≤ 4294967295) ?_
      refine z_aln (c := 4294967376) rfl (by decide) ?_
      refine z_ivt (sa := [4294967376]) (r := [z]) (rt := [16]) (j := 48) rfl rfl rfl rfl rfl (z_hc (by decide) z_hn) rfl rfl (show 48 < 96 by decide) (congrArg Prod.fst (zh48 N)) (c0) ?_
      refine z_iF (z_geF (by omega) (by decide) (by omega)) ?_
      refine z_ic ?_
      refine z_il (c := x) rfl (by omega : x ≤ 4294967295) ?_
      refine z_shl (a := 1) (b := x) (by decide) (by omega) ?_
      refine z_ic ?_
      refine z_il (c := y) rfl (by omega : y ≤ 4294967295) ?_
      refine z_shl (a := 1) (b := y) (by decide) (by omega) ?_
      refine z_or (a := q_w (1 <<< x)) (b := q_w (1 <<< y)) (v := (q_w (1 <<< x)) ||| (q_w (1 <<< y))) (q_w_le _) (q_w_le _) rfl ?_
      refine z_ic ?_
      refine z_il (c := z) rfl (by omega : z ≤ 4294967295) ?_
      refine z_shl (a := 1) (b := z) (by decide) (by omega) ?_
      refine z_or (a := (q_w (1 <<< x)) ||| (q_w (1 <<< y))) (b := q_w (1 <<< z)) (v := z_set x y z) (z_orl (q_w_le _) (q_w_le _)) (q_w_le _) rfl ?_
      refine z_is (show 8 < 10 by decide) hse ?_
      refine z_il (c := z_set x y z) rfl hse ?_
      refine z_iln (c := no) rfl (by omega : no ≤ 4294967295) ?_
      refine z_and (a := z_set x y z) (b := no) (v := (z_set x y z) &&& no) hse (by omega : no ≤ 4294967295) rfl ?_
      refine z_cF (z_eqF (z_anl hse) (by decide) h0) ?_
      refine z_go j180_155 ?_
      refine z_ii (c := z) (v := z + 1) rfl (show 7 < 10 by decide) rfl (by omega) ?_
      refine z_go j180_66 ?_
      exact k
theorem c180y {D a b no x : Nat} (ha : a < 16) (hb : b < 16) (hno : no = z_no a b) (hck : z_ck b = true) : ∀ (n y best N l7 l8 l9 : Nat), y + n = 16 → x ≤ y → z_Hb best → z_HN N → ∃ N' l7' l8' l9', z_HN N' ∧ z_Hb (z_ly a b no x n y best) ∧ ∀ R, Z (D + 3) 180 t180_167 [4294967377, a + 1, b + 1, no + 1, z_ly a b no x n y best + 1, x + 1, 17, l7', l8', l9'] [] (zh N') R → Z (D + 3) 180 t180_53 [4294967377, a + 1, b + 1, no + 1, best + 1, x + 1, y + 1, l7, l8, l9] [] (zh N) R
  | 0, y, best, N, l7, l8, l9, hy, hxy, hB, hN => by
    have e16 : y = 16 := by omega
    subst e16
    have hbe := hB.le
    have hnl : no < 65536 := by rw [hno]; exact z_nol ha hb
    refine ⟨N, l7, l8, l9, hN, hB, fun R k => ?_⟩
    have k : Z (D + 3) 180 t180_167 [4294967377, a + 1, b + 1, no + 1, best + 1, x + 1, 17, l7, l8, l9] [] (zh N) R := k
    refine z_il (c := 16) rfl (by decide) ?_
    refine z_aln (c := 4294967376) rfl (by decide) ?_
    refine z_ivt (sa := [4294967376]) (r := [16]) (rt := [16]) (j := 48) rfl rfl rfl rfl rfl (z_hc (by decide) z_hn) rfl rfl (show 48 < 96 by decide) (congrArg Prod.fst (zh48 N)) (c0) ?_
    refine z_iT (z_geT (by decide) (by decide) (by decide)) j180_167 ?_
    exact k
  | n + 1, y, best, N, l7, l8, l9, hy, hxy, hB, hN => by
    have hnl : no < 65536 := by rw [hno]; exact z_nol ha hb
    rw [z_lyS]
    obtain ⟨N1, m8, m9, hN1, hB1, k1⟩ := c180z (D := D) ha hb hno hxy (by omega) hck (16 - y) y best N l8 l9 (by omega) (Nat.le_refl _) hB hN
    obtain ⟨N2, n7, n8, n9, hN2, hB2, k2⟩ := c180y (D := D) (x := x) ha hb hno hck n (y + 1) _ N1 17 m8 m9 (by omega) (by omega) hB1 hN1
    refine ⟨N2, n7, n8, n9, hN2, hB2, fun R k => ?_⟩
    have k := k2 R k
    have k3 : Z (D + 3) 180 t180_161 [4294967377, a + 1, b + 1, no + 1, z_lz a b no x y (16 - y) y best + 1, x + 1, y + 1, 17, m8, m9] [] (zh N1) R := by
      have hbe := hB1.le
      refine z_ii (c := y) (v := y + 1) rfl (show 6 < 10 by decide) rfl (by omega) ?_
      refine z_go j180_53 ?_
      exact k
    have k := k1 R k3
    have hbe := hB.le
    refine z_il (c := y) rfl (by omega : y ≤ 4294967295) ?_
    refine z_aln (c := 4294967376) rfl (by decide) ?_
    refine z_ivt (sa := [4294967376]) (r := [y]) (rt := [16]) (j := 48) rfl rfl rfl rfl rfl (z_hc (by decide) z_hn) rfl rfl (show 48 < 96 by decide) (congrArg Prod.fst (zh48 N)) (c0) ?_
    refine z_iF (z_geF (by omega) (by decide) (by omega)) ?_
    refine z_il (c := y) rfl (by omega : y ≤ 4294967295) ?_
    refine z_is (show 7 < 10 by decide) (by omega : y ≤ 4294967295) ?_
    exact k
theorem c180x {D a b no : Nat} (ha : a < 16) (hb : b < 16) (hno : no = z_no a b) (hck : z_ck b = true) : ∀ (n x best N l6 l7 l8 l9 : Nat), x + n = 16 → z_Hb best → z_HN N → ∃ N', z_HN N' ∧ Z (D + 3) 180 t180_40 [4294967377, a + 1, b + 1, no + 1, best + 1, x + 1, l6, l7, l8, l9] [] (zh N) (zh N', [z_lx a b no n x best])
  | 0, x, best, N, l6, l7, l8, l9, hx, hB, hN => by
    have e16 : x = 16 := by omega
    subst e16
    have hbe := hB.le
    have hnl : no < 65536 := by rw [hno]; exact z_nol ha hb
    refine ⟨N, hN, ?_⟩
    show Z (D + 3) 180 t180_40 [4294967377, a + 1, b + 1, no + 1, best + 1, 17, l6, l7, l8, l9] [] (zh N) (zh N, [best])
    refine z_il (c := 16) rfl (by decide) ?_
    refine z_aln (c := 4294967376) rfl (by decide) ?_
    refine z_ivt (sa := [4294967376]) (r := [16]) (rt := [16]) (j := 48) rfl rfl rfl rfl rfl (z_hc (by decide) z_hn) rfl rfl (show 48 < 96 by decide) (congrArg Prod.fst (zh48 N)) (c0) ?_
    refine z_iT (z_geT (by decide) (by decide) (by decide)) j180_173 ?_
    refine z_il (c := best) rfl hbe ?_
    exact z_ir rfl hbe
  | n + 1, x, best, N, l6, l7, l8, l9, hx, hB, hN => by
    have hnl : no < 65536 := by rw [hno]; exact z_nol ha hb
    rw [z_lxS]
    obtain ⟨N1, m7, m8, m9, hN1, hB1, k1⟩ := c180y (D := D) (x := x) ha hb hno hck (16 - x) x best N l7 l8 l9 (by omega) (Nat.le_refl _) hB hN
    obtain ⟨N2, hN2, k⟩ := c180x (D := D) ha hb hno hck n (x + 1) _ N1 17 m7 m8 m9 (by omega) hB1 hN1
    refine ⟨N2, hN2, ?_⟩
    have k3 : Z (D + 3) 180 t180_167 [4294967377, a + 1, b + 1, no + 1, z_ly a b no x (16 - x) x best + 1, x + 1, 17, m7, m8, m9] [] (zh N1) (zh N2, [z_lx a b no n (x + 1) (z_ly a b no x (16 - x) x best)]) := by
      have hbe := hB1.le
      refine z_ii (c := x) (v := x + 1) rfl (show 5 < 10 by decide) rfl (by omega) ?_
      refine z_go j180_40 ?_
      exact k
    have k := k1 _ k3
    have hbe := hB.le
    refine z_il (c := x) rfl (by omega : x ≤ 4294967295) ?_
    refine z_aln (c := 4294967376) rfl (by decide) ?_
    refine z_ivt (sa := [4294967376]) (r := [x]) (rt := [16]) (j := 48) rfl rfl rfl rfl rfl (z_hc (by decide) z_hn) rfl rfl (show 48 < 96 by decide) (congrArg Prod.fst (zh48 N)) (c0) ?_
    refine z_iF (z_geF (by omega) (by decide) (by omega)) ?_
    refine z_il (c := x) rfl (by omega : x ≤ 4294967295) ?_
    refine z_is (show 6 < 10 by decide) (by omega : x ≤ 4294967295) ?_
    exact k
theorem c180 {D a b : Nat} (ha : a < 16) (hb : b < 16) (hck : z_ck b = true) : ∃ N', z_HN N' ∧ ZC (D + 3) 180 [4294967376, a, b] q_h0 (zh N', [z_gr a b]) := by
  have hnl : z_no a b ≤ 4294967295 := by have := z_nol ha hb; omega
  have hN0 : z_HN 0 := fun j _ => by rw [q_get_0]; omega
  obtain ⟨N1, hN1, k0⟩ := c7 (D := D) (N := 0) ha hb (by decide) (Nat.zero_testBit b) (z_ck_ok hck).1 hN0
  unfold z_gr
  cases e : z_ig a b 0 with
  | true =>
    rw [e] at k0
    have k0 : ZC (D + 2) 7 [4294967376, a, b, 0] (zh 0) (zh N1, [1]) := k0
    refine ⟨N1, hN1, ?_⟩
    show ZC (D + 3) 180 [4294967376, a, b] q_h0 (zh N1, [0])
    refine z_C (l := [4294967377, a + 1, b + 1, 0, 0, 0, 0, 0, 0, 0]) (z_bc (by decide) (z_bc (z_em (by omega : a ≤ 4294967295)) (z_bc (z_em (by omega : b ≤ 4294967295)) z_bn))) t180 (fun j => by rcases j with _ | _ | _ | _ | _ | _ | _ | _ | _ | _ | _ | _ | j <;> rfl) ?_
    refine z_aln (c := 4294967376) rfl (by decide) ?_
    refine z_ivt (sa := [4294967376]) (r := []) (rt := []) (j := 48) rfl rfl rfl rfl rfl (z_hc (by decide) z_hn) rfl rfl (show 48 < 96 by decide) (congrArg Prod.fst z_e0.1) (c127) ?_
    refine z_aln (c := 4294967376) rfl (by decide) ?_
    refine z_gf (j := 48) (v := 4294967383) rfl (show 48 < 96 by decide) (zhl 0) (zh48 0) (by decide) z_g48_15 (by decide) ?_
    refine z_aln (c := 4294967376) rfl (by decide) ?_
    refine z_gf (j := 48) (v := 0) rfl (show 48 < 96 by decide) (zhl 0) (zh48 0) (by decide) z_g48_34 (by decide) ?_
    refine z_ia (j := 55) (m := 0) (v := 0) rfl (show 55 < 96 by decide) (zhl 0) (zh55 0) (by decide) z_g55 ?_
    refine z_ic ?_
    refine z_iln (c := a) rfl (by omega : a ≤ 4294967295) ?_
    refine z_shl (a := 1) (b := a) (by decide) (by omega) ?_
    refine z_or (a := 0) (b := q_w (1 <<< a)) (v := q_w (1 <<< a)) (by decide) (q_w_le _) (Nat.zero_or _) ?_
    refine z_ic ?_
    refine z_iln (c := b) rfl (by omega : b ≤ 4294967295) ?_
    refine z_shl (a := 1) (b := b) (by decide) (by omega) ?_
    refine z_or (a := q_w (1 <<< a)) (b := q_w (1 <<< b)) (v := z_no a b) (q_w_le _) (q_w_le _) rfl ?_
    refine z_isn (show 3 < 10 by decide) hnl ?_
    refine z_aln (c := 4294967376) rfl (by decide) ?_
    refine z_iln (c := a) rfl (by omega : a ≤ 4294967295) ?_
    refine z_iln (c := b) rfl (by omega : b ≤ 4294967295) ?_
    refine z_ic ?_
    refine z_ivt (sa := [0, b, a, 4294967376]) (r := []) (rt := [1]) (j := 48) rfl rfl rfl rfl rfl (z_hc (z_ne (by decide)) (z_hc (z_ne (by omega : b ≤ 4294967295)) (z_hc (z_ne (by omega : a ≤ 4294967295)) (z_hc (by decide) z_hn)))) rfl rfl (show 48 < 96 by decide) (congrArg Prod.fst (zh48 0)) (k0) ?_
    refine z_cF (z_eqF (by decide) (by decide) (by decide)) ?_
    refine z_ic ?_
    exact z_ir rfl (by decide)
  | false =>
    rw [e] at k0
    have k0 : ZC (D + 2) 7 [4294967376, a, b, 0] (zh 0) (zh N1, [0]) := k0
    obtain ⟨N2, hN2, k⟩ := c180x (D := D) ha hb rfl hck 16 0 4294967295 N1 0 0 0 0 (by omega) (Or.inl rfl) hN1
    refine ⟨N2, hN2, ?_⟩
    show ZC (D + 3) 180 [4294967376, a, b] q_h0 (zh N2, [z_lx a b (z_no a b) 16 0 4294967295])
    refine z_C (l := [4294967377, a + 1, b + 1, 0, 0, 0, 0, 0, 0, 0]) (z_bc (by decide) (z_bc (z_em (by omega : a ≤ 4294967295)) (z_bc (z_em (by omega : b ≤ 4294967295)) z_bn))) t180 (fun j => by rcases j with _ | _ | _ | _ | _ | _ | _ | _ | _ | _ | _ | _ | j <;> rfl) ?_
    refine z_aln (c := 4294967376) rfl (by decide) ?_
    refine z_ivt (sa := [4294967376]) (r := []) (rt := []) (j := 48) rfl rfl rfl rfl rfl (z_hc (by decide) z_hn) rfl rfl (show 48 < 96 by decide) (congrArg Prod.fst z_e0.1) (c127) ?_
    refine z_aln (c := 4294967376) rfl (by decide) ?_
    refine z_gf (j := 48) (v := 4294967383) rfl (show 48 < 96 by decide) (zhl 0) (zh48 0) (by decide) z_g48_15 (by decide) ?_
    refine z_aln (c := 4294967376) rfl (by decide) ?_
    refine z_gf (j := 48) (v := 0) rfl (show 48 < 96 by decide) (zhl 0) (zh48 0) (by decide) z_g48_34 (by decide) ?_
    refine z_ia (j := 55) (m := 0) (v := 0) rfl (show 55 < 96 by decide) (zhl 0) (zh55 0) (by decide) z_g55 ?_
    refine z_ic ?_
    refine z_iln (c := a) rfl (by omega : a ≤ 4294967295) ?_
    refine z_shl (a := 1) (b := a) (by decide) (by omega) ?_
    refine z_or (a := 0) (b := q_w (1 <<< a)) (v := q_w (1 <<< a)) (by decide) (q_w_le _) (Nat.zero_or _) ?_
    refine z_ic ?_
    refine z_iln (c := b) rfl (by omega : b ≤ 4294967295) ?_
    refine z_shl (a := 1) (b := b) (by decide) (by omega) ?_
    refine z_or (a := q_w (1 <<< a)) (b := q_w (1 <<< b)) (v := z_no a b) (q_w_le _) (q_w_le _) rfl ?_
    refine z_isn (show 3 < 10 by decide) hnl ?_
    refine z_aln (c := 4294967376) rfl (by decide) ?_
    refine z_iln (c := a) rfl (by omega : a ≤ 4294967295) ?_
    refine z_iln (c := b) rfl (by omega : b ≤ 4294967295) ?_
    refine z_ic ?_
    refine z_ivt (sa := [0, b, a, 4294967376]) (r := []) (rt := [0]) (j := 48) rfl rfl rfl rfl rfl (z_hc (z_ne (by decide)) (z_hc (z_ne (by omega : b ≤ 4294967295)) (z_hc (z_ne (by omega : a ≤ 4294967295)) (z_hc (by decide) z_hn)))) rfl rfl (show 48 < 96 by decide) (congrArg Prod.fst (zh48 0)) (k0) ?_
    refine z_cT (z_eqT (by decide) rfl) j180_34 ?_
    refine z_ic ?_
    refine z_is (show 4 < 10 by decide) (by decide) ?_
    refine z_ic ?_
    refine z_is (show 5 < 10 by decide) (by decide) ?_
    exact k

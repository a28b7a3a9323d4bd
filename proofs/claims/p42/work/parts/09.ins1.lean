/-! ===== instruction by instruction ===== -/
def q_HN (l : Launch) (base : Nat) (D : va_G) (env : Nat → Int32) (ih : q_F) (i pc ln : Nat) (tl : List q_I) : Prop := ∀ (d loc : Nat) (st : List Nat) (h hf : q_H) (r : List Nat), ih d i (q_code i) tl loc st h = some (hf, r) → q_G l base D env d i (pc + ln) loc st h hf r
def q_HJ (l : Launch) (base : Nat) (D : va_G) (env : Nat → Int32) (ih : q_F) (i : Nat) : Prop := ∀ (t d loc : Nat) (st : List Nat) (h hf : q_H) (r : List Nat), ih d i (q_code i) (q_jm (q_code i) t) loc st h = some (hf, r) → q_G l base D env d i t loc st h hf r
theorem q_v.exq {env : Nat → Int32} (ad : List Nat) {c : Nat} {x : Int32} (hc : c ≤ 4294967295) (hx : x = nI c) : q_v env ad c (.int x) := Or.inl ⟨hc, by rw [hx]⟩
theorem q_w_le (n : Nat) : q_w n ≤ 4294967295 := by
  have : n % 4294967296 < 4294967296 := Nat.mod_lt _ (by decide)
  show n % 4294967296 ≤ 4294967295
  omega
theorem q_v_add {env : Nat → Int32} (ad : List Nat) {a b : Nat} (_ : a ≤ 4294967295) (_ : b ≤ 4294967295) : q_v env ad (q_w (Nat.add a b)) (.int (nI a + nI b)) := q_v.exq ad (q_w_le _) ((nI_add a b).trans (q_nI_w _).symm)
theorem q_v_sub {env : Nat → Int32} (ad : List Nat) {a b : Nat} (_ : a ≤ 4294967295) (hb : b ≤ 4294967295) : q_v env ad (q_w (Nat.sub (Nat.add a 4294967296) b)) (.int (nI a - nI b)) := by
  have e : Nat.sub (Nat.add a 4294967296) b = a + 4294967296 - b := by rw [Nat.sub_eq, Nat.add_eq]
  rw [e]
  exact q_v.exq ad (q_w_le _) ((q_sub a b (by omega)).trans (q_nI_w _).symm)
theorem q_v_mul {env : Nat → Int32} (ad : List Nat) {a b : Nat} (_ : a ≤ 4294967295) (_ : b ≤ 4294967295) : q_v env ad (q_w (Nat.mul a b)) (.int (nI a * nI b)) := q_v.exq ad (q_w_le _) ((pk_mul a b).trans (q_nI_w _).symm)
theorem q_v_and {env : Nat → Int32} (ad : List Nat) {a b : Nat} (ha : a ≤ 4294967295) (_ : b ≤ 4294967295) : q_v env ad (Nat.land a b) (.int (nI a &&& nI b)) := q_v.exq ad (Nat.le_trans (show a &&& b ≤ a from Nat.and_le_left) ha) (q_and a b)
theorem q_v_or {env : Nat → Int32} (ad : List Nat) {a b : Nat} (ha : a ≤ 4294967295) (hb : b ≤ 4294967295) : q_v env ad (Nat.lor a b) (.int (nI a ||| nI b)) := q_v.exq ad (Nat.le_of_lt_succ (show a ||| b < 2 ^ 32 from Nat.or_lt_two_pow (by omega) (by omega))) (q_or a b)
theorem q_v_xor {env : Nat → Int32} (ad : List Nat) {a b : Nat} (ha : a ≤ 4294967295) (hb : b ≤ 4294967295) : q_v env ad (Nat.xor a b) (.int (nI a ^^^ nI b)) := q_v.exq ad (Nat.le_of_lt_succ (show a ^^^ b < 2 ^ 32 from Nat.xor_lt_two_pow (by omega) (by omega))) (q_xor a b)
theorem q_ld_inv {α : Type} {f : Nat → Option α} {n : Nat} {R : α} (h : Nat.rec (motive := fun _ => Option α) none (fun c _ => f c) n = some R) : ∃ c, n = c + 1 ∧ f c = some R := by
  cases n with
  | zero => cases h
  | succ c => exact ⟨c, rfl, h⟩
theorem q_an_inv {α : Type} {rg : Nat → Nat × Nat} {st : List Nat} {k : List Nat → Option α} {R : α} (hr : q_an rg st k = some R) : ∃ b a r, st = b :: a :: r ∧ ((a ≤ 4294967295 ∧ b ≤ 4294967295 ∧ k (Nat.land a b :: r) = some R) ∨ (a ≤ 4294967311 ∧ b ≤ 4294967311 ∧ k (q_ax rg a b :: r) = some R)) := by
  match st, hr with
  | [], hr => cases hr
  | [_], hr => cases hr
  | b :: a :: r, hr =>
    refine ⟨b, a, r, rfl, ?_⟩
    have hr : (bif q_e2 a b then q_fr (Nat.land a b) (fun v => k (v :: r)) else bif q_i2 a b then q_fr (q_ax rg a b) (fun v => k (v :: r)) else none) = some R := hr
    cases hb : q_e2 a b with
    | true =>
      rw [q_ift _ _ hb, q_fr_eq] at hr
      obtain ⟨h1, h2⟩ := q_ands hb
      exact Or.inl ⟨q_ble.mp h1, q_ble.mp h2, hr⟩
    | false =>
      rw [q_iff _ _ hb] at hr
      obtain ⟨h1, h2⟩ := q_bifs hr
      rw [q_fr_eq] at h2
      obtain ⟨h3, h4⟩ := q_ands h1
      exact Or.inr ⟨q_ble.mp h3, q_ble.mp h4, h2⟩
theorem q_and_hi (n : Nat) (h : n < 4294967296) : n &&& 4294901760 = n / 65536 * 65536 := by
  apply Nat.eq_of_testBit_eq
  intro j
  rw [Nat.testBit_and, show (65536 : Nat) = 2 ^ 16 from rfl, show (4294901760 : Nat) = (2 ^ 16 - 1) * 2 ^ 16 from rfl, Nat.testBit_mul_two_pow, Nat.testBit_mul_two_pow, Nat.testBit_two_pow_sub_one, Nat.testBit_div_two_pow]
  by_cases h1 : 16 ≤ j
  · rw [show j - 16 + 16 = j by omega]
    by_cases h2 : j < 32
    · simp [h1, show j - 16 < 16 by omega]
    · rw [Nat.testBit_lt_two_pow (Nat.lt_of_lt_of_le h (show 2 ^ 32 ≤ 2 ^ j from Nat.pow_le_pow_right (by decide) (by omega)))]
      simp
  · simp [h1]
theorem q_self (x : Int32) : x = nI x.toBitVec.toNat ∧ x.toBitVec.toNat < 4294967296 := by
  have h := x.toBitVec.isLt
  exact ⟨q_bits (by rw [Nat.mod_eq_of_lt h]), h⟩
theorem q_v_ax {env : Nat → Int32} {rg : Nat → Nat × Nat} {ad : List Nat} {a b : Nat} {xa xb : Int32} (hva : q_v env ad a (.int xa)) (ha : (a ≤ 4294967295 → xa = nI a) ∧ q_lo rg a ≤ q_qb xa ∧ q_qb xa ≤ q_hi rg a) (hb : b ≤ 4294967295 → xb = nI b) : q_v env ad (q_ax rg a b) (.int (xa &&& xb)) := by
  unfold q_ax
  cases h1 : Nat.beq b 4294967295 with
  | true =>
    rw [q_ift _ _ rfl]
    have h1 := q_beq.mp h1
    have e : xa &&& xb = xa := by
      rw [hb (by omega), h1, show nI 4294967295 = (-1 : Int32) by decide, Int32.and_neg_one]
    rw [e]
    exact hva
  | false =>
    rw [q_iff _ _ rfl]
    obtain ⟨e0, hlt⟩ := q_self xa
    have a1 := ha.2.1
    have a2 := ha.2.2
    have hqb : q_qb xa = q_bi xa.toBitVec.toNat := by
      have := q_qb_nI (c := xa.toBitVec.toNat) (by omega)
      rw [← e0] at this
      exact this
    generalize xa.toBitVec.toNat = n at e0 hlt hqb
    have hbi : q_bi n = (n + 2147483648) % 4294967296 := rfl
    rw [hbi] at hqb
    cases h2 : (Nat.ble 2147483648 (q_lo rg a) && (Nat.ble (q_hi rg a) 2147549183 && Nat.beq b 4294901760)) with
    | true =>
      rw [q_ift _ _ rfl]
      obtain ⟨h3, h4⟩ := q_ands h2
      obtain ⟨h4, h5⟩ := q_ands h4
      have h3 := q_ble.mp h3
      have h4 := q_ble.mp h4
      have h5 := q_beq.mp h5
      refine q_v.exq ad (Nat.zero_le _) ?_
      rw [hb (by omega), h5, e0, q_and, q_and_hi n hlt, Nat.div_eq_of_lt (by omega), Nat.zero_mul]
    | false =>
      rw [q_iff _ _ rfl]
      cases h3 : (Nat.ble (q_hi rg a) 2147483647 && Nat.beq b 4294901760) with
      | true =>
        rw [q_ift _ _ rfl]
        obtain ⟨h3, h5⟩ := q_ands h3
        have h3 := q_ble.mp h3
        have h5 := q_beq.mp h5
        refine Or.inr (Or.inl ⟨Or.inr (Or.inr rfl), _, rfl, fun h => absurd h (by decide), fun _ => ?_⟩)
        rw [hb (by omega), h5, e0, q_and, q_and_hi n hlt, q_qb_nI (by omega)]
        show (n / 65536 * 65536 + 2147483648) % 4294967296 ≤ 2147483647
        omega
      | false =>
        rw [q_iff _ _ rfl]
        cases h4 : (Nat.ble 2147549184 (q_lo rg a) && Nat.beq b 4294901760) with
        | true =>
          rw [q_ift _ _ rfl]
          obtain ⟨h4, h5⟩ := q_ands h4
          have h4 := q_ble.mp h4
          have h5 := q_beq.mp h5
          refine Or.inr (Or.inl ⟨Or.inr (Or.inl rfl), _, rfl, fun _ => ?_, fun h => absurd h (by decide)⟩)
          rw [hb (by omega), h5, e0, q_and, q_and_hi n hlt, q_qb_nI (by omega)]
          show 2147483649 ≤ (n / 65536 * 65536 + 2147483648) % 4294967296
          omega
        | false =>
          rw [q_iff _ _ rfl]
          exact q_v.top ad _
theorem q_m31 : ∀ b : Nat, b < 32 → nI b &&& 31 = nI b := by decide +kernel
theorem q_bifn {α : Type} {b : Bool} {X : Option α} {R : α} (h : (bif b then none else X) = some R) : b = false ∧ X = some R := by
  cases b with
  | false => exact ⟨rfl, h⟩
  | true => cases h
section QI
variable {l : Launch} {base : Nat} {D : va_G} {env : Nat → Int32} {rg : Nat → Nat × Nat} {mem : q_M} {ih : q_F} {d i pc ln x y z loc : Nat} {tl : List q_I} {st : List Nat} {h hf : q_H} {r : List Nat}
theorem q_s_iconst {n : Int} (hrg : q_rgs env rg) (hd : decode (q_b i) pc = .ok (.iconst n, ln)) (hk : q_lnk i pc ln (.iconst n) x y z) (hN : q_HN l base D env ih i pc ln tl) (hr : q_step rg q_code mem ih d i (q_code i) pc (.iconst n) x y z tl loc st h = some (hf, r)) : q_G l base D env d i pc loc st h hf r := by
  obtain ⟨e1, e2, e3⟩ := hk
  subst e1
  obtain ⟨hm, hg⟩ := hN d loc (x :: st) h hf r hr
  refine ⟨hm, fun p e s m args below meth c H locs ls sv ws tys ad0 n0 s0 C hw hP hK hD hS hp hL hs hn0 hs0 => ?_⟩
  exact lv_iconst C.1 C.2.1 hd e3 (hg p e s m args below meth c H locs ls (.int (nI x) :: sv) ws tys ad0 n0 s0 C hw hP hK hD hS hp hL (⟨q_v.ex _ e2, hs⟩) hn0 hs0)
theorem q_s_bipush {n : Int} (hrg : q_rgs env rg) (hd : decode (q_b i) pc = .ok (.bipush n, ln)) (hk : q_lnk i pc ln (.bipush n) x y z) (hN : q_HN l base D env ih i pc ln tl) (hr : q_step rg q_code mem ih d i (q_code i) pc (.bipush n) x y z tl loc st h = some (hf, r)) : q_G l base D env d i pc loc st h hf r := by
  obtain ⟨e1, e2, e3⟩ := hk
  subst e1
  obtain ⟨hm, hg⟩ := hN d loc (x :: st) h hf r hr
  refine ⟨hm, fun p e s m args below meth c H locs ls sv ws tys ad0 n0 s0 C hw hP hK hD hS hp hL hs hn0 hs0 => ?_⟩
  exact lv_bipush C.1 C.2.1 hd e3 (hg p e s m args below meth c H locs ls (.int (nI x) :: sv) ws tys ad0 n0 s0 C hw hP hK hD hS hp hL (⟨q_v.ex _ e2, hs⟩) hn0 hs0)
theorem q_s_sipush {n : Int} (hrg : q_rgs env rg) (hd : decode (q_b i) pc = .ok (.sipush n, ln)) (hk : q_lnk i pc ln (.sipush n) x y z) (hN : q_HN l base D env ih i pc ln tl) (hr : q_step rg q_code mem ih d i (q_code i) pc (.sipush n) x y z tl loc st h = some (hf, r)) : q_G l base D env d i pc loc st h hf r := by
  obtain ⟨e1, e2, e3⟩ := hk
  subst e1
  obtain ⟨hm, hg⟩ := hN d loc (x :: st) h hf r hr
  refine ⟨hm, fun p e s m args below meth c H locs ls sv ws tys ad0 n0 s0 C hw hP hK hD hS hp hL hs hn0 hs0 => ?_⟩
  exact lv_sipush C.1 C.2.1 hd e3 (hg p e s m args below meth c H locs ls (.int (nI x) :: sv) ws tys ad0 n0 s0 C hw hP hK hD hS hp hL (⟨q_v.ex _ e2, hs⟩) hn0 hs0)
theorem q_s_ldc {n : Nat} (hrg : q_rgs env rg) (hd : decode (q_b i) pc = .ok (.ldc n, ln)) (hk : q_lnk i pc ln (.ldc n) x y z) (hN : q_HN l base D env ih i pc ln tl) (hr : q_step rg q_code mem ih d i (q_code i) pc (.ldc n) x y z tl loc st h = some (hf, r)) : q_G l base D env d i pc loc st h hf r := by
  have hr : (bif Nat.beq z 99 then none else ih d i (q_code i) tl loc (x :: st) h) = some (hf, r) := hr
  obtain ⟨hz, hr⟩ := q_bifn hr
  rcases hk with hk | ⟨e1, e2, e3⟩
  · exact absurd hk (q_bneq.mp hz)
  subst e1
  obtain ⟨hm, hg⟩ := hN d loc (x :: st) h hf r hr
  refine ⟨hm, fun p e s m args below meth c H locs ls sv ws tys ad0 n0 s0 C hw hP hK hD hS hp hL hs hn0 hs0 => ?_⟩
  exact lv_ldc C.1 C.2.1 C.2.2.2.2.1 (C.2.2.2.2.2.1 _ e3) hd (hg p e s m args below meth c H locs ls (.int (nI x) :: sv) ws tys ad0 n0 s0 C hw hP hK hD hS hp hL (⟨q_v.ex _ e2, hs⟩) hn0 hs0)
theorem q_s_ldc_w {n : Nat} (hrg : q_rgs env rg) (hd : decode (q_b i) pc = .ok (.ldc_w n, ln)) (hk : q_lnk i pc ln (.ldc_w n) x y z) (hN : q_HN l base D env ih i pc ln tl) (hr : q_step rg q_code mem ih d i (q_code i) pc (.ldc_w n) x y z tl loc st h = some (hf, r)) : q_G l base D env d i pc loc st h hf r := by
  have hr : (bif Nat.beq z 99 then none else ih d i (q_code i) tl loc (x :: st) h) = some (hf, r) := hr
  obtain ⟨hz, hr⟩ := q_bifn hr
  rcases hk with hk | ⟨e1, e2, e3⟩
  · exact absurd hk (q_bneq.mp hz)
  subst e1
  obtain ⟨hm, hg⟩ := hN d loc (x :: st) h hf r hr
  refine ⟨hm, fun p e s m args below meth c H locs ls sv ws tys ad0 n0 s0 C hw hP hK hD hS hp hL hs hn0 hs0 => ?_⟩
  exact lv_ldcw C.1 C.2.1 C.2.2.2.2.1 (C.2.2.2.2.2.1 _ e3) hd (hg p e s m args below meth c H locs ls (.int (nI x) :: sv) ws tys ad0 n0 s0 C hw hP hK hD hS hp hL (⟨q_v.ex _ e2, hs⟩) hn0 hs0)
theorem q_s_lconst {n : Fin 2} (hrg : q_rgs env rg) (hd : decode (q_b i) pc = .ok (.lconst n, ln)) (hk : q_lnk i pc ln (.lconst n) x y z) (hN : q_HN l base D env ih i pc ln tl) (hr : q_step rg q_code mem ih d i (q_code i) pc (.lconst n) x y z tl loc st h = some (hf, r)) : q_G l base D env d i pc loc st h hf r := by
  have e1 : ln = 1 := hk
  subst e1
  obtain ⟨hm, hg⟩ := hN d loc (4294967314 :: st) h hf r hr
  refine ⟨hm, fun p e s m args below meth c H locs ls sv ws tys ad0 n0 s0 C hw hP hK hD hS hp hL hs hn0 hs0 => ?_⟩
  exact lv_lconst C.1 C.2.1 hd rfl (hg p e s m args below meth c H locs ls (.long (Int64.ofNat (n : Nat)) :: sv) ws tys ad0 n0 s0 C hw hP hK hD hS hp hL (⟨Or.inr (Or.inr (Or.inr (Or.inr (Or.inl ⟨rfl, _, rfl⟩)))), hs⟩) hn0 hs0)
theorem q_s_null (hrg : q_rgs env rg) (hd : decode (q_b i) pc = .ok (.aconst_null, ln)) (hk : q_lnk i pc ln (.aconst_null) x y z) (hN : q_HN l base D env ih i pc ln tl) (hr : q_step rg q_code mem ih d i (q_code i) pc (.aconst_null) x y z tl loc st h = some (hf, r)) : q_G l base D env d i pc loc st h hf r := by
  have e1 : ln = 1 := hk
  subst e1
  obtain ⟨hm, hg⟩ := hN d loc (4294967312 :: st) h hf r hr
  refine ⟨hm, fun p e s m args below meth c H locs ls sv ws tys ad0 n0 s0 C hw hP hK hD hS hp hL hs hn0 hs0 => ?_⟩
  exact lv_null C.1 C.2.1 hd (hg p e s m args below meth c H locs ls (.null :: sv) ws tys ad0 n0 s0 C hw hP hK hD hS hp hL (⟨Or.inr (Or.inr (Or.inr (Or.inl ⟨rfl, rfl⟩))), hs⟩) hn0 hs0)
theorem q_s_iload {n : Nat} (hrg : q_rgs env rg) (hd : decode (q_b i) pc = .ok (.iload n, ln)) (hk : q_lnk i pc ln (.iload n) x y z) (hN : q_HN l base D env ih i pc ln tl) (hr : q_step rg q_code mem ih d i (q_code i) pc (.iload n) x y z tl loc st h = some (hf, r)) : q_G l base D env d i pc loc st h hf r := by
  obtain ⟨e1, e2⟩ := hk
  subst e1
  obtain ⟨cc, hc, hr⟩ := q_ld_inv hr
  obtain ⟨hq, hr⟩ := q_bifs hr
  obtain ⟨hm, hg⟩ := hN d loc (cc :: st) h hf r hr
  refine ⟨hm, fun p e s m args below meth c H locs ls sv ws tys ad0 n0 s0 C hw hP hK hD hS hp hL hs hn0 hs0 => ?_⟩
  obtain ⟨lv, hl, hcat, hL2⟩ := id hL
  obtain ⟨v, hv1, hv2⟩ := hL2 x cc hc
  subst e2
  obtain ⟨a, rfl, ha⟩ := hv2.int hrg (q_ble.mp hq)
  exact lv_iload C.1 C.2.1 hd (hl.2.2 _ hv1) (hg p e s m args below meth c H locs ls (.int a :: sv) ws tys ad0 n0 s0 C hw hP hK hD hS hp hL (⟨hv2, hs⟩) hn0 hs0)
theorem q_s_iload_n {n : Fin 4} (hrg : q_rgs env rg) (hd : decode (q_b i) pc = .ok (.iload_n n, ln)) (hk : q_lnk i pc ln (.iload_n n) x y z) (hN : q_HN l base D env ih i pc ln tl) (hr : q_step rg q_code mem ih d i (q_code i) pc (.iload_n n) x y z tl loc st h = some (hf, r)) : q_G l base D env d i pc loc st h hf r := by
  obtain ⟨e1, e2⟩ := hk
  subst e1
  obtain ⟨cc, hc, hr⟩ := q_ld_inv hr
  obtain ⟨hq, hr⟩ := q_bifs hr
  obtain ⟨hm, hg⟩ := hN d loc (cc :: st) h hf r hr
  refine ⟨hm, fun p e s m args below meth c H locs ls sv ws tys ad0 n0 s0 C hw hP hK hD hS hp hL hs hn0 hs0 => ?_⟩
  obtain ⟨lv, hl, hcat, hL2⟩ := id hL
  obtain ⟨v, hv1, hv2⟩ := hL2 x cc hc
  obtain ⟨a, rfl, ha⟩ := hv2.int hrg (q_ble.mp hq)
  exact lv_iload_n C.1 C.2.1 hd e2 (hl.2.2 _ hv1) (hg p e s m args below meth c H locs ls (.int a :: sv) ws tys ad0 n0 s0 C hw hP hK hD hS hp hL (⟨hv2, hs⟩) hn0 hs0)
theorem q_s_aload {n : Nat} (hrg : q_rgs env rg) (hd : decode (q_b i) pc = .ok (.aload n, ln)) (hk : q_lnk i pc ln (.aload n) x y z) (hN : q_HN l base D env ih i pc ln tl) (hr : q_step rg q_code mem ih d i (q_code i) pc (.aload n) x y z tl loc st h = some (hf, r)) : q_G l base D env d i pc loc st h hf r := by
  obtain ⟨e1, e2⟩ := hk
  subst e1
  obtain ⟨cc, hc, hr⟩ := q_ld_inv hr
  obtain ⟨hq, hr⟩ := q_bifs hr
  obtain ⟨hm, hg⟩ := hN d loc (cc :: st) h hf r hr
  refine ⟨hm, fun p e s m args below meth c H locs ls sv ws tys ad0 n0 s0 C hw hP hK hD hS hp hL hs hn0 hs0 => ?_⟩
  obtain ⟨lv, hl, hcat, hL2⟩ := id hL
  obtain ⟨v, hv1, hv2⟩ := hL2 x cc hc
  subst e2
  rcases q_ors hq with hq | hq
  · obtain ⟨a, ha, rfl⟩ := hv2.ref (q_ble.mp hq)
    exact lv_aload C.1 C.2.1 hd (hl.2.2 _ hv1) (hg p e s m args below meth c H locs ls (.ref a :: sv) ws tys ad0 n0 s0 C hw hP hK hD hS hp hL (⟨hv2, hs⟩) hn0 hs0)
  · have hq := q_beq.mp hq
    subst hq
    have hv3 := hv2.nul
    subst hv3
    exact lv_aloadN C.1 C.2.1 hd (hl.2.2 _ hv1) (hg p e s m args below meth c H locs ls (.null :: sv) ws tys ad0 n0 s0 C hw hP hK hD hS hp hL (⟨hv2, hs⟩) hn0 hs0)
theorem q_s_aload_n {n : Fin 4} (hrg : q_rgs env rg) (hd : decode (q_b i) pc = .ok (.aload_n n, ln)) (hk : q_lnk i pc ln (.aload_n n) x y z) (hN : q_HN l base D env ih i pc ln tl) (hr : q_step rg q_code mem ih d i (q_code i) pc (.aload_n n) x y z tl loc st h = some (hf, r)) : q_G l base D env d i pc loc st h hf r := by
  obtain ⟨e1, e2⟩ := hk
  subst e1
  obtain ⟨cc, hc, hr⟩ := q_ld_inv hr
  obtain ⟨hq, hr⟩ := q_bifs hr
  obtain ⟨hm, hg⟩ := hN d loc (cc :: st) h hf r hr
  refine ⟨hm, fun p e s m args below meth c H locs ls sv ws tys ad0 n0 s0 C hw hP hK hD hS hp hL hs hn0 hs0 => ?_⟩
  obtain ⟨lv, hl, hcat, hL2⟩ := id hL
  obtain ⟨v, hv1, hv2⟩ := hL2 x cc hc
  rcases q_ors hq with hq | hq
  · obtain ⟨a, ha, rfl⟩ := hv2.ref (q_ble.mp hq)
    exact lv_aload_n C.1 C.2.1 hd e2 (hl.2.2 _ hv1) (hg p e s m args below meth c H locs ls (.ref a :: sv) ws tys ad0 n0 s0 C hw hP hK hD hS hp hL (⟨hv2, hs⟩) hn0 hs0)
  · have hq := q_beq.mp hq
    subst hq
    have hv3 := hv2.nul
    subst hv3
    exact lv_aload_nN C.1 C.2.1 hd e2 (hl.2.2 _ hv1) (hg p e s m args below meth c H locs ls (.null :: sv) ws tys ad0 n0 s0 C hw hP hK hD hS hp hL (⟨hv2, hs⟩) hn0 hs0)
theorem q_s_istore {n : Nat} (hrg : q_rgs env rg) (hd : decode (q_b i) pc = .ok (.istore n, ln)) (hk : q_lnk i pc ln (.istore n) x y z) (hN : q_HN l base D env ih i pc ln tl) (hr : q_step rg q_code mem ih d i (q_code i) pc (.istore n) x y z tl loc st h = some (hf, r)) : q_G l base D env d i pc loc st h hf r := by
  obtain ⟨e1, e2, e3⟩ := hk
  subst e1
  cases st with
  | nil => cases hr
  | cons cc rr =>
    obtain ⟨hq, hr⟩ := q_bifs hr
    rw [q_fr_eq] at hr
    obtain ⟨hm, hg⟩ := hN d (q_set loc x (Nat.succ cc)) rr h hf r hr
    refine ⟨hm, fun p e s m args below meth c H locs ls sv ws tys ad0 n0 s0 C hw hP hK hD hS hp hL hs hn0 hs0 => ?_⟩
    obtain ⟨lv, hl, hcat, hL2⟩ := id hL
    obtain ⟨v, sv1, rfl, hv, hs1⟩ := hs.cons
    subst e2
    obtain ⟨a, rfl, ha⟩ := hv.int hrg (q_ble.mp hq)
    refine lv_istore C.1 C.2.1 hd hl e3 rfl (fun ls hl => ?_)
    refine (hg p e s m args below meth c H locs ls (sv1) ws tys ad0 n0 s0 C hw hP hK hD hS hp ⟨_, hl, ?_, q_L.store hL2 hv hcat⟩ (hs1) hn0 hs0)
    intro q hq2
    rcases List.mem_cons.mp hq2 with rfl | hq2
    · rfl
    · exact hcat q (List.mem_filter.mp hq2).1
theorem q_s_istore_n {n : Fin 4} (hrg : q_rgs env rg) (hd : decode (q_b i) pc = .ok (.istore_n n, ln)) (hk : q_lnk i pc ln (.istore_n n) x y z) (hN : q_HN l base D env ih i pc ln tl) (hr : q_step rg q_code mem ih d i (q_code i) pc (.istore_n n) x y z tl loc st h = some (hf, r)) : q_G l base D env d i pc loc st h hf r := by
  obtain ⟨e1, e2, e3⟩ := hk
  subst e1
  cases st with
  | nil => cases hr
  | cons cc rr =>
    obtain ⟨hq, hr⟩ := q_bifs hr
    rw [q_fr_eq] at hr
    obtain ⟨hm, hg⟩ := hN d (q_set loc x (Nat.succ cc)) rr h hf r hr
    refine ⟨hm, fun p e s m args below meth c H locs ls sv ws tys ad0 n0 s0 C hw hP hK hD hS hp hL hs hn0 hs0 => ?_⟩
    obtain ⟨lv, hl, hcat, hL2⟩ := id hL
    obtain ⟨v, sv1, rfl, hv, hs1⟩ := hs.cons
    obtain ⟨a, rfl, ha⟩ := hv.int hrg (q_ble.mp hq)
    refine lv_istore_n C.1 C.2.1 hd e2 hl e3 rfl (fun ls hl => ?_)
    refine (hg p e s m args below meth c H locs ls (sv1) ws tys ad0 n0 s0 C hw hP hK hD hS hp ⟨_, hl, ?_, q_L.store hL2 hv hcat⟩ (hs1) hn0 hs0)
    intro q hq2
    rcases List.mem_cons.mp hq2 with rfl | hq2
    · rfl
    · exact hcat q (List.mem_filter.mp hq2).1
theorem q_s_astore {n : Nat} (hrg : q_rgs env rg) (hd : decode (q_b i) pc = .ok (.astore n, ln)) (hk : q_lnk i pc ln (.astore n) x y z) (hN : q_HN l base D env ih i pc ln tl) (hr : q_step rg q_code mem ih d i (q_code i) pc (.astore n) x y z tl loc st h = some (hf, r)) : q_G l base D env d i pc loc st h hf r := by
  obtain ⟨e1, e2, e3⟩ := hk
  subst e1
  cases st with
  | nil => cases hr
  | cons cc rr =>
    obtain ⟨hq, hr⟩ := q_bifs hr
    rw [q_fr_eq] at hr
    obtain ⟨hm, hg⟩ := hN d (q_set loc x (Nat.succ cc)) rr h hf r hr
    refine ⟨hm, fun p e s m args below meth c H locs ls sv ws tys ad0 n0 s0 C hw hP hK hD hS hp hL hs hn0 hs0 => ?_⟩
    obtain ⟨lv, hl, hcat, hL2⟩ := id hL
    obtain ⟨v, sv1, rfl, hv, hs1⟩ := hs.cons
    subst e2
    rcases q_ors hq with hq | hq
    · obtain ⟨a, ha, rfl⟩ := hv.ref (q_ble.mp hq)
      refine lv_astore C.1 C.2.1 hd hl e3 rfl (fun ls hl => ?_)
      refine (hg p e s m args below meth c H locs ls (sv1) ws tys ad0 n0 s0 C hw hP hK hD hS hp ⟨_, hl, ?_, q_L.store hL2 hv hcat⟩ (hs1) hn0 hs0)
      intro q hq2
      rcases List.mem_cons.mp hq2 with rfl | hq2
      · rfl
      · exact hcat q (List.mem_filter.mp hq2).1
    · have hq := q_beq.mp hq
      subst hq
      have hv3 := hv.nul
      subst hv3
      refine lv_astoreN C.1 C.2.1 hd hl e3 rfl (fun ls hl => ?_)
      refine (hg p e s m args below meth c H locs ls (sv1) ws tys ad0 n0 s0 C hw hP hK hD hS hp ⟨_, hl, ?_, q_L.store hL2 hv hcat⟩ (hs1) hn0 hs0)
      intro q hq2
      rcases List.mem_cons.mp hq2 with rfl | hq2
      · rfl
      · exact hcat q (List.mem_filter.mp hq2).1
theorem q_s_astore_n {n : Fin 4} (hrg : q_rgs env rg) (hd : decode (q_b i) pc = .ok (.astore_n n, ln)) (hk : q_lnk i pc ln (.astore_n n) x y z) (hN : q_HN l base D env ih i pc ln tl) (hr : q_step rg q_code mem ih d i (q_code i) pc (.astore_n n) x y z tl loc st h = some (hf, r)) : q_G l base D env d i pc loc st h hf r := by
  obtain ⟨e1, e2, e3⟩ := hk
  subst e1
  cases st with
  | nil => cases hr
  | cons cc rr =>
    obtain ⟨hq, hr⟩ := q_bifs hr
    rw [q_fr_eq] at hr
    obtain ⟨hm, hg⟩ := hN d (q_set loc x (Nat.succ cc)) rr h hf r hr
    refine ⟨hm, fun p e s m args below meth c H locs ls sv ws tys ad0 n0 s0 C hw hP hK hD hS hp hL hs hn0 hs0 => ?_⟩
    obtain ⟨lv, hl, hcat, hL2⟩ := id hL
    obtain ⟨v, sv1, rfl, hv, hs1⟩ := hs.cons
    rcases q_ors hq with hq | hq
    · obtain ⟨a, ha, rfl⟩ := hv.ref (q_ble.mp hq)
      refine lv_astore_n C.1 C.2.1 hd e2 hl e3 rfl (fun ls hl => ?_)
      refine (hg p e s m args below meth c H locs ls (sv1) ws tys ad0 n0 s0 C hw hP hK hD hS hp ⟨_, hl, ?_, q_L.store hL2 hv hcat⟩ (hs1) hn0 hs0)
      intro q hq2
      rcases List.mem_cons.mp hq2 with rfl | hq2
      · rfl
      · exact hcat q (List.mem_filter.mp hq2).1
    · have hq := q_beq.mp hq
      subst hq
      have hv3 := hv.nul
      subst hv3
      refine lv_astore_nN C.1 C.2.1 hd e2 hl e3 rfl (fun ls hl => ?_)
      refine (hg p e s m args below meth c H locs ls (sv1) ws tys ad0 n0 s0 C hw hP hK hD hS hp ⟨_, hl, ?_, q_L.store hL2 hv hcat⟩ (hs1) hn0 hs0)
      intro q hq2
      rcases List.mem_cons.mp hq2 with rfl | hq2
      · rfl
      · exact hcat q (List.mem_filter.mp hq2).1
theorem q_s_iinc {n : Nat} {k : Int} (hrg : q_rgs env rg) (hd : decode (q_b i) pc = .ok (.iinc n k, ln)) (hk : q_lnk i pc ln (.iinc n k) x y z) (hN : q_HN l base D env ih i pc ln tl) (hr : q_step rg q_code mem ih d i (q_code i) pc (.iinc n k) x y z tl loc st h = some (hf, r)) : q_G l base D env d i pc loc st h hf r := by
  obtain ⟨e1, e2, e3, e4, e5⟩ := hk
  subst e1
  subst e2
  obtain ⟨cc, hc, hr⟩ := q_ld_inv hr
  obtain ⟨hq, hr⟩ := q_bifs hr
  rw [q_fr_eq] at hr
  obtain ⟨hm, hg⟩ := hN d _ st h hf r hr
  refine ⟨hm, fun p e s m args below meth c H locs ls sv ws tys ad0 n0 s0 C hw hP hK hD hS hp hL hs hn0 hs0 => ?_⟩
  obtain ⟨lv, hl, hcat, hL2⟩ := id hL
  obtain ⟨v, hv1, hv2⟩ := hL2 n cc hc
  obtain ⟨a, rfl, ha, -⟩ := hv2.int hrg (Nat.le_trans (q_ble.mp hq) (by decide))
  obtain ⟨kk, hkk⟩ := List.getElem?_of_mem hv1
  have hv3 : q_v env (q_ad ws) (q_w (Nat.add cc y)) (.int (a + Int32.ofInt k)) := by
    rw [ha (q_ble.mp hq), e5]
    exact q_v_add _ (q_ble.mp hq) e4
  refine lv_iinc C.1 C.2.1 hd hl hkk rfl e3 rfl (fun ls hl => ?_)
  refine (hg p e s m args below meth c H locs ls (sv) ws tys ad0 n0 s0 C hw hP hK hD hS hp ⟨_, hl, ?_, q_L.store hL2 hv3 hcat⟩ (hs) hn0 hs0)
  intro q hq2
  rcases List.mem_cons.mp hq2 with rfl | hq2
  · rfl
  · exact hcat q (List.mem_filter.mp hq2).1
theorem q_s_iadd (hrg : q_rgs env rg) (hd : decode (q_b i) pc = .ok (.iadd, ln)) (hk : q_lnk i pc ln (.iadd) x y z) (hN : q_HN l base D env ih i pc ln tl) (hr : q_step rg q_code mem ih d i (q_code i) pc (.iadd) x y z tl loc st h = some (hf, r)) : q_G l base D env d i pc loc st h hf r := by
  have e1 : ln = 1 := hk
  subst e1
  have hr : q_ar (fun a b => q_w (Nat.add a b)) st (fun s => ih d i (q_code i) tl loc s h) = some (hf, r) := hr
  obtain ⟨b, a, rr, rfl, hc⟩ := q_ar_inv hr
  rcases hc with ⟨ha, hb, hr⟩ | ⟨ha, hb, hr⟩
  · obtain ⟨hm, hg⟩ := hN d loc _ h hf r hr
    refine ⟨hm, fun p e s m args below meth c H locs ls sv ws tys ad0 n0 s0 C hw hP hK hD hS hp hL hs hn0 hs0 => ?_⟩
    obtain ⟨vb, sv1, rfl, hvb, hs1⟩ := hs.cons
    obtain ⟨va, sv2, rfl, hva, hs2⟩ := hs1.cons
    obtain ⟨xb, rfl, xb1, -⟩ := hvb.int hrg (by omega)
    obtain ⟨xa, rfl, xa1, -⟩ := hva.int hrg (by omega)
    refine lv_iadd C.1 C.2.1 hd (hg p e s m args below meth c H locs ls (.int (xa + xb) :: sv2) ws tys ad0 n0 s0 C hw hP hK hD hS hp hL (⟨?_, hs2⟩) hn0 hs0)
    rw [xa1 ha, xb1 hb]
    exact q_v_add _ ha hb
  · obtain ⟨hm, hg⟩ := hN d loc _ h hf r hr
    refine ⟨hm, fun p e s m args below meth c H locs ls sv ws tys ad0 n0 s0 C hw hP hK hD hS hp hL hs hn0 hs0 => ?_⟩
    obtain ⟨vb, sv1, rfl, hvb, hs1⟩ := hs.cons
    obtain ⟨va, sv2, rfl, hva, hs2⟩ := hs1.cons
    obtain ⟨xb, rfl, xb1, -⟩ := hvb.int hrg (by omega)
    obtain ⟨xa, rfl, xa1, -⟩ := hva.int hrg (by omega)
    exact lv_iadd C.1 C.2.1 hd (hg p e s m args below meth c H locs ls (.int (xa + xb) :: sv2) ws tys ad0 n0 s0 C hw hP hK hD hS hp hL (⟨q_v.top _ _, hs2⟩) hn0 hs0)
theorem q_s_isub (hrg : q_rgs env rg) (hd : decode (q_b i) pc = .ok (.isub, ln)) (hk : q_lnk i pc ln (.isub) x y z) (hN : q_HN l base D env ih i pc ln tl) (hr : q_step rg q_code mem ih d i (q_code i) pc (.isub) x y z tl loc st h = some (hf, r)) : q_G l base D env d i pc loc st h hf r := by
  have e1 : ln = 1 := hk
  subst e1
  have hr : q_ar (fun a b => q_w (Nat.sub (Nat.add a 4294967296) b)) st (fun s => ih d i (q_code i) tl loc s h) = some (hf, r) := hr
  obtain ⟨b, a, rr, rfl, hc⟩ := q_ar_inv hr
  rcases hc with ⟨ha, hb, hr⟩ | ⟨ha, hb, hr⟩
  · obtain ⟨hm, hg⟩ := hN d loc _ h hf r hr
    refine ⟨hm, fun p e s m args below meth c H locs ls sv ws tys ad0 n0 s0 C hw hP hK hD hS hp hL hs hn0 hs0 => ?_⟩
    obtain ⟨vb, sv1, rfl, hvb, hs1⟩ := hs.cons
    obtain ⟨va, sv2, rfl, hva, hs2⟩ := hs1.cons
    obtain ⟨xb, rfl, xb1, -⟩ := hvb.int hrg (by omega)
    obtain ⟨xa, rfl, xa1, -⟩ := hva.int hrg (by omega)
    refine lv_isub C.1 C.2.1 hd (hg p e s m args below meth c H locs ls (.int (xa - xb) :: sv2) ws tys ad0 n0 s0 C hw hP hK hD hS hp hL (⟨?_, hs2⟩) hn0 hs0)
    rw [xa1 ha, xb1 hb]
    exact q_v_sub _ ha hb
  · obtain ⟨hm, hg⟩ := hN d loc _ h hf r hr
    refine ⟨hm, fun p e s m args below meth c H locs ls sv ws tys ad0 n0 s0 C hw hP hK hD hS hp hL hs hn0 hs0 => ?_⟩
    obtain ⟨vb, sv1, rfl, hvb, hs1⟩ := hs.cons
    obtain ⟨va, sv2, rfl, hva, hs2⟩ := hs1.cons
    obtain ⟨xb, rfl, xb1, -⟩ := hvb.int hrg (by omega)
    obtain ⟨xa, rfl, xa1, -⟩ := hva.int hrg (by omega)
    exact lv_isub C.1 C.2.1 hd (hg p e s m args below meth c H locs ls (.int (xa - xb) :: sv2) ws tys ad0 n0 s0 C hw hP hK hD hS hp hL (⟨q_v.top _ _, hs2⟩) hn0 hs0)
theorem q_s_imul (hrg : q_rgs env rg) (hd : decode (q_b i) pc = .ok (.imul, ln)) (hk : q_lnk i pc ln (.imul) x y z) (hN : q_HN l base D env ih i pc ln tl) (hr : q_step rg q_code mem ih d i (q_code i) pc (.imul) x y z tl loc st h = some (hf, r)) : q_G l base D env d i pc loc st h hf r := by
  have e1 : ln = 1 := hk
  subst e1
  have hr : q_ar (fun a b => q_w (Nat.mul a b)) st (fun s => ih d i (q_code i) tl loc s h) = some (hf, r) := hr
  obtain ⟨b, a, rr, rfl, hc⟩ := q_ar_inv hr
  rcases hc with ⟨ha, hb, hr⟩ | ⟨ha, hb, hr⟩
  · obtain ⟨hm, hg⟩ := hN d loc _ h hf r hr
    refine ⟨hm, fun p e s m args below meth c H locs ls sv ws tys ad0 n0 s0 C hw hP hK hD hS hp hL hs hn0 hs0 => ?_⟩
    obtain ⟨vb, sv1, rfl, hvb, hs1⟩ := hs.cons
    obtain ⟨va, sv2, rfl, hva, hs2⟩ := hs1.cons
    obtain ⟨xb, rfl, xb1, -⟩ := hvb.int hrg (by omega)
    obtain ⟨xa, rfl, xa1, -⟩ := hva.int hrg (by omega)
    refine lv_imul C.1 C.2.1 hd (hg p e s m args below meth c H locs ls (.int (xa * xb) :: sv2) ws tys ad0 n0 s0 C hw hP hK hD hS hp hL (⟨?_, hs2⟩) hn0 hs0)
    rw [xa1 ha, xb1 hb]
    exact q_v_mul _ ha hb
  · obtain ⟨hm, hg⟩ := hN d loc _ h hf r hr
    refine ⟨hm, fun p e s m args below meth c H locs ls sv ws tys ad0 n0 s0 C hw hP hK hD hS hp hL hs hn0 hs0 => ?_⟩
    obtain ⟨vb, sv1, rfl, hvb, hs1⟩ := hs.cons
    obtain ⟨va, sv2, rfl, hva, hs2⟩ := hs1.cons
    obtain ⟨xb, rfl, xb1, -⟩ := hvb.int hrg (by omega)
    obtain ⟨xa, rfl, xa1, -⟩ := hva.int hrg (by omega)
    exact lv_imul C.1 C.2.1 hd (hg p e s m args below meth c H locs ls (.int (xa * xb) :: sv2) ws tys ad0 n0 s0 C hw hP hK hD hS hp hL (⟨q_v.top _ _, hs2⟩) hn0 hs0)
theorem q_s_iand (hrg : q_rgs env rg) (hd : decode (q_b i) pc = .ok (.iand, ln)) (hk : q_lnk i pc ln (.iand) x y z) (hN : q_HN l base D env ih i pc ln tl) (hr : q_step rg q_code mem ih d i (q_code i) pc (.iand) x y z tl loc st h = some (hf, r)) : q_G l base D env d i pc loc st h hf r := by
  have e1 : ln = 1 := hk
  subst e1
  have hr : q_an rg st (fun s => ih d i (q_code i) tl loc s h) = some (hf, r) := hr
  obtain ⟨b, a, rr, rfl, hc⟩ := q_an_inv hr
  rcases hc with ⟨ha, hb, hr⟩ | ⟨ha, hb, hr⟩
  · obtain ⟨hm, hg⟩ := hN d loc _ h hf r hr
    refine ⟨hm, fun p e s m args below meth c H locs ls sv ws tys ad0 n0 s0 C hw hP hK hD hS hp hL hs hn0 hs0 => ?_⟩
    obtain ⟨vb, sv1, rfl, hvb, hs1⟩ := hs.cons
    obtain ⟨va, sv2, rfl, hva, hs2⟩ := hs1.cons
    obtain ⟨xb, rfl, xb1, -⟩ := hvb.int hrg (by omega)
    obtain ⟨xa, rfl, xa1, -⟩ := hva.int hrg (by omega)
    refine lv_iand C.1 C.2.1 hd (hg p e s m args below meth c H locs ls (.int (xa &&& xb) :: sv2) ws tys ad0 n0 s0 C hw hP hK hD hS hp hL (⟨?_, hs2⟩) hn0 hs0)
    rw [xa1 ha, xb1 hb]
    exact q_v_and _ ha hb
  · obtain ⟨hm, hg⟩ := hN d loc _ h hf r hr
    refine ⟨hm, fun p e s m args below meth c H locs ls sv ws tys ad0 n0 s0 C hw hP hK hD hS hp hL hs hn0 hs0 => ?_⟩
    obtain ⟨vb, sv1, rfl, hvb, hs1⟩ := hs.cons
    obtain ⟨va, sv2, rfl, hva, hs2⟩ := hs1.cons
    obtain ⟨xb, rfl, xb1, -⟩ := hvb.int hrg (by omega)
    obtain ⟨xa, rfl, xa1⟩ := hva.int hrg (by omega)
    exact lv_iand C.1 C.2.1 hd (hg p e s m args below meth c H locs ls (.int (xa &&& xb) :: sv2) ws tys ad0 n0 s0 C hw hP hK hD hS hp hL (⟨q_v_ax hva xa1 xb1, hs2⟩) hn0 hs0)
theorem q_s_ior (hrg : q_rgs env rg) (hd : decode (q_b i) pc = .ok (.ior, ln)) (hk : q_lnk i pc ln (.ior) x y z) (hN : q_HN l base D env ih i pc ln tl) (hr : q_step rg q_code mem ih d i (q_code i) pc (.ior) x y z tl loc st h = some (hf, r)) : q_G l base D env d i pc loc st h hf r := by
  have e1 : ln = 1 := hk
  subst e1
  have hr : q_ar Nat.lor st (fun s => ih d i (q_code i) tl loc s h) = some (hf, r) := hr
  obtain ⟨b, a, rr, rfl, hc⟩ := q_ar_inv hr
  rcases hc with ⟨ha, hb, hr⟩ | ⟨ha, hb, hr⟩
  · obtain ⟨hm, hg⟩ := hN d loc _ h hf r hr
    refine ⟨hm, fun p e s m args below meth c H locs ls sv ws tys ad0 n0 s0 C hw hP hK hD hS hp hL hs hn0 hs0 => ?_⟩
    obtain ⟨vb, sv1, rfl, hvb, hs1⟩ := hs.cons
    obtain ⟨va, sv2, rfl, hva, hs2⟩ := hs1.cons
    obtain ⟨xb, rfl, xb1, -⟩ := hvb.int hrg (by omega)
    obtain ⟨xa, rfl, xa1, -⟩ := hva.int hrg (by omega)
    refine lv_ior C.1 C.2.1 hd (hg p e s m args below meth c H locs ls (.int (xa ||| xb) :: sv2) ws tys ad0 n0 s0 C hw hP hK hD hS hp hL (⟨?_, hs2⟩) hn0 hs0)
    rw [xa1 ha, xb1 hb]
    exact q_v_or _ ha hb
  · obtain ⟨hm, hg⟩ := hN d loc _ h hf r hr
    refine ⟨hm, fun p e s m args below meth c H locs ls sv ws tys ad0 n0 s0 C hw hP hK hD hS hp hL hs hn0 hs0 => ?_⟩
    obtain ⟨vb, sv1, rfl, hvb, hs1⟩ := hs.cons
    obtain ⟨va, sv2, rfl, hva, hs2⟩ := hs1.cons
    obtain ⟨xb, rfl, xb1, -⟩ := hvb.int hrg (by omega)
    obtain ⟨xa, rfl, xa1, -⟩ := hva.int hrg (by omega)
    exact lv_ior C.1 C.2.1 hd (hg p e s m args below meth c H locs ls (.int (xa ||| xb) :: sv2) ws tys ad0 n0 s0 C hw hP hK hD hS hp hL (⟨q_v.top _ _, hs2⟩) hn0 hs0)
theorem q_s_ixor (hrg : q_rgs env rg) (hd : decode (q_b i) pc = .ok (.ixor, ln)) (hk : q_lnk i pc ln (.ixor) x y z) (hN : q_HN l base D env ih i pc ln tl) (hr : q_step rg q_code mem ih d i (q_code i) pc (.ixor) x y z tl loc st h = some (hf, r)) : q_G l base D env d i pc loc st h hf r := by
  have e1 : ln = 1 := hk
  subst e1
  have hr : q_ar Nat.xor st (fun s => ih d i (q_code i) tl loc s h) = some (hf, r) := hr
  obtain ⟨b, a, rr, rfl, hc⟩ := q_ar_inv hr
  rcases hc with ⟨ha, hb, hr⟩ | ⟨ha, hb, hr⟩
  · obtain ⟨hm, hg⟩ := hN d loc _ h hf r hr
    refine ⟨hm, fun p e s m args below meth c H locs ls sv ws tys ad0 n0 s0 C hw hP hK hD hS hp hL hs hn0 hs0 => ?_⟩
    obtain ⟨vb, sv1, rfl, hvb, hs1⟩ := hs.cons
    obtain ⟨va, sv2, rfl, hva, hs2⟩ := hs1.cons
    obtain ⟨xb, rfl, xb1, -⟩ := hvb.int hrg (by omega)
    obtain ⟨xa, rfl, xa1, -⟩ := hva.int hrg (by omega)
    refine lv_ixor C.1 C.2.1 hd (hg p e s m args below meth c H locs ls (.int (xa ^^^ xb) :: sv2) ws tys ad0 n0 s0 C hw hP hK hD hS hp hL (⟨?_, hs2⟩) hn0 hs0)
    rw [xa1 ha, xb1 hb]
    exact q_v_xor _ ha hb
  · obtain ⟨hm, hg⟩ := hN d loc _ h hf r hr
    refine ⟨hm, fun p e s m args below meth c H locs ls sv ws tys ad0 n0 s0 C hw hP hK hD hS hp hL hs hn0 hs0 => ?_⟩
    obtain ⟨vb, sv1, rfl, hvb, hs1⟩ := hs.cons
    obtain ⟨va, sv2, rfl, hva, hs2⟩ := hs1.cons
    obtain ⟨xb, rfl, xb1, -⟩ := hvb.int hrg (by omega)
    obtain ⟨xa, rfl, xa1, -⟩ := hva.int hrg (by omega)
    exact lv_ixor C.1 C.2.1 hd (hg p e s m args below meth c H locs ls (.int (xa ^^^ xb) :: sv2) ws tys ad0 n0 s0 C hw hP hK hD hS hp hL (⟨q_v.top _ _, hs2⟩) hn0 hs0)
end QI

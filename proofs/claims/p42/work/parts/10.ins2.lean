/-! ===== instruction by instruction: divisions, shifts, the stack, branches ===== -/
def q_iv (rg : Nat → Nat × Nat) (c : Nat) (x : Int32) : Prop := (c ≤ 4294967295 → x = nI c) ∧ q_lo rg c ≤ q_qb x ∧ q_qb x ≤ q_hi rg c
theorem q_lt_in {rg : Nat → Nat × Nat} {a b : Nat} {t : Bool} (h : q_lt rg a b = some t) : a ≤ 4294967311 ∧ b ≤ 4294967311 := by
  cases he : q_e2 a b with
  | true =>
    obtain ⟨h1, h2⟩ := q_ands he
    exact ⟨Nat.le_trans (q_ble.mp h1) (by decide), Nat.le_trans (q_ble.mp h2) (by decide)⟩
  | false =>
    have h : (bif q_e2 a b then some (Nat.blt (q_bi a) (q_bi b)) else bif q_i2 a b then (bif Nat.blt (q_hi rg a) (q_lo rg b) then some true else bif Nat.ble (q_hi rg b) (q_lo rg a) then some false else none) else none) = some t := h
    rw [q_iff _ _ he] at h
    obtain ⟨h1, -⟩ := q_bifs h
    obtain ⟨h3, h4⟩ := q_ands h1
    exact ⟨q_ble.mp h3, q_ble.mp h4⟩
theorem q_lt_ok {rg : Nat → Nat × Nat} {a b : Nat} {t : Bool} {xa xb : Int32} (h : q_lt rg a b = some t) (ha : q_iv rg a xa) (hb : q_iv rg b xb) : t = true ↔ xa < xb := by
  have h : (bif q_e2 a b then some (Nat.blt (q_bi a) (q_bi b)) else bif q_i2 a b then (bif Nat.blt (q_hi rg a) (q_lo rg b) then some true else bif Nat.ble (q_hi rg b) (q_lo rg a) then some false else none) else none) = some t := h
  rw [q_lt_iff]
  cases he : q_e2 a b with
  | true =>
    rw [q_ift _ _ he] at h
    obtain ⟨h1, h2⟩ := q_ands he
    have e := Option.some.inj h
    rw [← e, q_blt, ha.1 (q_ble.mp h1), hb.1 (q_ble.mp h2), q_qb_nI (q_ble.mp h1), q_qb_nI (q_ble.mp h2)]
  | false =>
    rw [q_iff _ _ he] at h
    obtain ⟨-, h⟩ := q_bifs h
    have a1 := ha.2.1
    have a2 := ha.2.2
    have b1 := hb.2.1
    have b2 := hb.2.2
    cases h1 : Nat.blt (q_hi rg a) (q_lo rg b) with
    | true =>
      rw [q_ift _ _ h1] at h
      have e := Option.some.inj h
      have := q_blt.mp h1
      rw [← e]
      simp
      omega
    | false =>
      rw [q_iff _ _ h1] at h
      obtain ⟨h2, h⟩ := q_bifs h
      have e := Option.some.inj h
      have := q_ble.mp h2
      rw [← e]
      simp
      omega
theorem q_eq_in {rg : Nat → Nat × Nat} {a b : Nat} {t : Bool} (h : q_eq rg a b = some t) : a ≤ 4294967311 ∧ b ≤ 4294967311 := by
  cases he : q_e2 a b with
  | true =>
    obtain ⟨h1, h2⟩ := q_ands he
    exact ⟨Nat.le_trans (q_ble.mp h1) (by decide), Nat.le_trans (q_ble.mp h2) (by decide)⟩
  | false =>
    have h : (bif q_e2 a b then some (Nat.beq a b) else bif q_i2 a b then (bif Nat.blt (q_hi rg a) (q_lo rg b) || Nat.blt (q_hi rg b) (q_lo rg a) then some false else none) else none) = some t := h
    rw [q_iff _ _ he] at h
    obtain ⟨h1, -⟩ := q_bifs h
    obtain ⟨h3, h4⟩ := q_ands h1
    exact ⟨q_ble.mp h3, q_ble.mp h4⟩
theorem q_eq_ok {rg : Nat → Nat × Nat} {a b : Nat} {t : Bool} {xa xb : Int32} (h : q_eq rg a b = some t) (ha : q_iv rg a xa) (hb : q_iv rg b xb) : t = true ↔ xa = xb := by
  have h : (bif q_e2 a b then some (Nat.beq a b) else bif q_i2 a b then (bif Nat.blt (q_hi rg a) (q_lo rg b) || Nat.blt (q_hi rg b) (q_lo rg a) then some false else none) else none) = some t := h
  rw [q_eq_iff]
  cases he : q_e2 a b with
  | true =>
    rw [q_ift _ _ he] at h
    obtain ⟨h1, h2⟩ := q_ands he
    have e := Option.some.inj h
    rw [← e, q_beq, ha.1 (q_ble.mp h1), hb.1 (q_ble.mp h2), ← q_eq_iff]
    constructor
    · intro e; rw [e]
    · intro e
      have e2 := congrArg (fun z : Int32 => z.toBitVec.toNat) e
      simp only [q_nIn] at e2
      have := q_ble.mp h1
      have := q_ble.mp h2
      omega
  | false =>
    rw [q_iff _ _ he] at h
    obtain ⟨-, h⟩ := q_bifs h
    have a1 := ha.2.1
    have a2 := ha.2.2
    have b1 := hb.2.1
    have b2 := hb.2.2
    obtain ⟨h1, h⟩ := q_bifs h
    have e := Option.some.inj h
    rw [← e]
    rcases q_ors h1 with h2 | h2
    · have := q_blt.mp h2
      simp
      omega
    · have := q_blt.mp h2
      simp
      omega
theorem q_not_inv {o : Option Bool} {t : Bool} (h : q_not o = some t) : o = some (!t) := by
  match o, h with
  | some b, h =>
    have e : (!b) = t := Option.some.inj h
    rw [← e, Bool.not_not]
  | none, h => cases h
def q_cp (c : ClassFile.Cond) (x y : Int32) : Prop := match c with
  | .eq => x = y
  | .ne => ¬ x = y
  | .lt => x < y
  | .ge => y ≤ x
  | .gt => y < x
  | .le => x ≤ y
theorem q_cm_in {rg : Nat → Nat × Nat} {c : ClassFile.Cond} {a b : Nat} {t : Bool} (h : q_cm rg c a b = some t) : a ≤ 4294967311 ∧ b ≤ 4294967311 := by
  cases c with
  | eq => exact q_eq_in h
  | ne => exact q_eq_in (q_not_inv h)
  | lt => exact q_lt_in h
  | ge => exact q_lt_in (q_not_inv h)
  | gt => exact (q_lt_in h).symm
  | le => exact (q_lt_in (q_not_inv h)).symm
theorem q_nt {t : Bool} {P Q : Prop} (h : (!t) = true ↔ P) (hQ : Q ↔ ¬ P) : t = true ↔ Q := by
  rw [hQ, ← h]
  cases t <;> simp
theorem q_cm_ok {rg : Nat → Nat × Nat} {c : ClassFile.Cond} {a b : Nat} {t : Bool} {xa xb : Int32} (h : q_cm rg c a b = some t) (ha : q_iv rg a xa) (hb : q_iv rg b xb) : t = true ↔ q_cp c xa xb := by
  cases c with
  | eq => exact q_eq_ok h ha hb
  | ne => exact q_nt (q_eq_ok (q_not_inv h) ha hb) Iff.rfl
  | lt => exact q_lt_ok h ha hb
  | ge => exact q_nt (q_lt_ok (q_not_inv h) ha hb) Int32.not_lt.symm
  | gt => exact q_lt_ok h hb ha
  | le => exact q_nt (q_lt_ok (q_not_inv h) hb ha) Int32.not_lt.symm
section QI
variable {l : Launch} {base : Nat} {D : va_G} {env : Nat → Int32} {rg : Nat → Nat × Nat} {mem : q_M} {ih : q_F} {d i pc ln x y z loc : Nat} {tl : List q_I} {st : List Nat} {h hf : q_H} {r : List Nat}
theorem q_norn {a b : Bool} (h : (a || b) = false) : a = false ∧ b = false := by
  cases a with
  | false => exact ⟨rfl, h⟩
  | true => cases h
theorem q_shr_le (a b : Nat) (ha : a ≤ 4294967295) (hb : b < 32) : (bif Nat.ble a 2147483647 then Nat.shiftRight a b else Nat.sub (Nat.add (Nat.shiftRight a b) 4294967296) (Nat.pow 2 (Nat.sub 32 b))) ≤ 4294967295 := by
  by_cases h : a ≤ 2147483647
  · rw [q_ift _ _ (q_ble.mpr h)]
    exact Nat.le_trans (show a >>> b ≤ a by rw [Nat.shiftRight_eq_div_pow]; exact Nat.div_le_self _ _) ha
  · rw [q_iff _ _ (q_bnle.mpr (by omega))]
    obtain ⟨h1, h2, h3, h4, h5⟩ := q_shr_neg a b (2 ^ b) (2 ^ (32 - b)) (by rw [← Nat.pow_add, show b + (32 - b) = 32 by omega]) (Nat.pow_pos (by decide)) ha (by omega)
    have e : Nat.sub (Nat.add (Nat.shiftRight a b) 4294967296) (Nat.pow 2 (Nat.sub 32 b)) = a / 2 ^ b + 4294967296 - 2 ^ (32 - b) := by
      rw [← Nat.shiftRight_eq_div_pow, Nat.sub_eq, Nat.add_eq, Nat.sub_eq]; rfl
    rw [e]
    omega
theorem q_s_ineg (hrg : q_rgs env rg) (hd : decode (q_b i) pc = .ok (.ineg, ln)) (hk : q_lnk i pc ln (.ineg) x y z) (hN : q_HN l base D env ih i pc ln tl) (hr : q_step rg q_code mem ih d i (q_code i) pc (.ineg) x y z tl loc st h = some (hf, r)) : q_G l base D env d i pc loc st h hf r := by
  have e1 : ln = 1 := hk
  subst e1
  cases st with
  | nil => cases hr
  | cons a rr =>
    have hr : (bif q_ex a then q_fr (q_w (Nat.sub 4294967296 a)) (fun v => ih d i (q_code i) tl loc (v :: rr) h) else none) = some (hf, r) := hr
    obtain ⟨hq, hr⟩ := q_bifs hr
    rw [q_fr_eq] at hr
    have hq := q_ble.mp hq
    obtain ⟨hm, hg⟩ := hN d loc _ h hf r hr
    refine ⟨hm, fun p e s m args below meth c H locs ls sv ws tys ad0 n0 s0 C hw hP hK hD hS hp hL hs hn0 hs0 => ?_⟩
    obtain ⟨va, sv1, rfl, hva, hs1⟩ := hs.cons
    obtain ⟨xa, rfl, xa1, -⟩ := hva.int hrg (by omega)
    refine lv_ineg C.1 C.2.1 hd (hg p e s m args below meth c H locs ls (.int (-xa) :: sv1) ws tys ad0 n0 s0 C hw hP hK hD hS hp hL (⟨?_, hs1⟩) hn0 hs0)
    rw [xa1 hq, Nat.sub_eq]
    exact q_v.exq _ (q_w_le _) ((q_neg a hq).trans (q_nI_w _).symm)
theorem q_s_idiv (hrg : q_rgs env rg) (hd : decode (q_b i) pc = .ok (.idiv, ln)) (hk : q_lnk i pc ln (.idiv) x y z) (hN : q_HN l base D env ih i pc ln tl) (hr : q_step rg q_code mem ih d i (q_code i) pc (.idiv) x y z tl loc st h = some (hf, r)) : q_G l base D env d i pc loc st h hf r := by
  have e1 : ln = 1 := hk
  subst e1
  match st, hr with
  | [], hr => cases hr
  | [_], hr => cases hr
  | b :: a :: rr, hr =>
    have hr : (bif Nat.ble a 2147483647 && (Nat.ble b 2147483647 && Nat.blt 0 b) then q_fr (Nat.div a b) (fun v => ih d i (q_code i) tl loc (v :: rr) h) else none) = some (hf, r) := hr
    obtain ⟨hq, hr⟩ := q_bifs hr
    rw [q_fr_eq] at hr
    obtain ⟨h1, h2⟩ := q_ands hq
    obtain ⟨h2, h3⟩ := q_ands h2
    have h1 := q_ble.mp h1
    have h2 := q_ble.mp h2
    have h3 := q_blt.mp h3
    obtain ⟨hm, hg⟩ := hN d loc _ h hf r hr
    refine ⟨hm, fun p e s m args below meth c H locs ls sv ws tys ad0 n0 s0 C hw hP hK hD hS hp hL hs hn0 hs0 => ?_⟩
    obtain ⟨vb, sv1, rfl, hvb, hs1⟩ := hs.cons
    obtain ⟨va, sv2, rfl, hva, hs2⟩ := hs1.cons
    obtain ⟨xb, rfl, xb1, -⟩ := hvb.int hrg (by omega)
    obtain ⟨xa, rfl, xa1, -⟩ := hva.int hrg (by omega)
    have hne : ¬ xb = 0 := by rw [xb1 (by omega)]; exact nI_ne0 h3 (by omega)
    refine lv_idiv C.1 C.2.1 hd hne (hg p e s m args below meth c H locs ls (.int (xa / xb) :: sv2) ws tys ad0 n0 s0 C hw hP hK hD hS hp hL (⟨?_, hs2⟩) hn0 hs0)
    rw [xa1 (by omega), xb1 (by omega), pk_div (by omega) h3 (by omega)]
    exact q_v.ex _ (Nat.le_trans (Nat.div_le_self a b) (by omega))
theorem q_s_irem (hrg : q_rgs env rg) (hd : decode (q_b i) pc = .ok (.irem, ln)) (hk : q_lnk i pc ln (.irem) x y z) (hN : q_HN l base D env ih i pc ln tl) (hr : q_step rg q_code mem ih d i (q_code i) pc (.irem) x y z tl loc st h = some (hf, r)) : q_G l base D env d i pc loc st h hf r := by
  have e1 : ln = 1 := hk
  subst e1
  match st, hr with
  | [], hr => cases hr
  | [_], hr => cases hr
  | b :: a :: rr, hr =>
    have hr : (bif Nat.ble a 2147483647 && (Nat.ble b 2147483647 && Nat.blt 0 b) then q_fr (Nat.mod a b) (fun v => ih d i (q_code i) tl loc (v :: rr) h) else none) = some (hf, r) := hr
    obtain ⟨hq, hr⟩ := q_bifs hr
    rw [q_fr_eq] at hr
    obtain ⟨h1, h2⟩ := q_ands hq
    obtain ⟨h2, h3⟩ := q_ands h2
    have h1 := q_ble.mp h1
    have h2 := q_ble.mp h2
    have h3 := q_blt.mp h3
    obtain ⟨hm, hg⟩ := hN d loc _ h hf r hr
    refine ⟨hm, fun p e s m args below meth c H locs ls sv ws tys ad0 n0 s0 C hw hP hK hD hS hp hL hs hn0 hs0 => ?_⟩
    obtain ⟨vb, sv1, rfl, hvb, hs1⟩ := hs.cons
    obtain ⟨va, sv2, rfl, hva, hs2⟩ := hs1.cons
    obtain ⟨xb, rfl, xb1, -⟩ := hvb.int hrg (by omega)
    obtain ⟨xa, rfl, xa1, -⟩ := hva.int hrg (by omega)
    have hne : ¬ xb = 0 := by rw [xb1 (by omega)]; exact nI_ne0 h3 (by omega)
    refine lv_irem C.1 C.2.1 hd hne (hg p e s m args below meth c H locs ls (.int (xa - xa / xb * xb) :: sv2) ws tys ad0 n0 s0 C hw hP hK hD hS hp hL (⟨?_, hs2⟩) hn0 hs0)
    rw [xa1 (by omega), xb1 (by omega), pk_rem (by omega) h3 (by omega)]
    exact q_v.ex _ (Nat.le_trans (Nat.mod_le a b) (by omega))
theorem q_s_ishl (hrg : q_rgs env rg) (hd : decode (q_b i) pc = .ok (.ishl, ln)) (hk : q_lnk i pc ln (.ishl) x y z) (hN : q_HN l base D env ih i pc ln tl) (hr : q_step rg q_code mem ih d i (q_code i) pc (.ishl) x y z tl loc st h = some (hf, r)) : q_G l base D env d i pc loc st h hf r := by
  have e1 : ln = 1 := hk
  subst e1
  match st, hr with
  | [], hr => cases hr
  | [_], hr => cases hr
  | b :: a :: rr, hr =>
    have hr : (bif Nat.blt b 32 && q_in a then (bif q_ex a then q_fr (q_w (Nat.shiftLeft a b)) (fun v => ih d i (q_code i) tl loc (v :: rr) h) else ih d i (q_code i) tl loc (4294967296 :: rr) h) else none) = some (hf, r) := hr
    obtain ⟨hq, hr⟩ := q_bifs hr
    obtain ⟨h1, h2⟩ := q_ands hq
    have h1 := q_blt.mp h1
    have h2 := q_ble.mp h2
    cases hx : q_ex a with
    | true =>
      rw [q_ift _ _ hx, q_fr_eq] at hr
      have hq := q_ble.mp hx
      obtain ⟨hm, hg⟩ := hN d loc _ h hf r hr
      refine ⟨hm, fun p e s m args below meth c H locs ls sv ws tys ad0 n0 s0 C hw hP hK hD hS hp hL hs hn0 hs0 => ?_⟩
      obtain ⟨vb, sv1, rfl, hvb, hs1⟩ := hs.cons
      obtain ⟨va, sv2, rfl, hva, hs2⟩ := hs1.cons
      obtain ⟨xb, rfl, xb1, -⟩ := hvb.int hrg (by omega)
      obtain ⟨xa, rfl, xa1, -⟩ := hva.int hrg (by omega)
      refine lv_ishl C.1 C.2.1 hd (hg p e s m args below meth c H locs ls (.int (xa <<< (xb &&& 31)) :: sv2) ws tys ad0 n0 s0 C hw hP hK hD hS hp hL (⟨?_, hs2⟩) hn0 hs0)
      rw [xa1 hq, xb1 (by omega), q_m31 b h1, q_shl a b h1]
      exact q_v.exq _ (q_w_le _) (q_nI_w _).symm
    | false =>
      rw [q_iff _ _ hx] at hr
      obtain ⟨hm, hg⟩ := hN d loc _ h hf r hr
      refine ⟨hm, fun p e s m args below meth c H locs ls sv ws tys ad0 n0 s0 C hw hP hK hD hS hp hL hs hn0 hs0 => ?_⟩
      obtain ⟨vb, sv1, rfl, hvb, hs1⟩ := hs.cons
      obtain ⟨va, sv2, rfl, hva, hs2⟩ := hs1.cons
      obtain ⟨xb, rfl, xb1, -⟩ := hvb.int hrg (by omega)
      obtain ⟨xa, rfl, xa1, -⟩ := hva.int hrg (by omega)
      exact lv_ishl C.1 C.2.1 hd (hg p e s m args below meth c H locs ls (.int (xa <<< (xb &&& 31)) :: sv2) ws tys ad0 n0 s0 C hw hP hK hD hS hp hL (⟨q_v.top _ _, hs2⟩) hn0 hs0)
theorem q_s_ishr (hrg : q_rgs env rg) (hd : decode (q_b i) pc = .ok (.ishr, ln)) (hk : q_lnk i pc ln (.ishr) x y z) (hN : q_HN l base D env ih i pc ln tl) (hr : q_step rg q_code mem ih d i (q_code i) pc (.ishr) x y z tl loc st h = some (hf, r)) : q_G l base D env d i pc loc st h hf r := by
  have e1 : ln = 1 := hk
  subst e1
  match st, hr with
  | [], hr => cases hr
  | [_], hr => cases hr
  | b :: a :: rr, hr =>
    have hr : (bif Nat.blt b 32 && q_in a then (bif q_ex a then q_fr (bif Nat.ble a 2147483647 then Nat.shiftRight a b else Nat.sub (Nat.add (Nat.shiftRight a b) 4294967296) (Nat.pow 2 (Nat.sub 32 b))) (fun v => ih d i (q_code i) tl loc (v :: rr) h) else ih d i (q_code i) tl loc (4294967296 :: rr) h) else none) = some (hf, r) := hr
    obtain ⟨hq, hr⟩ := q_bifs hr
    obtain ⟨h1, h2⟩ := q_ands hq
    have h1 := q_blt.mp h1
    have h2 := q_ble.mp h2
    cases hx : q_ex a with
    | true =>
      rw [q_ift _ _ hx, q_fr_eq] at hr
      have hq := q_ble.mp hx
      obtain ⟨hm, hg⟩ := hN d loc _ h hf r hr
      refine ⟨hm, fun p e s m args below meth c H locs ls sv ws tys ad0 n0 s0 C hw hP hK hD hS hp hL hs hn0 hs0 => ?_⟩
      obtain ⟨vb, sv1, rfl, hvb, hs1⟩ := hs.cons
      obtain ⟨va, sv2, rfl, hva, hs2⟩ := hs1.cons
      obtain ⟨xb, rfl, xb1, -⟩ := hvb.int hrg (by omega)
      obtain ⟨xa, rfl, xa1, -⟩ := hva.int hrg (by omega)
      refine lv_ishr C.1 C.2.1 hd (hg p e s m args below meth c H locs ls (.int (xa >>> (xb &&& 31)) :: sv2) ws tys ad0 n0 s0 C hw hP hK hD hS hp hL (⟨?_, hs2⟩) hn0 hs0)
      rw [xa1 hq, xb1 (by omega), q_m31 b h1, q_shr a b hq h1]
      exact q_v.ex _ (q_shr_le a b hq h1)
    | false =>
      rw [q_iff _ _ hx] at hr
      obtain ⟨hm, hg⟩ := hN d loc _ h hf r hr
      refine ⟨hm, fun p e s m args below meth c H locs ls sv ws tys ad0 n0 s0 C hw hP hK hD hS hp hL hs hn0 hs0 => ?_⟩
      obtain ⟨vb, sv1, rfl, hvb, hs1⟩ := hs.cons
      obtain ⟨va, sv2, rfl, hva, hs2⟩ := hs1.cons
      obtain ⟨xb, rfl, xb1, -⟩ := hvb.int hrg (by omega)
      obtain ⟨xa, rfl, xa1, -⟩ := hva.int hrg (by omega)
      exact lv_ishr C.1 C.2.1 hd (hg p e s m args below meth c H locs ls (.int (xa >>> (xb &&& 31)) :: sv2) ws tys ad0 n0 s0 C hw hP hK hD hS hp hL (⟨q_v.top _ _, hs2⟩) hn0 hs0)
theorem q_s_iushr (hrg : q_rgs env rg) (hd : decode (q_b i) pc = .ok (.iushr, ln)) (hk : q_lnk i pc ln (.iushr) x y z) (hN : q_HN l base D env ih i pc ln tl) (hr : q_step rg q_code mem ih d i (q_code i) pc (.iushr) x y z tl loc st h = some (hf, r)) : q_G l base D env d i pc loc st h hf r := by
  have e1 : ln = 1 := hk
  subst e1
  match st, hr with
  | [], hr => cases hr
  | [_], hr => cases hr
  | b :: a :: rr, hr =>
    have hr : (bif Nat.blt b 32 && q_in a then (bif q_ex a then q_fr (Nat.shiftRight a b) (fun v => ih d i (q_code i) tl loc (v :: rr) h) else ih d i (q_code i) tl loc (4294967296 :: rr) h) else none) = some (hf, r) := hr
    obtain ⟨hq, hr⟩ := q_bifs hr
    obtain ⟨h1, h2⟩ := q_ands hq
    have h1 := q_blt.mp h1
    have h2 := q_ble.mp h2
    cases hx : q_ex a with
    | true =>
      rw [q_ift _ _ hx, q_fr_eq] at hr
      have hq := q_ble.mp hx
      obtain ⟨hm, hg⟩ := hN d loc _ h hf r hr
      refine ⟨hm, fun p e s m args below meth c H locs ls sv ws tys ad0 n0 s0 C hw hP hK hD hS hp hL hs hn0 hs0 => ?_⟩
      obtain ⟨vb, sv1, rfl, hvb, hs1⟩ := hs.cons
      obtain ⟨va, sv2, rfl, hva, hs2⟩ := hs1.cons
      obtain ⟨xb, rfl, xb1, -⟩ := hvb.int hrg (by omega)
      obtain ⟨xa, rfl, xa1, -⟩ := hva.int hrg (by omega)
      refine lv_iushr C.1 C.2.1 hd rfl (hg p e s m args below meth c H locs ls (.int ((xa.toUInt32 >>> (xb.toUInt32 &&& Int32.toUInt32 31)).toInt32) :: sv2) ws tys ad0 n0 s0 C hw hP hK hD hS hp hL (⟨?_, hs2⟩) hn0 hs0)
      rw [xa1 hq, xb1 (by omega), q_ushr a b hq h1]
      exact q_v.ex _ (Nat.le_trans (show a >>> b ≤ a by rw [Nat.shiftRight_eq_div_pow]; exact Nat.div_le_self _ _) hq)
    | false =>
      rw [q_iff _ _ hx] at hr
      obtain ⟨hm, hg⟩ := hN d loc _ h hf r hr
      refine ⟨hm, fun p e s m args below meth c H locs ls sv ws tys ad0 n0 s0 C hw hP hK hD hS hp hL hs hn0 hs0 => ?_⟩
      obtain ⟨vb, sv1, rfl, hvb, hs1⟩ := hs.cons
      obtain ⟨va, sv2, rfl, hva, hs2⟩ := hs1.cons
      obtain ⟨xb, rfl, xb1, -⟩ := hvb.int hrg (by omega)
      obtain ⟨xa, rfl, xa1, -⟩ := hva.int hrg (by omega)
      exact lv_iushr C.1 C.2.1 hd rfl (hg p e s m args below meth c H locs ls (.int ((xa.toUInt32 >>> (xb.toUInt32 &&& Int32.toUInt32 31)).toInt32) :: sv2) ws tys ad0 n0 s0 C hw hP hK hD hS hp hL (⟨q_v.top _ _, hs2⟩) hn0 hs0)
theorem q_s_i2b (hrg : q_rgs env rg) (hd : decode (q_b i) pc = .ok (.i2b, ln)) (hk : q_lnk i pc ln (.i2b) x y z) (hN : q_HN l base D env ih i pc ln tl) (hr : q_step rg q_code mem ih d i (q_code i) pc (.i2b) x y z tl loc st h = some (hf, r)) : q_G l base D env d i pc loc st h hf r := by
  have e1 : ln = 1 := hk
  subst e1
  cases st with
  | nil => cases hr
  | cons a rr =>
    have hr : (bif q_in a then ih d i (q_code i) tl loc (4294967296 :: rr) h else none) = some (hf, r) := hr
    obtain ⟨hq, hr⟩ := q_bifs hr
    obtain ⟨hm, hg⟩ := hN d loc _ h hf r hr
    refine ⟨hm, fun p e s m args below meth c H locs ls sv ws tys ad0 n0 s0 C hw hP hK hD hS hp hL hs hn0 hs0 => ?_⟩
    obtain ⟨va, sv1, rfl, hva, hs1⟩ := hs.cons
    obtain ⟨xa, rfl, xa1, -⟩ := hva.int hrg (q_ble.mp hq)
    exact lv_i2b C.1 C.2.1 hd rfl (hg p e s m args below meth c H locs ls (.int xa.toInt8.toInt32 :: sv1) ws tys ad0 n0 s0 C hw hP hK hD hS hp hL (⟨q_v.top _ _, hs1⟩) hn0 hs0)
theorem q_s_dup (hrg : q_rgs env rg) (hd : decode (q_b i) pc = .ok (.dup, ln)) (hk : q_lnk i pc ln (.dup) x y z) (hN : q_HN l base D env ih i pc ln tl) (hr : q_step rg q_code mem ih d i (q_code i) pc (.dup) x y z tl loc st h = some (hf, r)) : q_G l base D env d i pc loc st h hf r := by
  have e1 : ln = 1 := hk
  subst e1
  cases st with
  | nil => cases hr
  | cons a rr =>
    have hr : (bif Nat.beq a 4294967314 then none else ih d i (q_code i) tl loc (a :: a :: rr) h) = some (hf, r) := hr
    obtain ⟨hq, hr⟩ := q_bifn hr
    obtain ⟨hm, hg⟩ := hN d loc _ h hf r hr
    refine ⟨hm, fun p e s m args below meth c H locs ls sv ws tys ad0 n0 s0 C hw hP hK hD hS hp hL hs hn0 hs0 => ?_⟩
    obtain ⟨va, sv1, rfl, hva, hs1⟩ := hs.cons
    exact lv_dup C.1 C.2.1 hd (hva.cat (q_bneq.mp hq)) (hg p e s m args below meth c H locs ls (va :: va :: sv1) ws tys ad0 n0 s0 C hw hP hK hD hS hp hL (⟨hva, hva, hs1⟩) hn0 hs0)
theorem q_s_pop (hrg : q_rgs env rg) (hd : decode (q_b i) pc = .ok (.pop, ln)) (hk : q_lnk i pc ln (.pop) x y z) (hN : q_HN l base D env ih i pc ln tl) (hr : q_step rg q_code mem ih d i (q_code i) pc (.pop) x y z tl loc st h = some (hf, r)) : q_G l base D env d i pc loc st h hf r := by
  have e1 : ln = 1 := hk
  subst e1
  cases st with
  | nil => cases hr
  | cons a rr =>
    have hr : (bif Nat.beq a 4294967314 then none else ih d i (q_code i) tl loc rr h) = some (hf, r) := hr
    obtain ⟨hq, hr⟩ := q_bifn hr
    obtain ⟨hm, hg⟩ := hN d loc _ h hf r hr
    refine ⟨hm, fun p e s m args below meth c H locs ls sv ws tys ad0 n0 s0 C hw hP hK hD hS hp hL hs hn0 hs0 => ?_⟩
    obtain ⟨va, sv1, rfl, hva, hs1⟩ := hs.cons
    exact lv_pop C.1 C.2.1 hd (hva.cat (q_bneq.mp hq)) (hg p e s m args below meth c H locs ls (sv1) ws tys ad0 n0 s0 C hw hP hK hD hS hp hL (hs1) hn0 hs0)
theorem q_s_dup2 (hrg : q_rgs env rg) (hd : decode (q_b i) pc = .ok (.dup2, ln)) (hk : q_lnk i pc ln (.dup2) x y z) (hN : q_HN l base D env ih i pc ln tl) (hr : q_step rg q_code mem ih d i (q_code i) pc (.dup2) x y z tl loc st h = some (hf, r)) : q_G l base D env d i pc loc st h hf r := by
  have e1 : ln = 1 := hk
  subst e1
  match st, hr with
  | [], hr => cases hr
  | [_], hr => cases hr
  | b :: a :: rr, hr =>
    have hr : (bif Nat.beq a 4294967314 || Nat.beq b 4294967314 then none else ih d i (q_code i) tl loc (b :: a :: b :: a :: rr) h) = some (hf, r) := hr
    obtain ⟨hq, hr⟩ := q_bifn hr
    obtain ⟨h1, h2⟩ := q_norn hq
    obtain ⟨hm, hg⟩ := hN d loc _ h hf r hr
    refine ⟨hm, fun p e s m args below meth c H locs ls sv ws tys ad0 n0 s0 C hw hP hK hD hS hp hL hs hn0 hs0 => ?_⟩
    obtain ⟨vb, sv1, rfl, hvb, hs1⟩ := hs.cons
    obtain ⟨va, sv2, rfl, hva, hs2⟩ := hs1.cons
    exact lv_dup2_11 C.1 C.2.1 hd (hvb.cat (q_bneq.mp h2)) (hva.cat (q_bneq.mp h1)) (hg p e s m args below meth c H locs ls (vb :: va :: vb :: va :: sv2) ws tys ad0 n0 s0 C hw hP hK hD hS hp hL (⟨hvb, hva, hvb, hva, hs2⟩) hn0 hs0)
theorem q_s_ifCond {cd : ClassFile.Cond} {off : Int} (hrg : q_rgs env rg) (hd : decode (q_b i) pc = .ok (.ifCond cd off, ln)) (hk : q_lnk i pc ln (.ifCond cd off) x y z) (hN : q_HN l base D env ih i pc ln tl) (hJ : q_HJ l base D env ih i) (hr : q_step rg q_code mem ih d i (q_code i) pc (.ifCond cd off) x y z tl loc st h = some (hf, r)) : q_G l base D env d i pc loc st h hf r := by
  obtain ⟨e1, e2⟩ := hk
  subst e1
  match st, hr with
  | [], hr => cases hr
  | a :: rr, hr =>
    have hr : q_br (q_cm rg cd a 0) (ih d i (q_code i) (q_jm (q_code i) x) loc rr h) (ih d i (q_code i) tl loc rr h) = some (hf, r) := hr
    rcases q_br_inv hr with ⟨ho, hr⟩ | ⟨ho, hr⟩
    · obtain ⟨hm, hg⟩ := hJ x d loc rr h hf r hr
      refine ⟨hm, fun p e s m args below meth c H locs ls sv ws tys ad0 n0 s0 C hw hP hK hD hS hp hL hs hn0 hs0 => ?_⟩
      obtain ⟨va, sv1, rfl, hva, hs1⟩ := hs.cons
      obtain ⟨xa, rfl, xa1⟩ := hva.int hrg (q_cm_in ho).1
      have h0 : q_iv rg 0 0 := by
        obtain ⟨z0, z1, z2⟩ := (q_v.ex (env := env) [] (Nat.zero_le 4294967295)).int hrg (by decide)
        rw [nI_0] at z1
        cases z1
        exact z2
      have hc := q_cm_ok ho xa1 h0
      cases cd with
      | eq => exact lv_if_eq C.1 C.2.1 hd e2 (fun _ => (hg p e s m args below meth c H locs ls (sv1) ws tys ad0 n0 s0 C hw hP hK hD hS hp hL (hs1) hn0 hs0)) (fun hz => absurd (hc.mp rfl) hz)
      | ne => exact lv_if_ne C.1 C.2.1 hd e2 (fun _ => (hg p e s m args below meth c H locs ls (sv1) ws tys ad0 n0 s0 C hw hP hK hD hS hp hL (hs1) hn0 hs0)) (fun hz => absurd hz (hc.mp rfl))
      | lt => exact lv_if_lt C.1 C.2.1 hd e2 (fun _ => (hg p e s m args below meth c H locs ls (sv1) ws tys ad0 n0 s0 C hw hP hK hD hS hp hL (hs1) hn0 hs0)) (fun hz => absurd (hc.mp rfl) hz)
      | ge => exact lv_if_ge C.1 C.2.1 hd e2 (fun _ => (hg p e s m args below meth c H locs ls (sv1) ws tys ad0 n0 s0 C hw hP hK hD hS hp hL (hs1) hn0 hs0)) (fun hz => absurd (hc.mp rfl) hz)
      | gt => exact lv_if_gt C.1 C.2.1 hd e2 (fun _ => (hg p e s m args below meth c H locs ls (sv1) ws tys ad0 n0 s0 C hw hP hK hD hS hp hL (hs1) hn0 hs0)) (fun hz => absurd (hc.mp rfl) hz)
      | le => exact lv_if_le C.1 C.2.1 hd e2 (fun _ => (hg p e s m args below meth c H locs ls (sv1) ws tys ad0 n0 s0 C hw hP hK hD hS hp hL (hs1) hn0 hs0)) (fun hz => absurd (hc.mp rfl) hz)
    · obtain ⟨hm, hg⟩ := hN d loc rr h hf r hr
      refine ⟨hm, fun p e s m args below meth c H locs ls sv ws tys ad0 n0 s0 C hw hP hK hD hS hp hL hs hn0 hs0 => ?_⟩
      obtain ⟨va, sv1, rfl, hva, hs1⟩ := hs.cons
      obtain ⟨xa, rfl, xa1⟩ := hva.int hrg (q_cm_in ho).1
      have h0 : q_iv rg 0 0 := by
        obtain ⟨z0, z1, z2⟩ := (q_v.ex (env := env) [] (Nat.zero_le 4294967295)).int hrg (by decide)
        rw [nI_0] at z1
        cases z1
        exact z2
      have hc := q_cm_ok ho xa1 h0
      cases cd with
      | eq => exact lv_if_eq C.1 C.2.1 hd e2 (fun hz => absurd (hc.mpr hz) (by decide)) (fun _ => (hg p e s m args below meth c H locs ls (sv1) ws tys ad0 n0 s0 C hw hP hK hD hS hp hL (hs1) hn0 hs0))
      | ne => exact lv_if_ne C.1 C.2.1 hd e2 (fun hz => absurd (hc.mpr hz) (by decide)) (fun _ => (hg p e s m args below meth c H locs ls (sv1) ws tys ad0 n0 s0 C hw hP hK hD hS hp hL (hs1) hn0 hs0))
      | lt => exact lv_if_lt C.1 C.2.1 hd e2 (fun hz => absurd (hc.mpr hz) (by decide)) (fun _ => (hg p e s m args below meth c H locs ls (sv1) ws tys ad0 n0 s0 C hw hP hK hD hS hp hL (hs1) hn0 hs0))
      | ge => exact lv_if_ge C.1 C.2.1 hd e2 (fun hz => absurd (hc.mpr hz) (by decide)) (fun _ => (hg p e s m args below meth c H locs ls (sv1) ws tys ad0 n0 s0 C hw hP hK hD hS hp hL (hs1) hn0 hs0))
      | gt => exact lv_if_gt C.1 C.2.1 hd e2 (fun hz => absurd (hc.mpr hz) (by decide)) (fun _ => (hg p e s m args below meth c H locs ls (sv1) ws tys ad0 n0 s0 C hw hP hK hD hS hp hL (hs1) hn0 hs0))
      | le => exact lv_if_le C.1 C.2.1 hd e2 (fun hz => absurd (hc.mpr hz) (by decide)) (fun _ => (hg p e s m args below meth c H locs ls (sv1) ws tys ad0 n0 s0 C hw hP hK hD hS hp hL (hs1) hn0 hs0))
theorem q_s_if_icmp {cd : ClassFile.Cond} {off : Int} (hrg : q_rgs env rg) (hd : decode (q_b i) pc = .ok (.if_icmp cd off, ln)) (hk : q_lnk i pc ln (.if_icmp cd off) x y z) (hN : q_HN l base D env ih i pc ln tl) (hJ : q_HJ l base D env ih i) (hr : q_step rg q_code mem ih d i (q_code i) pc (.if_icmp cd off) x y z tl loc st h = some (hf, r)) : q_G l base D env d i pc loc st h hf r := by
  obtain ⟨e1, e2⟩ := hk
  subst e1
  match st, hr with
  | [], hr => cases hr
  | [_], hr => cases hr
  | b :: a :: rr, hr =>
    have hr : q_br (q_cm rg cd a b) (ih d i (q_code i) (q_jm (q_code i) x) loc rr h) (ih d i (q_code i) tl loc rr h) = some (hf, r) := hr
    rcases q_br_inv hr with ⟨ho, hr⟩ | ⟨ho, hr⟩
    · obtain ⟨hm, hg⟩ := hJ x d loc rr h hf r hr
      refine ⟨hm, fun p e s m args below meth c H locs ls sv ws tys ad0 n0 s0 C hw hP hK hD hS hp hL hs hn0 hs0 => ?_⟩
      obtain ⟨vb, sv1, rfl, hvb, hs1⟩ := hs.cons
      obtain ⟨va, sv2, rfl, hva, hs2⟩ := hs1.cons
      obtain ⟨xb, rfl, xb1⟩ := hvb.int hrg (q_cm_in ho).2
      obtain ⟨xa, rfl, xa1⟩ := hva.int hrg (q_cm_in ho).1
      have hc := q_cm_ok ho xa1 xb1
      cases cd with
      | eq => exact lv_icmp_eq C.1 C.2.1 hd e2 (fun _ => (hg p e s m args below meth c H locs ls (sv2) ws tys ad0 n0 s0 C hw hP hK hD hS hp hL (hs2) hn0 hs0)) (fun hz => absurd (hc.mp rfl) hz)
      | ne => exact lv_icmp_ne C.1 C.2.1 hd e2 (fun _ => (hg p e s m args below meth c H locs ls (sv2) ws tys ad0 n0 s0 C hw hP hK hD hS hp hL (hs2) hn0 hs0)) (fun hz => absurd hz (hc.mp rfl))
      | lt => exact lv_icmp_lt C.1 C.2.1 hd e2 (fun _ => (hg p e s m args below meth c H locs ls (sv2) ws tys ad0 n0 s0 C hw hP hK hD hS hp hL (hs2) hn0 hs0)) (fun hz => absurd (hc.mp rfl) hz)
      | ge => exact lv_icmp_ge C.1 C.2.1 hd e2 (fun _ => (hg p e s m args below meth c H locs ls (sv2) ws tys ad0 n0 s0 C hw hP hK hD hS hp hL (hs2) hn0 hs0)) (fun hz => absurd (hc.mp rfl) hz)
      | gt => exact lv_icmp_gt C.1 C.2.1 hd e2 (fun _ => (hg p e s m args below meth c H locs ls (sv2) ws tys ad0 n0 s0 C hw hP hK hD hS hp hL (hs2) hn0 hs0)) (fun hz => absurd (hc.mp rfl) hz)
      | le => exact lv_icmp_le C.1 C.2.1 hd e2 (fun _ => (hg p e s m args below meth c H locs ls (sv2) ws tys ad0 n0 s0 C hw hP hK hD hS hp hL (hs2) hn0 hs0)) (fun hz => absurd (hc.mp rfl) hz)
    · obtain ⟨hm, hg⟩ := hN d loc rr h hf r hr
      refine ⟨hm, fun p e s m args below meth c H locs ls sv ws tys ad0 n0 s0 C hw hP hK hD hS hp hL hs hn0 hs0 => ?_⟩
      obtain ⟨vb, sv1, rfl, hvb, hs1⟩ := hs.cons
      obtain ⟨va, sv2, rfl, hva, hs2⟩ := hs1.cons
      obtain ⟨xb, rfl, xb1⟩ := hvb.int hrg (q_cm_in ho).2
      obtain ⟨xa, rfl, xa1⟩ := hva.int hrg (q_cm_in ho).1
      have hc := q_cm_ok ho xa1 xb1
      cases cd with
      | eq => exact lv_icmp_eq C.1 C.2.1 hd e2 (fun hz => absurd (hc.mpr hz) (by decide)) (fun _ => (hg p e s m args below meth c H locs ls (sv2) ws tys ad0 n0 s0 C hw hP hK hD hS hp hL (hs2) hn0 hs0))
      | ne => exact lv_icmp_ne C.1 C.2.1 hd e2 (fun hz => absurd (hc.mpr hz) (by decide)) (fun _ => (hg p e s m args below meth c H locs ls (sv2) ws tys ad0 n0 s0 C hw hP hK hD hS hp hL (hs2) hn0 hs0))
      | lt => exact lv_icmp_lt C.1 C.2.1 hd e2 (fun hz => absurd (hc.mpr hz) (by decide)) (fun _ => (hg p e s m args below meth c H locs ls (sv2) ws tys ad0 n0 s0 C hw hP hK hD hS hp hL (hs2) hn0 hs0))
      | ge => exact lv_icmp_ge C.1 C.2.1 hd e2 (fun hz => absurd (hc.mpr hz) (by decide)) (fun _ => (hg p e s m args below meth c H locs ls (sv2) ws tys ad0 n0 s0 C hw hP hK hD hS hp hL (hs2) hn0 hs0))
      | gt => exact lv_icmp_gt C.1 C.2.1 hd e2 (fun hz => absurd (hc.mpr hz) (by decide)) (fun _ => (hg p e s m args below meth c H locs ls (sv2) ws tys ad0 n0 s0 C hw hP hK hD hS hp hL (hs2) hn0 hs0))
      | le => exact lv_icmp_le C.1 C.2.1 hd e2 (fun hz => absurd (hc.mpr hz) (by decide)) (fun _ => (hg p e s m args below meth c H locs ls (sv2) ws tys ad0 n0 s0 C hw hP hK hD hS hp hL (hs2) hn0 hs0))
theorem q_s_goto {off : Int} (hrg : q_rgs env rg) (hd : decode (q_b i) pc = .ok (.goto off, ln)) (hk : q_lnk i pc ln (.goto off) x y z) (hN : q_HN l base D env ih i pc ln tl) (hJ : q_HJ l base D env ih i) (hr : q_step rg q_code mem ih d i (q_code i) pc (.goto off) x y z tl loc st h = some (hf, r)) : q_G l base D env d i pc loc st h hf r := by
  obtain ⟨e1, e2⟩ := hk
  subst e1
  obtain ⟨hm, hg⟩ := hJ x d loc st h hf r hr
  refine ⟨hm, fun p e s m args below meth c H locs ls sv ws tys ad0 n0 s0 C hw hP hK hD hS hp hL hs hn0 hs0 => ?_⟩
  exact lv_goto C.1 C.2.1 hd e2 (hg p e s m args below meth c H locs ls (sv) ws tys ad0 n0 s0 C hw hP hK hD hS hp hL (hs) hn0 hs0)
theorem q_s_ifnull {off : Int} (hrg : q_rgs env rg) (hd : decode (q_b i) pc = .ok (.ifnull off, ln)) (hk : q_lnk i pc ln (.ifnull off) x y z) (hN : q_HN l base D env ih i pc ln tl) (hr : q_step rg q_code mem ih d i (q_code i) pc (.ifnull off) x y z tl loc st h = some (hf, r)) : q_G l base D env d i pc loc st h hf r := by
  obtain ⟨e1, e2⟩ := hk
  subst e1
  cases st with
  | nil => cases hr
  | cons a rr =>
    have hr : (bif Nat.ble 4294967328 a then ih d i (q_code i) tl loc rr h else none) = some (hf, r) := hr
    obtain ⟨hq, hr⟩ := q_bifs hr
    obtain ⟨hm, hg⟩ := hN d loc _ h hf r hr
    refine ⟨hm, fun p e s m args below meth c H locs ls sv ws tys ad0 n0 s0 C hw hP hK hD hS hp hL hs hn0 hs0 => ?_⟩
    obtain ⟨va, sv1, rfl, hva, hs1⟩ := hs.cons
    obtain ⟨k, hk2, rfl⟩ := hva.ref (q_ble.mp hq)
    exact lv_ifnull C.1 C.2.1 hd (hg p e s m args below meth c H locs ls (sv1) ws tys ad0 n0 s0 C hw hP hK hD hS hp hL (hs1) hn0 hs0)
theorem q_s_ifnonnull {off : Int} (hrg : q_rgs env rg) (hd : decode (q_b i) pc = .ok (.ifnonnull off, ln)) (hk : q_lnk i pc ln (.ifnonnull off) x y z) (hN : q_HN l base D env ih i pc ln tl) (hJ : q_HJ l base D env ih i) (hr : q_step rg q_code mem ih d i (q_code i) pc (.ifnonnull off) x y z tl loc st h = some (hf, r)) : q_G l base D env d i pc loc st h hf r := by
  obtain ⟨e1, e2⟩ := hk
  subst e1
  cases st with
  | nil => cases hr
  | cons a rr =>
    have hr : (bif Nat.ble 4294967328 a then ih d i (q_code i) (q_jm (q_code i) x) loc rr h else bif Nat.beq a 4294967312 then ih d i (q_code i) tl loc rr h else none) = some (hf, r) := hr
    cases hq : Nat.ble 4294967328 a with
    | true =>
      rw [q_ift _ _ hq] at hr
      obtain ⟨hm, hg⟩ := hJ x d loc rr h hf r hr
      refine ⟨hm, fun p e s m args below meth c H locs ls sv ws tys ad0 n0 s0 C hw hP hK hD hS hp hL hs hn0 hs0 => ?_⟩
      obtain ⟨va, sv1, rfl, hva, hs1⟩ := hs.cons
      obtain ⟨k, hk2, rfl⟩ := hva.ref (q_ble.mp hq)
      exact lv_ifnonnull C.1 C.2.1 hd e2 (hg p e s m args below meth c H locs ls (sv1) ws tys ad0 n0 s0 C hw hP hK hD hS hp hL (hs1) hn0 hs0)
    | false =>
      rw [q_iff _ _ hq] at hr
      obtain ⟨hq2, hr⟩ := q_bifs hr
      have hq2 := q_beq.mp hq2
      obtain ⟨hm, hg⟩ := hN d loc rr h hf r hr
      refine ⟨hm, fun p e s m args below meth c H locs ls sv ws tys ad0 n0 s0 C hw hP hK hD hS hp hL hs hn0 hs0 => ?_⟩
      obtain ⟨va, sv1, rfl, hva, hs1⟩ := hs.cons
      rw [hq2] at hva
      have hv := hva.nul
      subst hv
      exact lv_ifnonnullN C.1 C.2.1 hd (hg p e s m args below meth c H locs ls (sv1) ws tys ad0 n0 s0 C hw hP hK hD hS hp hL (hs1) hn0 hs0)
theorem q_s_table {df lo hi : Int} {offs : Array Int} (hrg : q_rgs env rg) (hd : decode (q_b i) pc = .ok (.tableswitch df lo hi offs, ln)) (hk : q_lnk i pc ln (.tableswitch df lo hi offs) x y z) (hN : q_HN l base D env ih i pc ln tl) (hJ : q_HJ l base D env ih i) (hr : q_step rg q_code mem ih d i (q_code i) pc (.tableswitch df lo hi offs) x y z tl loc st h = some (hf, r)) : q_G l base D env d i pc loc st h hf r := by
  obtain ⟨e1, e2, e3, e4, e5⟩ := hk
  cases st with
  | nil => cases hr
  | cons a rr =>
    have hr : (bif q_ex a && (Nat.ble x a && Nat.ble a y) then ih d i (q_code i) (q_jm (q_code i) (Int.toNat (Int.add (Int.ofNat pc) (q_nth offs.toList 0 (Nat.sub a x))))) loc rr h else bif q_in a && (Nat.blt (q_hi rg a) (q_bi x) || Nat.blt (q_bi y) (q_lo rg a)) then ih d i (q_code i) (q_jm (q_code i) (Int.toNat (Int.add (Int.ofNat pc) df))) loc rr h else none) = some (hf, r) := hr
    cases hq : (q_ex a && (Nat.ble x a && Nat.ble a y)) with
    | true =>
      rw [q_ift _ _ hq] at hr
      obtain ⟨h1, h2⟩ := q_ands hq
      obtain ⟨h2, h3⟩ := q_ands h2
      have h1 := q_ble.mp h1
      have h2 := q_ble.mp h2
      have h3 := q_ble.mp h3
      obtain ⟨o, ho, hpos⟩ := e5 (a - x) (by omega)
      have eo : q_nth offs.toList 0 (Nat.sub a x) = o := by
        rw [q_nth_eq, Nat.sub_eq, List.getD_eq_getElem?_getD, Array.getElem?_toList, ho]
        rfl
      rw [eo] at hr
      obtain ⟨hm, hg⟩ := hJ _ d loc rr h hf r hr
      refine ⟨hm, fun p e s m args below meth c H locs ls sv ws tys ad0 n0 s0 C hw hP hK hD hS hp hL hs hn0 hs0 => ?_⟩
      obtain ⟨va, sv1, rfl, hva, hs1⟩ := hs.cons
      obtain ⟨xa, rfl, xa1, -⟩ := hva.int hrg (by omega)
      have ex : xa.toInt = (a : Int) := by rw [xa1 h1, q_toInt h1, if_pos (by omega)]
      refine lv_tableIn (off := o) C.1 C.2.1 hd (by omega) (by omega) ?_ ?_ (hg p e s m args below meth c H locs ls (sv1) ws tys ad0 n0 s0 C hw hP hK hD hS hp hL (hs1) hn0 hs0)
      · rw [ex, e1, show ((a : Int) - (x : Int)).toNat = a - x by omega]
        exact ho
      · show (pc : Int) + o = ((((pc : Int) + o).toNat : Nat) : Int)
        exact (Int.toNat_of_nonneg hpos).symm
    | false =>
      rw [q_iff _ _ hq] at hr
      obtain ⟨h1, hr⟩ := q_bifs hr
      obtain ⟨h1, h2⟩ := q_ands h1
      obtain ⟨hm, hg⟩ := hJ _ d loc rr h hf r hr
      refine ⟨hm, fun p e s m args below meth c H locs ls sv ws tys ad0 n0 s0 C hw hP hK hD hS hp hL hs hn0 hs0 => ?_⟩
      obtain ⟨va, sv1, rfl, hva, hs1⟩ := hs.cons
      obtain ⟨xa, rfl, xa1, xa2, xa3⟩ := hva.int hrg (q_ble.mp h1)
      refine lv_tableOut C.1 C.2.1 hd ?_ ?_ (hg p e s m args below meth c H locs ls (sv1) ws tys ad0 n0 s0 C hw hP hK hD hS hp hL (hs1) hn0 hs0)
      · have b1 : ∀ k : Nat, k < 2147483648 → q_bi k = k + 2147483648 := fun k hk => by
          show (k + 2147483648) % 4294967296 = _
          omega
        have hx := q_rng xa
        unfold q_qb at xa2 xa3
        rcases q_ors h2 with h2 | h2
        · have h2 := q_blt.mp h2
          left
          rcases Nat.lt_or_ge x 2147483648 with hx2 | hx2
          · rw [b1 x hx2] at h2
            omega
          · omega
        · have h2 := q_blt.mp h2
          rw [b1 y e3] at h2
          right
          omega
      · show (pc : Int) + df = ((((pc : Int) + df).toNat : Nat) : Int)
        exact (Int.toNat_of_nonneg e4).symm
end QI

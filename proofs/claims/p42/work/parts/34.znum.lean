/-! ===== arithmetic on codes: what comes of it lies in the bounds ===== -/
theorem z_qi (x : Int32) : (q_qb x : Int) = x.toInt + 2147483648 := by
  have := q_rng x
  show ((x.toInt + 2147483648).toNat : Int) = _
  omega
theorem z_bm {n : Int} (h1 : -2147483648 ≤ n) (h2 : n < 2147483648) : n.bmod (2 ^ 32) = n := Int.bmod_eq_of_le (by simpa using h1) (by simpa using h2)
theorem z_qadd {x y : Int32} (h1 : 2147483648 ≤ q_qb x + q_qb y) (h2 : q_qb x + q_qb y < 6442450944) : q_qb (x + y) + 2147483648 = q_qb x + q_qb y := by
  have e := Int32.toInt_add x y
  have ex := z_qi x
  have ey := z_qi y
  have es := z_qi (x + y)
  rw [z_bm (by omega) (by omega)] at e
  omega
theorem z_qsub {x y : Int32} (h1 : q_qb y ≤ q_qb x + 2147483648) (h2 : q_qb x + 2147483648 < q_qb y + 4294967296) : q_qb (x - y) + q_qb y = q_qb x + 2147483648 := by
  have e := Int32.toInt_sub x y
  have ex := z_qi x
  have ey := z_qi y
  have es := z_qi (x - y)
  rw [z_bm (by omega) (by omega)] at e
  omega
theorem z_qneg {x : Int32} (h : 1 ≤ q_qb x) : q_qb (-x) + q_qb x = 4294967296 := by
  have e := Int32.toInt_neg x
  have ex := z_qi x
  have es := z_qi (-x)
  have := q_rng x
  rw [z_bm (by omega) (by omega)] at e
  omega
/-- an int from 0 on is a number -/
theorem z_nat {x : Int32} (h : 2147483648 ≤ q_qb x) : ∃ n, n < 2147483648 ∧ x = nI n ∧ q_qb x = 2147483648 + n := by
  obtain ⟨n, hn, rfl⟩ := nI_of (x := x) (fun hx => by
    have := (q_lt_iff x 0).mp hx
    rw [z_qb0] at this
    omega)
  refine ⟨n, hn, rfl, ?_⟩
  rw [q_qb_nI (by omega)]
  show (n + 2147483648) % 4294967296 = _
  omega
theorem z_qnI {n : Nat} (h : n < 2147483648) : q_qb (nI n) = 2147483648 + n := by
  rw [q_qb_nI (by omega)]
  show (n + 2147483648) % 4294967296 = _
  omega
theorem z_qmul {x y : Int32} {n m : Nat} (hx : x = nI n) (hy : y = nI m) (h : n * m < 2147483648) : q_qb (x * y) = 2147483648 + n * m := by
  subst hx; subst hy
  rw [pk_mul, z_qnI h]
theorem z_qand {x y : Int32} (h : 2147483648 ≤ q_qb x) : 2147483648 ≤ q_qb (x &&& y) ∧ q_qb (x &&& y) ≤ q_qb x := by
  obtain ⟨n, hn, rfl, e⟩ := z_nat h
  obtain ⟨e2, h2⟩ := q_self y
  rw [e2, q_and]
  have h3 : n &&& y.toBitVec.toNat ≤ n := Nat.and_le_left
  rw [z_qnI (by omega), e]
  omega
theorem z_qand2 {x y : Int32} (h : 2147483648 ≤ q_qb y) : 2147483648 ≤ q_qb (x &&& y) ∧ q_qb (x &&& y) ≤ q_qb y := by
  rw [Int32.and_comm]
  exact z_qand h
theorem z_qor {x y : Int32} (h : 2147483648 ≤ q_qb x) (h2 : 2147483648 ≤ q_qb y) : 2147483648 ≤ q_qb (x ||| y) := by
  obtain ⟨n, hn, rfl, e⟩ := z_nat h
  obtain ⟨m, hm, rfl, e2⟩ := z_nat h2
  have : n ||| m < 2 ^ 31 := Nat.or_lt_two_pow (by omega) (by omega)
  rw [q_or, z_qnI (by omega)]
  omega
theorem z_qxor {x y : Int32} (h : 2147483648 ≤ q_qb x) (h2 : 2147483648 ≤ q_qb y) : 2147483648 ≤ q_qb (x ^^^ y) := by
  obtain ⟨n, hn, rfl, e⟩ := z_nat h
  obtain ⟨m, hm, rfl, e2⟩ := z_nat h2
  have : n ^^^ m < 2 ^ 31 := Nat.xor_lt_two_pow (by omega) (by omega)
  rw [q_xor, z_qnI (by omega)]
  omega
theorem z_qrem {x y : Int32} (h : 2147483648 < q_qb y) : 4294967297 ≤ q_qb (x - x / y * y) + q_qb y ∧ q_qb (x - x / y * y) + 1 ≤ q_qb y := by
  have ex := z_qi x
  have ey := z_qi y
  have es := z_qi (x - x / y * y)
  have rx := q_rng x
  have ry := q_rng y
  have hy : 0 < y.toInt := by omega
  have hne : y ≠ -1 := by
    intro e
    rw [e] at hy
    exact absurd hy (by decide)
  have ed := Int32.toInt_div_of_ne_right x y hne
  have hm1 := Int.tmod_lt_of_pos x.toInt hy
  have hm2 := Int.lt_tmod_of_pos x.toInt hy
  have hm3 := Int.tdiv_mul_add_tmod x.toInt y.toInt
  have em : (x / y * y).toInt = x.toInt.tdiv y.toInt * y.toInt := by
    rw [Int32.toInt_mul, ed]
    have b1 : -2147483648 ≤ x.toInt.tdiv y.toInt * y.toInt := by
      rcases Int.le_total 0 x.toInt with h0 | h0
      · have := Int.tmod_nonneg y.toInt h0
        have : 0 ≤ x.toInt.tdiv y.toInt * y.toInt := Int.mul_nonneg (Int.tdiv_nonneg h0 (by omega)) (by omega)
        omega
      · have : x.toInt.tmod y.toInt ≤ 0 := by
          have h5 := Int.tmod_nonneg (a := -x.toInt) y.toInt (by omega)
          rw [Int.neg_tmod] at h5
          omega
        omega
    have b2 : x.toInt.tdiv y.toInt * y.toInt < 2147483648 := by
      rcases Int.le_total 0 x.toInt with h0 | h0
      · have := Int.tmod_nonneg y.toInt h0
        omega
      · have h5 := Int.tdiv_nonneg (a := -x.toInt) (b := y.toInt) (by omega) (by omega)
        rw [Int.neg_tdiv] at h5
        have : x.toInt.tdiv y.toInt * y.toInt ≤ 0 := Int.mul_nonpos_of_nonpos_of_nonneg (by omega) (by omega)
        omega
    exact z_bm b1 b2
  have e := Int32.toInt_sub x (x / y * y)
  rw [em, z_bm (by omega) (by omega)] at e
  omega
theorem z_shl1 : ∀ s, s < 31 → nI 1 <<< (nI s &&& 31) = nI (2 ^ s) := by decide +kernel
theorem z_pw (k n : Nat) : Nat.add k (Nat.pow 2 n) = k + 2 ^ n := rfl
theorem z_m31 (y : Int32) : ∃ b, b < 32 ∧ y &&& 31 = nI b := by
  obtain ⟨e, h⟩ := q_self y
  refine ⟨y.toBitVec.toNat &&& 31, Nat.lt_of_le_of_lt Nat.and_le_right (by decide), ?_⟩
  have := q_and y.toBitVec.toNat 31
  rw [← e] at this
  exact this
/-! what comes of an operation: a code for it -/
def z_Res {α : Type} (sa : Nat → Nat) (ad ts : List Nat) (V : z_V) (vs : List Value) (k : z_V → z_C → Option α) (R : α) (v : Value) : Prop := ∃ W c vs', k W c = some R ∧ vs <+: vs' ∧ z_E W vs' ∧ W.2.2.2 = V.2.2.2 ∧ z_v sa ad ts vs' c v
theorem z_frv_eq {α : Type} (v : z_V) (k : z_V → α) : z_frv v k = k v := by
  show q_fr v.1 (fun n => q_fr v.2.1 (fun lo => q_fr v.2.2.1 (fun hi => k (n, lo, hi, v.2.2.2)))) = _
  rw [q_fr_eq, q_fr_eq, q_fr_eq]
section ZO
variable {α : Type} {sa : Nat → Nat} {ad ts : List Nat} {V : z_V} {vs : List Value} {k : z_V → z_C → Option α} {R : α} {a b : z_C} {x y : Int32} {lo hi : Nat}
theorem z_fi_s (hr : z_fi V lo hi k = some R) (hE : z_E V vs) (h1 : lo ≤ q_qb y) (h2 : q_qb y ≤ hi) : z_Res sa ad ts V vs k R (.int y) := by
  unfold z_fi at hr
  cases hb : Nat.beq lo hi with
  | true =>
    rw [q_ift _ _ hb, q_fr_eq] at hr
    have e := q_beq.mp hb
    have e2 : lo = q_qb y := by omega
    rw [e2] at hr
    exact ⟨V, _, vs, hr, List.prefix_rfl, hE, rfl, z_v.mkcon hE⟩
  | false =>
    rw [q_iff _ _ hb] at hr
    obtain ⟨h3, hr⟩ := q_bifs hr
    obtain ⟨h3, h4⟩ := q_ands h3
    have h3 := q_ble.mp h3
    have h4 := q_ble.mp h4
    rw [q_fr_eq, q_fr_eq, z_frv_eq] at hr
    refine ⟨_, _, vs ++ [.int y], hr, List.prefix_append _ _, hE.push (v := .int y) (by omega) (by omega) ⟨h1, h2⟩, rfl, Or.inl ⟨rfl, y, y, ?_, rfl, rfl⟩⟩
    exact z_last hE.1
theorem z_an_s (hr : z_an V k = some R) (hE : z_E V vs) : z_Res sa ad ts V vs k R (.int y) := z_fi_s hr hE (Nat.zero_le _) (q_qb_hi y)
theorem z_oadd_s (hr : z_oadd V a b k = some R) (hE : z_E V vs) (ka : a.1 = 0) (kb : b.1 = 0) (ha : z_v sa ad ts vs a (.int x)) (hb : z_v sa ad ts vs b (.int y)) : z_Res sa ad ts V vs k R (.int (x + y)) := by
  obtain ⟨x2, ex, ax, bx⟩ := ha.bnd hE ka
  cases ex
  obtain ⟨y2, ey, ay, by2⟩ := hb.bnd hE kb
  cases ey
  unfold z_oadd at hr
  cases h1 : (Nat.ble 2147483648 (Nat.add (z_il V a) (z_il V b)) && Nat.blt (Nat.add (z_ih V a) (z_ih V b)) 6442450944) with
  | false =>
    rw [q_iff _ _ h1] at hr
    exact z_an_s hr hE
  | true =>
    rw [q_ift _ _ h1] at hr
    obtain ⟨h2, h3⟩ := q_ands h1
    have h2 : 2147483648 ≤ z_il V a + z_il V b := q_ble.mp h2
    have h3 : z_ih V a + z_ih V b < 6442450944 := q_blt.mp h3
    have hs := z_qadd (x := x) (y := y) (by omega) (by omega)
    cases h4 : (Nat.ble 2147483648 (Nat.add a.2.2 b.2.2) && (Nat.beq a.2.1 0 || Nat.beq b.2.1 0)) with
    | false =>
      rw [q_iff _ _ h4] at hr
      refine z_fi_s hr hE ?_ ?_
      · show z_il V a + z_il V b - 2147483648 ≤ _
        omega
      · show _ ≤ z_ih V a + z_ih V b - 2147483648
        omega
    | true =>
      rw [q_ift _ _ h4, q_fr_eq] at hr
      obtain ⟨h5, h6⟩ := q_ands h4
      have h5 : 2147483648 ≤ a.2.2 + b.2.2 := q_ble.mp h5
      obtain ⟨xa, ya, ha1, ha2, ha3⟩ := ha.int ka
      cases ha2
      obtain ⟨xb, yb, hb1, hb2, hb3⟩ := hb.int kb
      cases hb2
      refine ⟨V, _, vs, hr, List.prefix_rfl, hE, rfl, ?_⟩
      rcases q_ors h6 with h6 | h6
      · have h6 := q_beq.mp h6
        rw [h6] at ha1
        rw [hE.2.1] at ha1
        cases ha1
        rw [z_qb0] at ha3
        refine Or.inl ⟨rfl, xb, x + y, ?_, rfl, ?_⟩
        · show vs[a.2.1 + b.2.1]? = _
          rw [h6, Nat.zero_add]
          exact hb1
        · show q_qb (x + y) + 2147483648 = q_qb xb + (a.2.2 + b.2.2 - 2147483648)
          omega
      · have h6 := q_beq.mp h6
        rw [h6] at hb1
        rw [hE.2.1] at hb1
        cases hb1
        rw [z_qb0] at hb3
        refine Or.inl ⟨rfl, xa, x + y, ?_, rfl, ?_⟩
        · show vs[a.2.1 + b.2.1]? = _
          rw [h6, Nat.add_zero]
          exact ha1
        · show q_qb (x + y) + 2147483648 = q_qb xa + (a.2.2 + b.2.2 - 2147483648)
          omega
theorem z_osub_s (hr : z_osub V a b k = some R) (hE : z_E V vs) (ka : a.1 = 0) (kb : b.1 = 0) (ha : z_v sa ad ts vs a (.int x)) (hb : z_v sa ad ts vs b (.int y)) : z_Res sa ad ts V vs k R (.int (x - y)) := by
  obtain ⟨x2, ex, ax, bx⟩ := ha.bnd hE ka
  cases ex
  obtain ⟨y2, ey, ay, by2⟩ := hb.bnd hE kb
  cases ey
  unfold z_osub at hr
  cases h1 : (Nat.ble (z_ih V b) (Nat.add (z_il V a) 2147483648) && Nat.blt (Nat.add (z_ih V a) 2147483648) (Nat.add (z_il V b) 4294967296)) with
  | false =>
    rw [q_iff _ _ h1] at hr
    exact z_an_s hr hE
  | true =>
    rw [q_ift _ _ h1] at hr
    obtain ⟨h2, h3⟩ := q_ands h1
    have h2 : z_ih V b ≤ z_il V a + 2147483648 := q_ble.mp h2
    have h3 : z_ih V a + 2147483648 < z_il V b + 4294967296 := q_blt.mp h3
    have hs := z_qsub (x := x) (y := y) (by omega) (by omega)
    cases h4 : (Nat.ble b.2.2 (Nat.add a.2.2 2147483648) && Nat.beq b.2.1 0) with
    | false =>
      rw [q_iff _ _ h4] at hr
      refine z_fi_s hr hE ?_ ?_
      · show z_il V a + 2147483648 - z_ih V b ≤ _
        omega
      · show _ ≤ z_ih V a + 2147483648 - z_il V b
        omega
    | true =>
      rw [q_ift _ _ h4, q_fr_eq] at hr
      obtain ⟨h5, h6⟩ := q_ands h4
      have h5 : b.2.2 ≤ a.2.2 + 2147483648 := q_ble.mp h5
      have h6 := q_beq.mp h6
      obtain ⟨xa, ya, ha1, ha2, ha3⟩ := ha.int ka
      cases ha2
      obtain ⟨xb, yb, hb1, hb2, hb3⟩ := hb.int kb
      cases hb2
      rw [h6] at hb1
      rw [hE.2.1] at hb1
      cases hb1
      rw [z_qb0] at hb3
      refine ⟨V, _, vs, hr, List.prefix_rfl, hE, rfl, Or.inl ⟨rfl, xa, x - y, ha1, rfl, ?_⟩⟩
      show q_qb (x - y) + 2147483648 = q_qb xa + (a.2.2 + 2147483648 - b.2.2)
      omega
theorem z_po_iff : z_po V a = true ↔ 2147483648 ≤ z_il V a := q_ble
theorem z_ul_eq : z_ul V a = z_il V a - 2147483648 := by
  show Nat.sub (z_il V a) 2147483648 = _
  rw [Nat.sub_eq]
theorem z_uh_eq : z_uh V a = z_ih V a - 2147483648 := by
  show Nat.sub (z_ih V a) 2147483648 = _
  rw [Nat.sub_eq]
theorem z_omul_s (hr : z_omul V a b k = some R) (hE : z_E V vs) (ka : a.1 = 0) (kb : b.1 = 0) (ha : z_v sa ad ts vs a (.int x)) (hb : z_v sa ad ts vs b (.int y)) : z_Res sa ad ts V vs k R (.int (x * y)) := by
  obtain ⟨x2, ex, ax, bx⟩ := ha.bnd hE ka
  cases ex
  obtain ⟨y2, ey, ay, by2⟩ := hb.bnd hE kb
  cases ey
  unfold z_omul at hr
  cases h1 : (z_po V a && (z_po V b && Nat.blt (Nat.mul (z_uh V a) (z_uh V b)) 2147483648)) with
  | false =>
    rw [q_iff _ _ h1] at hr
    exact z_an_s hr hE
  | true =>
    rw [q_ift _ _ h1] at hr
    obtain ⟨h2, h3⟩ := q_ands h1
    obtain ⟨h3, h4⟩ := q_ands h3
    have h2 := z_po_iff.mp h2
    have h3 := z_po_iff.mp h3
    have h4 : z_uh V a * z_uh V b < 2147483648 := q_blt.mp h4
    obtain ⟨n, hn, en, en2⟩ := z_nat (x := x) (by omega)
    obtain ⟨m, hm, em, em2⟩ := z_nat (x := y) (by omega)
    have u1 : n ≤ z_uh V a := by rw [z_uh_eq]; omega
    have u2 : m ≤ z_uh V b := by rw [z_uh_eq]; omega
    have u3 : z_ul V a ≤ n := by rw [z_ul_eq]; omega
    have u4 : z_ul V b ≤ m := by rw [z_ul_eq]; omega
    have p1 : n * m ≤ z_uh V a * z_uh V b := Nat.mul_le_mul u1 u2
    have p2 : z_ul V a * z_ul V b ≤ n * m := Nat.mul_le_mul u3 u4
    have hs := z_qmul en em (by omega)
    refine z_fi_s hr hE ?_ ?_
    · show 2147483648 + z_ul V a * z_ul V b ≤ _
      omega
    · show _ ≤ 2147483648 + z_uh V a * z_uh V b
      omega
theorem z_min_le1 (a b : Nat) : z_min a b ≤ a ∧ z_min a b ≤ b := by
  unfold z_min
  cases h : Nat.ble a b with
  | true => have := q_ble.mp h; exact ⟨Nat.le_refl _, this⟩
  | false => have := q_bnle.mp h; exact ⟨Nat.le_of_lt this, Nat.le_refl _⟩
theorem z_le_min {a b c : Nat} (h1 : c ≤ a) (h2 : c ≤ b) : c ≤ z_min a b := by
  unfold z_min
  cases h : Nat.ble a b with
  | true => exact h1
  | false => exact h2
theorem z_max_le {a b c : Nat} (h1 : a ≤ c) (h2 : b ≤ c) : z_max a b ≤ c := by
  unfold z_max
  cases h : Nat.ble a b with
  | true => exact h2
  | false => exact h1
theorem z_le_max (a b : Nat) : a ≤ z_max a b ∧ b ≤ z_max a b := by
  unfold z_max
  cases h : Nat.ble a b with
  | true => have := q_ble.mp h; exact ⟨this, Nat.le_refl _⟩
  | false => have := q_bnle.mp h; exact ⟨Nat.le_refl _, Nat.le_of_lt this⟩
theorem z_oand_s (hr : z_oand V a b k = some R) (hE : z_E V vs) (ka : a.1 = 0) (kb : b.1 = 0) (ha : z_v sa ad ts vs a (.int x)) (hb : z_v sa ad ts vs b (.int y)) : z_Res sa ad ts V vs k R (.int (x &&& y)) := by
  obtain ⟨x2, ex, ax, bx⟩ := ha.bnd hE ka
  cases ex
  obtain ⟨y2, ey, ay, by2⟩ := hb.bnd hE kb
  cases ey
  unfold z_oand at hr
  cases h1 : z_po V a with
  | true =>
    rw [q_ift _ _ h1] at hr
    have h1 := z_po_iff.mp h1
    have e1 := z_qand (x := x) (y := y) (by omega)
    refine z_fi_s hr hE e1.1 ?_
    cases h2 : z_po V b with
    | true =>
      rw [q_ift _ _ rfl]
      have h2 := z_po_iff.mp h2
      have e2 := z_qand2 (x := x) (y := y) (by omega)
      exact z_le_min (by omega) (by omega)
    | false =>
      rw [q_iff _ _ rfl]
      omega
  | false =>
    rw [q_iff _ _ h1] at hr
    cases h2 : z_po V b with
    | true =>
      rw [q_ift _ _ h2] at hr
      have h2 := z_po_iff.mp h2
      have e2 := z_qand2 (x := x) (y := y) (by omega)
      exact z_fi_s hr hE e2.1 (by omega)
    | false =>
      rw [q_iff _ _ h2] at hr
      exact z_an_s hr hE
theorem z_oor_s (hr : z_oor V a b k = some R) (hE : z_E V vs) (ka : a.1 = 0) (kb : b.1 = 0) (ha : z_v sa ad ts vs a (.int x)) (hb : z_v sa ad ts vs b (.int y)) {w : Int32} (hw : w = x ||| y ∨ w = x ^^^ y) : z_Res sa ad ts V vs k R (.int w) := by
  obtain ⟨x2, ex, ax, bx⟩ := ha.bnd hE ka
  cases ex
  obtain ⟨y2, ey, ay, by2⟩ := hb.bnd hE kb
  cases ey
  unfold z_oor at hr
  cases h1 : (z_po V a && z_po V b) with
  | false =>
    rw [q_iff _ _ h1] at hr
    exact z_an_s hr hE
  | true =>
    rw [q_ift _ _ h1] at hr
    obtain ⟨h2, h3⟩ := q_ands h1
    have h2 := z_po_iff.mp h2
    have h3 := z_po_iff.mp h3
    refine z_fi_s hr hE ?_ (q_qb_hi w)
    rcases hw with rfl | rfl
    · exact z_qor (by omega) (by omega)
    · exact z_qxor (by omega) (by omega)
theorem z_odiv_s (hr : z_odiv V a b k = some R) (hE : z_E V vs) (ka : a.1 = 0) (kb : b.1 = 0) (ha : z_v sa ad ts vs a (.int x)) (hb : z_v sa ad ts vs b (.int y)) : ¬ y = 0 ∧ z_Res sa ad ts V vs k R (.int (x / y)) := by
  obtain ⟨x2, ex, ax, bx⟩ := ha.bnd hE ka
  cases ex
  obtain ⟨y2, ey, ay, by2⟩ := hb.bnd hE kb
  cases ey
  unfold z_odiv at hr
  cases h1 : Nat.blt 2147483648 (z_il V b) with
  | true =>
    rw [q_ift _ _ h1] at hr
    have h1 := q_blt.mp h1
    refine ⟨fun e => by rw [e, z_qb0] at ay; omega, ?_⟩
    cases h2 : z_po V a with
    | false =>
      rw [q_iff _ _ h2] at hr
      exact z_an_s hr hE
    | true =>
      rw [q_ift _ _ h2] at hr
      have h2 := z_po_iff.mp h2
      obtain ⟨n, hn, en, en2⟩ := z_nat (x := x) (by omega)
      obtain ⟨m, hm, em, em2⟩ := z_nat (x := y) (by omega)
      have u1 : n ≤ z_uh V a := by rw [z_uh_eq]; omega
      have u2 : m ≤ z_uh V b := by rw [z_uh_eq]; omega
      have u3 : z_ul V a ≤ n := by rw [z_ul_eq]; omega
      have u4 : z_ul V b ≤ m := by rw [z_ul_eq]; omega
      have u5 : 0 < z_ul V b := by rw [z_ul_eq]; omega
      have hs : q_qb (x / y) = 2147483648 + n / m := by
        rw [en, em, pk_div (by omega) (by omega) (by omega), z_qnI (Nat.lt_of_le_of_lt (Nat.div_le_self n m) hn)]
      have p1 : z_ul V a / z_uh V b ≤ n / m := Nat.le_trans (Nat.div_le_div_right u3) (Nat.div_le_div_left u2 (by omega))
      have p2 : n / m ≤ z_uh V a / z_ul V b := Nat.le_trans (Nat.div_le_div_right u1) (Nat.div_le_div_left u4 u5)
      refine z_fi_s hr hE ?_ ?_
      · show 2147483648 + z_ul V a / z_uh V b ≤ _
        omega
      · show _ ≤ 2147483648 + z_uh V a / z_ul V b
        omega
  | false =>
    rw [q_iff _ _ h1] at hr
    obtain ⟨h2, hr⟩ := q_bifs hr
    have h2 := q_blt.mp h2
    exact ⟨fun e => by rw [e, z_qb0] at by2; omega, z_an_s hr hE⟩
theorem z_orem_s (hr : z_orem V a b k = some R) (hE : z_E V vs) (ka : a.1 = 0) (kb : b.1 = 0) (ha : z_v sa ad ts vs a (.int x)) (hb : z_v sa ad ts vs b (.int y)) : ¬ y = 0 ∧ z_Res sa ad ts V vs k R (.int (x - x / y * y)) := by
  obtain ⟨x2, ex, ax, bx⟩ := ha.bnd hE ka
  cases ex
  obtain ⟨y2, ey, ay, by2⟩ := hb.bnd hE kb
  cases ey
  unfold z_orem at hr
  cases h1 : Nat.blt 2147483648 (z_il V b) with
  | true =>
    rw [q_ift _ _ h1] at hr
    have h1 := q_blt.mp h1
    refine ⟨fun e => by rw [e, z_qb0] at ay; omega, ?_⟩
    have hm := z_qrem (x := x) (y := y) (by omega)
    cases h2 : z_po V a with
    | false =>
      rw [q_iff _ _ h2] at hr
      refine z_fi_s hr hE ?_ ?_
      · show 4294967297 - z_ih V b ≤ _
        omega
      · show _ ≤ z_ih V b - 1
        omega
    | true =>
      rw [q_ift _ _ h2] at hr
      have h2 := z_po_iff.mp h2
      obtain ⟨n, hn, en, en2⟩ := z_nat (x := x) (by omega)
      obtain ⟨m, hm2, em, em2⟩ := z_nat (x := y) (by omega)
      have hs : q_qb (x - x / y * y) = 2147483648 + n % m := by
        rw [en, em, pk_rem (by omega) (by omega) (by omega), z_qnI (Nat.lt_of_le_of_lt (Nat.mod_le n m) hn)]
      have p1 : n % m ≤ n := Nat.mod_le n m
      refine z_fi_s hr hE (by omega) (z_le_min (by omega) ?_)
      show _ ≤ z_ih V b - 1
      omega
  | false =>
    rw [q_iff _ _ h1] at hr
    obtain ⟨h2, hr⟩ := q_bifs hr
    have h2 := q_blt.mp h2
    exact ⟨fun e => by rw [e, z_qb0] at by2; omega, z_an_s hr hE⟩
theorem z_oneg_s (hr : z_oneg V a k = some R) (hE : z_E V vs) (ka : a.1 = 0) (ha : z_v sa ad ts vs a (.int x)) : z_Res sa ad ts V vs k R (.int (-x)) := by
  obtain ⟨x2, ex, ax, bx⟩ := ha.bnd hE ka
  cases ex
  unfold z_oneg at hr
  cases h1 : Nat.ble 1 (z_il V a) with
  | false =>
    rw [q_iff _ _ h1] at hr
    exact z_an_s hr hE
  | true =>
    rw [q_ift _ _ h1] at hr
    have h1 := q_ble.mp h1
    have hs := z_qneg (x := x) (by omega)
    refine z_fi_s hr hE ?_ ?_
    · show 4294967296 - z_ih V a ≤ _
      omega
    · show _ ≤ 4294967296 - z_il V a
      omega
theorem z_oshl_s (hr : z_oshl V a b k = some R) (hE : z_E V vs) (ka : a.1 = 0) (kb : b.1 = 0) (ha : z_v sa ad ts vs a (.int x)) (hb : z_v sa ad ts vs b (.int y)) : z_Res sa ad ts V vs k R (.int (x <<< (y &&& 31))) := by
  obtain ⟨y2, ey, ay, by2⟩ := hb.bnd hE kb
  cases ey
  unfold z_oshl at hr
  cases h1 : (z_ceq a (0, 0, 2147483649) && (z_po V b && Nat.ble (z_ih V b) 2147483678)) with
  | false =>
    rw [q_iff _ _ h1] at hr
    exact z_an_s hr hE
  | true =>
    rw [q_ift _ _ h1] at hr
    obtain ⟨h2, h3⟩ := q_ands h1
    obtain ⟨h3, h4⟩ := q_ands h3
    have h2 := z_ceq_eq h2
    have h3 := z_po_iff.mp h3
    have h4 := q_ble.mp h4
    subst h2
    obtain ⟨x3, ex, ex2⟩ := ha.con hE
    cases ex
    obtain ⟨n, hn, en, en2⟩ := z_nat (x := x) (by omega)
    have en3 : n = 1 := by omega
    subst en3
    obtain ⟨m, hm, em, em2⟩ := z_nat (x := y) (by omega)
    have hm31 : m < 31 := by omega
    have hp : 2 ^ m < 2147483648 := Nat.lt_of_lt_of_le (Nat.pow_lt_pow_right (by decide) hm31) (by decide)
    have hs : q_qb (x <<< (y &&& 31)) = 2147483648 + 2 ^ m := by
      rw [en, em, z_shl1 m hm31, z_qnI hp]
    have p1 : 2 ^ z_ul V b ≤ 2 ^ m := Nat.pow_le_pow_right (by decide) (by rw [z_ul_eq]; omega)
    have p2 : 2 ^ m ≤ 2 ^ z_uh V b := Nat.pow_le_pow_right (by decide) (by rw [z_uh_eq]; omega)
    refine z_fi_s hr hE ?_ ?_
    · rw [hs, z_pw]
      exact Nat.add_le_add_left p1 _
    · rw [hs, z_pw]
      exact Nat.add_le_add_left p2 _
theorem z_oshr_s (hr : z_oshr V a k = some R) (hE : z_E V vs) (ka : a.1 = 0) (ha : z_v sa ad ts vs a (.int x)) {w : Int32} (hw : 2147483648 ≤ q_qb x → 2147483648 ≤ q_qb w ∧ q_qb w ≤ q_qb x) : z_Res sa ad ts V vs k R (.int w) := by
  obtain ⟨x2, ex, ax, bx⟩ := ha.bnd hE ka
  cases ex
  unfold z_oshr at hr
  cases h1 : z_po V a with
  | false =>
    rw [q_iff _ _ h1] at hr
    exact z_an_s hr hE
  | true =>
    rw [q_ift _ _ h1] at hr
    have h1 := z_po_iff.mp h1
    obtain ⟨e1, e2⟩ := hw (by omega)
    exact z_fi_s hr hE e1 (by omega)
end ZO
theorem z_qshr {x y : Int32} (h : 2147483648 ≤ q_qb x) : 2147483648 ≤ q_qb (x >>> (y &&& 31)) ∧ q_qb (x >>> (y &&& 31)) ≤ q_qb x := by
  obtain ⟨n, hn, rfl, e⟩ := z_nat h
  obtain ⟨b, hb, eb⟩ := z_m31 y
  rw [eb, q_shr n b (by omega) hb, q_ift _ _ (q_ble.mpr (by omega))]
  have h1 : n >>> b ≤ n := Nat.shiftRight_le n b
  have h2 : Nat.shiftRight n b = n >>> b := rfl
  rw [h2]
  generalize n >>> b = w at h1 ⊢
  rw [z_qnI (by omega), e]
  omega
theorem z_qushr {x y : Int32} (h : 2147483648 ≤ q_qb x) : 2147483648 ≤ q_qb ((x.toUInt32 >>> (y.toUInt32 &&& Int32.toUInt32 31)).toInt32) ∧ q_qb ((x.toUInt32 >>> (y.toUInt32 &&& Int32.toUInt32 31)).toInt32) ≤ q_qb x := by
  obtain ⟨n, hn, rfl, e⟩ := z_nat h
  obtain ⟨b, hb, eb⟩ := z_m31 y
  have e31 : y.toUInt32 &&& Int32.toUInt32 31 = (nI b).toUInt32 &&& Int32.toUInt32 31 := by
    have e1 : (nI b).toUInt32 &&& Int32.toUInt32 31 = (y &&& 31 &&& 31).toUInt32 := by rw [← eb]; rfl
    have e2 : (y &&& 31 &&& 31 : Int32) = y &&& 31 := by rw [Int32.and_assoc]; rfl
    rw [e1, e2]
    rfl
  rw [e31, q_ushr n b (by omega) hb]
  have h1 : n >>> b ≤ n := Nat.shiftRight_le n b
  generalize n >>> b = w at h1 ⊢
  rw [z_qnI (by omega), e]
  omega
/-! bounds drawn closer by a comparison -/
section ZR
variable {sa : Nat → Nat} {ad ts : List Nat} {V W : z_V} {vs : List Value} {a b c : z_C} {x y : Int32} {lo hi : Nat}
theorem z_rf_s (hE : z_E V vs) (kc : c.1 = 0) (hc : z_v sa ad ts vs c (.int x)) (h1 : lo ≤ q_qb x) (h2 : q_qb x ≤ hi) : ∃ W, z_rf V c lo hi = some W ∧ z_E W vs ∧ W.1 = V.1 ∧ W.2.2.2 = V.2.2.2 := by
  obtain ⟨xc, yc, hc1, hc2, hc3⟩ := hc.int kc
  cases hc2
  unfold z_rf
  cases h3 : Nat.beq c.2.1 0 with
  | true =>
    rw [q_ift _ _ rfl]
    have h3 := q_beq.mp h3
    rw [h3, hE.2.1] at hc1
    cases hc1
    rw [z_qb0] at hc3
    have e : c.2.2 = q_qb x := by omega
    rw [q_ift _ _ (by rw [q_ble.mpr (show lo ≤ c.2.2 by omega), q_ble.mpr (show c.2.2 ≤ hi by omega)]; rfl)]
    exact ⟨V, rfl, hE, rfl, rfl⟩
  | false =>
    rw [q_iff _ _ rfl, q_fr_eq, q_fr_eq]
    obtain ⟨b1, b2⟩ : q_get V.2.1 c.2.1 ≤ q_qb xc ∧ q_qb xc ≤ q_get V.2.2.1 c.2.1 := hE.2.2 _ _ hc1
    have g1 := q_get_lt V.2.1 c.2.1
    have g2 := q_get_lt V.2.2.1 c.2.1
    have hq := q_qb_hi xc
    have m1 := z_min_le1 (Nat.sub (Nat.add lo 2147483648) c.2.2) 17179869183
    have e1 : Nat.sub (Nat.add lo 2147483648) c.2.2 = lo + 2147483648 - c.2.2 := by rw [Nat.sub_eq, Nat.add_eq]
    have e2 : Nat.sub (Nat.add hi 2147483648) c.2.2 = hi + 2147483648 - c.2.2 := by rw [Nat.sub_eq, Nat.add_eq]
    rw [e1] at m1
    have m3 : z_max (q_get V.2.1 c.2.1) (z_min (Nat.sub (Nat.add lo 2147483648) c.2.2) 17179869183) ≤ q_qb xc := z_max_le b1 (by rw [e1]; omega)
    have m4 : q_qb xc ≤ z_min (q_get V.2.2.1 c.2.1) (Nat.sub (Nat.add hi 2147483648) c.2.2) := z_le_min b2 (by rw [e2]; omega)
    have m5 := (z_min_le1 (q_get V.2.2.1 c.2.1) (Nat.sub (Nat.add hi 2147483648) c.2.2)).1
    rw [q_ift _ _ (q_ble.mpr (Nat.le_trans m3 m4)), q_fr_eq, q_fr_eq]
    refine ⟨_, rfl, hE.near (by omega) (by omega) (fun v hv => ?_), rfl, rfl⟩
    rw [hc1] at hv
    cases hv
    exact ⟨m3, m4⟩
theorem z_rf2_s (hE : z_E V vs) (ka : a.1 = 0) (kb : b.1 = 0) (ha : z_v sa ad ts vs a (.int x)) (hb : z_v sa ad ts vs b (.int y)) {l1 h1 l2 h2 : Nat} (e1 : l1 ≤ q_qb x) (e2 : q_qb x ≤ h1) (e3 : l2 ≤ q_qb y) (e4 : q_qb y ≤ h2) : ∃ W, z_rf2 V a l1 h1 b l2 h2 = some W ∧ z_E W vs ∧ W.1 = V.1 ∧ W.2.2.2 = V.2.2.2 := by
  obtain ⟨W1, w1, w2, w3, w4⟩ := z_rf_s hE ka ha e1 e2
  obtain ⟨W2, u1, u2, u3, u4⟩ := z_rf_s w2 kb hb e3 e4
  refine ⟨W2, ?_, u2, by rw [u3, w3], by rw [u4, w4]⟩
  unfold z_rf2
  rw [w1]
  exact u1
/-- two codes of one symbol -/
theorem z_off (ha : z_v sa ad ts vs a (.int x)) (hb : z_v sa ad ts vs b (.int y)) (ka : a.1 = 0) (kb : b.1 = 0) (he : a.2.1 = b.2.1) : q_qb x + b.2.2 = q_qb y + a.2.2 := by
  obtain ⟨xa, ya, ha1, ha2, ha3⟩ := ha.int ka
  cases ha2
  obtain ⟨xb, yb, hb1, hb2, hb3⟩ := hb.int kb
  cases hb2
  rw [he, hb1] at ha1
  cases ha1
  omega
theorem z_lt_s (hE : z_E V vs) (ka : a.1 = 0) (kb : b.1 = 0) (ha : z_v sa ad ts vs a (.int x)) (hb : z_v sa ad ts vs b (.int y)) (h : q_qb x < q_qb y) : ∃ W, z_lt V a b = some W ∧ z_E W vs ∧ W.1 = V.1 ∧ W.2.2.2 = V.2.2.2 := by
  unfold z_lt
  cases h1 : Nat.beq a.2.1 b.2.1 with
  | true =>
    rw [q_ift _ _ rfl]
    have := z_off ha hb ka kb (q_beq.mp h1)
    rw [q_ift _ _ (q_blt.mpr (by omega))]
    exact ⟨V, rfl, hE, rfl, rfl⟩
  | false =>
    rw [q_iff _ _ rfl]
    obtain ⟨x2, ex, ax, bx⟩ := ha.bnd hE ka
    cases ex
    obtain ⟨y2, ey, ay, by2⟩ := hb.bnd hE kb
    cases ey
    refine z_rf2_s hE ka kb ha hb (Nat.zero_le _) ?_ ?_ (q_qb_hi y)
    · show _ ≤ z_ih V b - 1
      omega
    · show z_il V a + 1 ≤ _
      omega
theorem z_ge_s (hE : z_E V vs) (ka : a.1 = 0) (kb : b.1 = 0) (ha : z_v sa ad ts vs a (.int x)) (hb : z_v sa ad ts vs b (.int y)) (h : q_qb y ≤ q_qb x) : ∃ W, z_ge V a b = some W ∧ z_E W vs ∧ W.1 = V.1 ∧ W.2.2.2 = V.2.2.2 := by
  unfold z_ge
  cases h1 : Nat.beq a.2.1 b.2.1 with
  | true =>
    rw [q_ift _ _ rfl]
    have := z_off ha hb ka kb (q_beq.mp h1)
    rw [q_ift _ _ (q_ble.mpr (by omega))]
    exact ⟨V, rfl, hE, rfl, rfl⟩
  | false =>
    rw [q_iff _ _ rfl]
    obtain ⟨x2, ex, ax, bx⟩ := ha.bnd hE ka
    cases ex
    obtain ⟨y2, ey, ay, by2⟩ := hb.bnd hE kb
    cases ey
    exact z_rf2_s hE ka kb ha hb (by omega) (q_qb_hi x) (Nat.zero_le _) (by omega)
theorem z_eq_s (hE : z_E V vs) (ka : a.1 = 0) (kb : b.1 = 0) (ha : z_v sa ad ts vs a (.int x)) (hb : z_v sa ad ts vs b (.int y)) (h : q_qb x = q_qb y) : ∃ W, z_eq V a b = some W ∧ z_E W vs ∧ W.1 = V.1 ∧ W.2.2.2 = V.2.2.2 := by
  unfold z_eq
  cases h1 : Nat.beq a.2.1 b.2.1 with
  | true =>
    rw [q_ift _ _ rfl]
    have := z_off ha hb ka kb (q_beq.mp h1)
    rw [q_ift _ _ (q_beq.mpr (by omega))]
    exact ⟨V, rfl, hE, rfl, rfl⟩
  | false =>
    rw [q_iff _ _ rfl]
    obtain ⟨x2, ex, ax, bx⟩ := ha.bnd hE ka
    cases ex
    obtain ⟨y2, ey, ay, by2⟩ := hb.bnd hE kb
    cases ey
    exact z_rf2_s hE ka kb ha hb (by omega) (by omega) (by omega) (by omega)
theorem z_ne1_s (hE : z_E V vs) (ka : a.1 = 0) (ha : z_v sa ad ts vs a (.int x)) {n : Nat} (h : ¬ q_qb x = n) : ∃ W, z_ne1 V a n = some W ∧ z_E W vs ∧ W.1 = V.1 ∧ W.2.2.2 = V.2.2.2 := by
  obtain ⟨x2, ex, ax, bx⟩ := ha.bnd hE ka
  cases ex
  unfold z_ne1
  cases h1 : Nat.beq (z_il V a) n with
  | true =>
    rw [q_ift _ _ rfl]
    have h1 := q_beq.mp h1
    cases h2 : Nat.beq (z_ih V a) n with
    | true =>
      have h2 := q_beq.mp h2
      omega
    | false =>
      rw [q_iff _ _ rfl]
      exact z_rf_s hE ka ha (show n + 1 ≤ _ by omega) (q_qb_hi x)
  | false =>
    rw [q_iff _ _ rfl]
    cases h2 : Nat.beq (z_ih V a) n with
    | true =>
      rw [q_ift _ _ rfl]
      have h2 := q_beq.mp h2
      exact z_rf_s hE ka ha (Nat.zero_le _) (show _ ≤ n - 1 by omega)
    | false =>
      rw [q_iff _ _ rfl]
      exact ⟨V, rfl, hE, rfl, rfl⟩
theorem z_ne_s (hE : z_E V vs) (ka : a.1 = 0) (kb : b.1 = 0) (ha : z_v sa ad ts vs a (.int x)) (hb : z_v sa ad ts vs b (.int y)) (h : ¬ q_qb x = q_qb y) : ∃ W, z_ne V a b = some W ∧ z_E W vs ∧ W.1 = V.1 ∧ W.2.2.2 = V.2.2.2 := by
  unfold z_ne
  cases h1 : Nat.beq a.2.1 b.2.1 with
  | true =>
    rw [q_ift _ _ rfl]
    have := z_off ha hb ka kb (q_beq.mp h1)
    rw [q_iff _ _ (q_bneq.mpr (by omega))]
    exact ⟨V, rfl, hE, rfl, rfl⟩
  | false =>
    rw [q_iff _ _ rfl]
    cases h2 : Nat.beq b.2.1 0 with
    | true =>
      rw [q_ift _ _ rfl]
      have h2 := q_beq.mp h2
      obtain ⟨b1, b2, b3⟩ := b
      have kb : b1 = 0 := kb
      have h2 : b2 = 0 := h2
      subst kb; subst h2
      obtain ⟨y2, ey, ey2⟩ := hb.con hE
      cases ey
      exact z_ne1_s hE ka ha (show ¬ q_qb x = b3 by omega)
    | false =>
      rw [q_iff _ _ rfl]
      cases h3 : Nat.beq a.2.1 0 with
      | true =>
        rw [q_ift _ _ rfl]
        have h3 := q_beq.mp h3
        obtain ⟨a1, a2, a3⟩ := a
        have ka : a1 = 0 := ka
        have h3 : a2 = 0 := h3
        subst ka; subst h3
        obtain ⟨x2, ex, ex2⟩ := ha.con hE
        cases ex
        exact z_ne1_s hE kb hb (show ¬ q_qb y = a3 by omega)
      | false =>
        rw [q_iff _ _ rfl]
        exact ⟨V, rfl, hE, rfl, rfl⟩
/-- the comparison of two ints -/
def z_cmp (c : ClassFile.Cond) (x y : Int32) : Prop := match c with
  | .lt => x < y
  | .ge => y ≤ x
  | .gt => y < x
  | .le => x ≤ y
  | .eq => x = y
  | .ne => ¬ x = y
theorem z_cs_s {c : ClassFile.Cond} (hE : z_E V vs) (ka : a.1 = 0) (kb : b.1 = 0) (ha : z_v sa ad ts vs a (.int x)) (hb : z_v sa ad ts vs b (.int y)) (h : z_cmp c x y) : ∃ W ∈ z_cs V c a b, z_E W vs ∧ W.1 = V.1 ∧ W.2.2.2 = V.2.2.2 := by
  have one : ∀ {o : Option z_V}, (∃ W, o = some W ∧ z_E W vs ∧ W.1 = V.1 ∧ W.2.2.2 = V.2.2.2) → ∃ W ∈ z_opl o, z_E W vs ∧ W.1 = V.1 ∧ W.2.2.2 = V.2.2.2 := by
    rintro o ⟨W, rfl, h⟩
    exact ⟨W, List.mem_singleton.mpr rfl, h⟩
  cases c with
  | lt => exact one (z_lt_s hE ka kb ha hb ((q_lt_iff x y).mp h))
  | ge => exact one (z_ge_s hE ka kb ha hb ((q_le_iff y x).mp h))
  | gt => exact one (z_lt_s hE kb ka hb ha ((q_lt_iff y x).mp h))
  | le => exact one (z_ge_s hE kb ka hb ha ((q_le_iff x y).mp h))
  | eq => exact one (z_eq_s hE ka kb ha hb ((q_eq_iff x y).mp h))
  | ne =>
    have h : ¬ q_qb x = q_qb y := fun e => h ((q_eq_iff x y).mpr e)
    show ∃ W ∈ (bif z_ceq b (0, 0, 2147483648) && (Nat.blt (z_il V a) 2147483648 && Nat.blt 2147483648 (z_ih V a)) then z_opl (z_lt V a b) ++ z_opl (z_lt V b a) else z_opl (z_ne V a b)), _
    cases h1 : (z_ceq b (0, 0, 2147483648) && (Nat.blt (z_il V a) 2147483648 && Nat.blt 2147483648 (z_ih V a))) with
    | true =>
      rw [q_ift _ _ rfl]
      rcases Nat.lt_or_ge (q_qb x) (q_qb y) with h2 | h2
      · obtain ⟨W, w1, w2⟩ := one (z_lt_s hE ka kb ha hb h2)
        exact ⟨W, List.mem_append_left _ w1, w2⟩
      · obtain ⟨W, w1, w2⟩ := one (z_lt_s hE kb ka hb ha (show q_qb y < q_qb x by omega))
        exact ⟨W, List.mem_append_right _ w1, w2⟩
    | false =>
      rw [q_iff _ _ rfl]
      exact one (z_ne_s hE ka kb ha hb h)
end ZR

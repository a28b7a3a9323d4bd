/-! ===== ints by their bits, biased ===== -/
def q_qb (x : Int32) : Nat := (x.toInt + 2147483648).toNat
theorem q_bv (n : Nat) : (nI n).toBitVec = BitVec.ofNat 32 n := rfl
theorem q_nw_ (n : Nat) : nI (n % 4294967296) = nI n := by
  apply Int32.toBitVec_inj.mp
  rw [q_bv, q_bv]
  apply BitVec.eq_of_toNat_eq
  simp
theorem q_nI_w (n : Nat) : nI (q_w n) = nI n := q_nw_ n
theorem q_toInt {c : Nat} (h : c ≤ 4294967295) : (nI c).toInt = if c < 2147483648 then (c : Int) else (c : Int) - 4294967296 := by
  show (nI c).toBitVec.toInt = _
  rw [q_bv, BitVec.toInt_eq_toNat_cond, BitVec.toNat_ofNat, Nat.mod_eq_of_lt (by omega)]
  split <;> split <;> omega
theorem q_qb_nI {c : Nat} (h : c ≤ 4294967295) : q_qb (nI c) = q_bi c := by
  unfold q_qb
  rw [q_toInt h]
  show _ = (c + 2147483648) % 4294967296
  split <;> omega
theorem q_rng (x : Int32) : -2147483648 ≤ x.toInt ∧ x.toInt < 2147483648 := by
  have h1 := Int32.le_toInt x
  have h2 := Int32.toInt_lt x
  omega
theorem q_qb_hi (x : Int32) : q_qb x ≤ 4294967295 := by
  unfold q_qb
  have := q_rng x
  omega
theorem q_lt_iff (x y : Int32) : x < y ↔ q_qb x < q_qb y := by
  rw [Int32.lt_iff_toInt_lt]
  unfold q_qb
  have := q_rng x
  have := q_rng y
  omega
theorem q_le_iff (x y : Int32) : x ≤ y ↔ q_qb x ≤ q_qb y := by
  rw [Int32.le_iff_toInt_le]
  unfold q_qb
  have := q_rng x
  have := q_rng y
  omega
theorem q_eq_iff (x y : Int32) : x = y ↔ q_qb x = q_qb y := by
  rw [← Int32.toInt_inj]
  unfold q_qb
  have := q_rng x
  have := q_rng y
  omega
theorem q_sub (a b : Nat) (hb : b ≤ 4294967296) : nI a - nI b = nI (a + 4294967296 - b) := by
  have h : nI (a + 4294967296 - b) + nI b = nI a := by
    rw [nI_add, ← q_nw_, Nat.sub_add_cancel (by omega), Nat.add_mod_right, q_nw_]
  rw [← h]
  apply Int32.toBitVec_inj.mp
  rw [Int32.toBitVec_sub, Int32.toBitVec_add, BitVec.add_sub_cancel]
theorem q_neg (a : Nat) (ha : a ≤ 4294967295) : - nI a = nI (4294967296 - a) := by
  have h := q_sub 0 a (by omega)
  rw [nI_0] at h
  rw [← Int32.zero_sub, h]
  first | done | (congr 1; omega)
theorem q_and (a b : Nat) : nI a &&& nI b = nI (a &&& b) := by
  apply Int32.toBitVec_inj.mp
  rw [Int32.toBitVec_and, q_bv, q_bv, q_bv]
  apply BitVec.eq_of_toNat_eq
  simp [BitVec.toNat_and, BitVec.toNat_ofNat, ← Nat.and_mod_two_pow]
theorem q_or (a b : Nat) : nI a ||| nI b = nI (a ||| b) := by
  apply Int32.toBitVec_inj.mp
  rw [Int32.toBitVec_or, q_bv, q_bv, q_bv]
  apply BitVec.eq_of_toNat_eq
  simp [BitVec.toNat_or, BitVec.toNat_ofNat, ← Nat.or_mod_two_pow]
theorem q_xor (a b : Nat) : nI a ^^^ nI b = nI (a ^^^ b) := by
  apply Int32.toBitVec_inj.mp
  rw [Int32.toBitVec_xor, q_bv, q_bv, q_bv]
  apply BitVec.eq_of_toNat_eq
  simp [BitVec.toNat_xor, BitVec.toNat_ofNat, ← Nat.xor_mod_two_pow]
theorem q_bits {x : Int32} {n : Nat} (h : x.toBitVec.toNat = n % 4294967296) : x = nI n := by
  apply Int32.toBitVec_inj.mp
  rw [q_bv]
  apply BitVec.eq_of_toNat_eq
  rw [h, BitVec.toNat_ofNat]
theorem q_nIn {n : Nat} : (nI n).toBitVec.toNat = n % 4294967296 := by rw [q_bv, BitVec.toNat_ofNat]
theorem q_smod : ∀ b : Nat, b < 32 → ((nI b).toBitVec.smod 32).toNat = b := by decide +kernel
theorem q_umod : ∀ b : Nat, b < 32 → (((nI b).toUInt32 &&& Int32.toUInt32 31).toBitVec % 32).toNat = b := by decide +kernel
theorem q_shl (a b : Nat) (hb : b < 32) : nI a <<< nI b = nI (a <<< b) := by
  apply q_bits
  rw [pk_shl _ _ b (q_smod b hb), q_nIn, Nat.shiftLeft_eq, Nat.mod_mul_mod]
theorem q_ushr (a b : Nat) (ha : a ≤ 4294967295) (hb : b < 32) : ((nI a).toUInt32 >>> ((nI b).toUInt32 &&& Int32.toUInt32 31)).toInt32 = nI (a >>> b) := by
  apply q_bits
  rw [pk_ushr _ _ b (q_umod b hb), q_nIn, Nat.mod_eq_of_lt (by omega), Nat.shiftRight_eq_div_pow, Nat.mod_eq_of_lt]
  exact Nat.lt_of_le_of_lt (Nat.div_le_self _ _) (by omega)
theorem q_shr_neg (a b p k : Nat) (hpk : p * k = 4294967296) (hp : 0 < p) (ha : a ≤ 4294967295) (h : 2147483648 ≤ a) : ((a : Int) - 4294967296) / (p : Int) = (a / p : Nat) - (k : Int) ∧ a / p < k ∧ k ≤ 2 * (a / p) + 1 ∧ 1 ≤ k ∧ k ≤ 4294967296 := by
  have hr : a % p < p := Nat.mod_lt _ hp
  have hd : p * (a / p) + a % p = a := Nat.div_add_mod a p
  generalize a / p = d at hd ⊢
  generalize a % p = r at hd hr
  have hdk : d < k := by
    rcases Nat.lt_or_ge d k with g | g
    · exact g
    · have := Nat.mul_le_mul_left p g
      omega
  have hk2 : k ≤ 2 * d + 1 := by
    rcases Nat.lt_or_ge (2 * d + 1) k with g | g
    · have h1 := Nat.mul_le_mul_left p (show 2 * d + 2 ≤ k from g)
      have h2 : p * (2 * d + 2) = 2 * (p * d) + 2 * p := by rw [Nat.mul_add, Nat.mul_left_comm, Nat.mul_comm p 2]
      omega
    · exact g
  have hk3 : k ≤ 4294967296 := by
    have := Nat.le_mul_of_pos_left k hp
    omega
  refine ⟨?_, hdk, hk2, by omega, hk3⟩
  have e1 : (a : Int) - 4294967296 = (r : Int) + (p : Int) * ((d : Int) - (k : Int)) := by
    have z1 : (p : Int) * (k : Int) = 4294967296 := by
      have h9 : ((p * k : Nat) : Int) = 4294967296 := by omega
      rw [Int.natCast_mul] at h9
      exact h9
    have z2 : (p : Int) * (d : Int) + (r : Int) = (a : Int) := by
      have h9 : ((p * d + r : Nat) : Int) = (a : Int) := by rw [hd]
      rw [Int.natCast_add, Int.natCast_mul] at h9
      exact h9
    rw [Int.mul_sub, z1, ← z2]
    omega
  rw [e1, Int.add_mul_ediv_left _ _ (by omega), Int.ediv_eq_zero_of_lt (by omega) (by omega)]
  omega
theorem q_shr (a b : Nat) (ha : a ≤ 4294967295) (hb : b < 32) : nI a >>> nI b = nI (bif Nat.ble a 2147483647 then Nat.shiftRight a b else Nat.sub (Nat.add (Nat.shiftRight a b) 4294967296) (Nat.pow 2 (Nat.sub 32 b))) := by
  by_cases h : a ≤ 2147483647
  · have e : Nat.ble a 2147483647 = true := Nat.ble_eq_true_of_le h
    rw [e]
    show nI a >>> nI b = nI (a >>> b)
    rw [pk_shrN (by omega) _ b (q_smod b hb), Nat.shiftRight_eq_div_pow]
  · have e : Nat.ble a 2147483647 = false := by
      cases hh : Nat.ble a 2147483647 with
      | false => rfl
      | true => exact absurd (Nat.le_of_ble_eq_true hh) h
    rw [e]
    show nI a >>> nI b = nI (a >>> b + 4294967296 - 2 ^ (32 - b))
    obtain ⟨h1, h2, h3, h4, h5⟩ := q_shr_neg a b (2 ^ b) (2 ^ (32 - b)) (by rw [← Nat.pow_add, show b + (32 - b) = 32 by omega]) (Nat.pow_pos (by decide)) ha (by omega)
    apply Int32.toInt_inj.mp
    rw [pk_shr _ _ b (q_smod b hb), q_toInt ha, if_neg (by omega), Int.shiftRight_eq_div_pow, h1, Nat.shiftRight_eq_div_pow]
    generalize a / 2 ^ b = d at h2 h3 ⊢
    generalize 2 ^ (32 - b) = k at h2 h3 h4 h5 ⊢
    rw [q_toInt (by omega), if_neg (by omega)]
    omega

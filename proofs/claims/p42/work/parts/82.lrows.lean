/-! ===== the law: its arguments, its calls ===== -/
def q_dk (pc : Nat) (ins : Instr) (ln : Nat) : Bool := decide (decode code pc = .ok (ins, ln))
def q_ad5 (pc k : Nat) : Bool := q_dk pc (.aload_n 0) 1 && (q_dk (pc + 1) (.iload_n 3) 1 && (q_dk (pc + 1 + 1) (.iconst (k : Int)) 1 && (q_dk (pc + 1 + 1 + 1) .iadd 1 && q_dk (pc + 1 + 1 + 1 + 1) .iaload 1)))
theorem q_ofInt : ∀ k : Nat, k < 6 → Int32.ofInt (k : Int) = nI k := by decide +kernel
def h_xa (ys : Nat → Int32) : Nat → Nat → List Value
  | 0, _ => []
  | n + 1, k => .int (ys k) :: h_xa ys n (k + 1)
theorem h_xa_len (ys : Nat → Int32) : ∀ (n j : Nat), (h_xa ys n j).length = n
  | 0, _ => rfl
  | n + 1, j => by show (h_xa ys n (j + 1)).length + 1 = n + 1; rw [h_xa_len ys n (j + 1)]
abbrev h_lv (b ax am t : Nat) : List (Nat × Value) := [(3, .int (nI (6 * t))), (2, .ref am), (1, .ref ax), (0, .ref b)]
/-- what holds in the law between two calls -/
def h_St (D : va_G) (s : State) (jx ax jm am T : Nat) (H : Heap) (locs : List Loc) : Prop := ∃ (ws : va_W) (tys : List (ClassId × FieldType)) (ts : List Nat), z_W z_tt ws tys ts ∧ va_P D q_cls ws H ∧ va_K D q_cls tys s ∧ va_D (q_A s.heap.size) ws ∧ va_S (q_A s.heap.size) s.heap H locs ∧ h_I jx ax jm am ws ts ∧ h_T2 jx jm T T ws
section QL
variable {p : Program} {l : Launch} {e : Env} {s : State} {m : MethodId} {below : List Frame} {meth : Method} {c : Code} {b L : Nat} {xs : Nat → Int32} {H : Heap} {locs : List Loc} {cells slots : Nat} {Q : State → Prop} {ls : Array Slot} {D : va_G} {sa : Nat → Nat} {jx ax jm am T t : Nat}
theorem h_larg (C0 : lw_At p s m meth c b L xs) (hL : 6 * t + 6 ≤ L) (hL2 : L ≤ 3072) (hS : va_S (q_A s.heap.size) s.heap H locs) (hl : lv_has ls 4 (h_lv b ax am t)) {pc k : Nat} {rest : List Value} (hk : k < 6) (hd : q_ad5 pc k = true) (kk : W p l e room_1 s m #[Value.ref b] below meth c H locs cells slots Q (F0 m (pc + 5) ls (.int (xs (6 * t + k)) :: rest))) : W p l e room_1 s m #[Value.ref b] below meth c H locs cells slots Q (F0 m pc ls rest) := by
  obtain ⟨d1, hd⟩ := q_ands hd
  obtain ⟨d2, hd⟩ := q_ands hd
  obtain ⟨d3, hd⟩ := q_ands hd
  obtain ⟨d4, d5⟩ := q_ands hd
  obtain ⟨hx, hb, hr, hml, hown, hts, hX, hbl, hlocks, hgv⟩ := C0
  have hbA : ¬ q_A s.heap.size b := Nat.not_le.mpr hbl
  refine lv_aload_n hx hb (of_decide_eq_true d1) rfl (lv_at hl 3 rfl) ?_
  refine lv_iload_n hx hb (of_decide_eq_true d2) rfl (lv_at hl 0 rfl) ?_
  refine lv_iconst (v := nI k) hx hb (of_decide_eq_true d3) (q_ofInt k hk) ?_
  refine lv_iadd hx hb (of_decide_eq_true d4) ?_
  rw [nI_add]
  refine va_sld hx hb hX hbl hbA hS (vp_in_nI (show 6 * t + k < L by omega) (by omega)) (of_decide_eq_true d5) ?_
  rw [nI_clamp (show 6 * t + k < 2 ^ 31 by omega)]
  exact kk
theorem h_largs (C0 : lw_At p s m meth c b L xs) (hL : 6 * t + 6 ≤ L) (hL2 : L ≤ 3072) (hS : va_S (q_A s.heap.size) s.heap H locs) (hl : lv_has ls 4 (h_lv b ax am t)) : ∀ (n k pc : Nat) (rest : List Value), k + n ≤ 6 → (∀ j, j < n → q_ad5 (pc + 5 * j) (k + j) = true) → W p l e room_1 s m #[Value.ref b] below meth c H locs cells slots Q (F0 m (pc + 5 * n) ls ((h_xa (fun j => xs (6 * t + j)) n k).reverse ++ rest)) → W p l e room_1 s m #[Value.ref b] below meth c H locs cells slots Q (F0 m pc ls rest)
  | 0, _, _, _, _, _, kk => kk
  | n + 1, k, pc, rest, hk, hd, kk => by
    refine h_larg C0 hL hL2 hS hl (show k < 6 by omega) (by have := hd 0 (by omega); simpa using this) ?_
    refine h_largs C0 hL hL2 hS hl n (k + 1) (pc + 5) (.int (xs (6 * t + k)) :: rest) (by omega) (fun j hj => ?_) ?_
    · have := hd (j + 1) (by omega)
      rw [show pc + 5 * (j + 1) = pc + 5 + 5 * j by omega, show k + (j + 1) = k + 1 + j by omega] at this
      exact this
    · rw [show pc + 5 + 5 * n = pc + 5 * (n + 1) by omega]
      rw [show (h_xa (fun j => xs (6 * t + j)) n (k + 1)).reverse ++ (.int (xs (6 * t + k)) :: rest) = (h_xa (fun j => xs (6 * t + j)) (n + 1) k).reverse ++ rest by simp [h_xa]]
      exact kk
theorem h_lcall (C0 : lw_At p s m meth c b L xs) (hX2 : q_X s) (hTx : z_Tx s.heap.size sa s) {i idx z d mk a j : Nat} {As rest fs : List Value} {kc : List z_C} {post : Option Value → va_W → List Nat → Prop} {ws : va_W} {tys : List (ClassId × FieldType)} {ts : List Nat} (hd70 : d ≤ 70) (hi : i < q_nM) (hM : z_Met l s.heap.size D sa z_tt kc (d, mk) i (.ref a :: As) ws ts post) (hlk : Cond.methodLink R_law idx (q_y i) ∈ lw_tbl) (hnp : q_np i = As.length) (hkn : Nat.beq (q_kn i) 1 = true) (hz : z < 10) (hon : q_on i = z) (he : ws[j]? = some (a, .inr (z, fs)))
    (hw : z_W z_tt ws tys ts) (hP : va_P D q_cls ws H) (hK : va_K D q_cls tys s) (hD : va_D (q_A s.heap.size) ws) (hS : va_S (q_A s.heap.size) s.heap H locs) {pc : Nat} (hls : ls.size = 4) (hrest : (rest.map fun v => v.category).sum ≤ 8) (hd : decode code pc = .ok (.invokevirtual idx, 3)) (hc1 : cells + 9 * mk ≤ 600000) (hc2 : slots + 446 * mk ≤ 7302250)
    (kk : ∀ (v : Option Value) (ws1 : va_W) (tys1 : List (ClassId × FieldType)) (ts1 : List Nat) (H1 : Heap) (locs1 : List Loc), z_W z_tt ws1 tys1 ts1 → va_P D q_cls ws1 H1 → va_K D q_cls tys1 s → va_D (q_A s.heap.size) ws1 → z_Fr kc ws ts ws1 ts1 → post v ws1 ts1 → va_S (q_A s.heap.size) s.heap H1 locs1 → W p l e room_1 s m #[Value.ref b] below meth c H1 locs1 (cells + 9 * mk) (slots + 446 * mk) Q (F0 m (pc + 3) ls (v.toList ++ rest))) : W p l e room_1 s m #[Value.ref b] below meth c H locs cells slots Q (F0 m pc ls (As.reverse ++ .ref a :: rest)) := by
  obtain ⟨hx, hb, hr, hml, hown, hts, hX, hbl, hlocks, hgv⟩ := C0
  obtain ⟨k1, k2, k3, k4, k5, k6, -⟩ := q_okm i hi
  have hsub : ∀ w ∈ q_w0, w.before #[Value.ref b] s = true := fun w hw => hts w (List.mem_filter.mp hw).1
  have hG : GoodIn lw_tbl (q_wy i) := fun w hw => by
    have := q_goodIn k1 w hw
    exact ⟨(List.mem_filter.mp this.1).1, this.2⟩
  have kn0 : Nat.beq (q_kn i) 0 = false := q_bneq.mpr (by rw [q_beq.mp hkn]; decide)
  have hdesc := q_np_ok i hi
  rw [hnp] at hdesc
  refine z_after (va_runV (Ts := lw_tbl) (own := R_law) (C := (q_y i).cls) (nL := 4) (As := As) (b := a) ⟨hx, hb, hml, hown, hts⟩ hM ⟨callB_of As.length hts hG rfl rfl rfl (hsub _ k3) (hts _ hlk) ⟨k4, k5, hdesc⟩ ⟨by show d + 1 ≤ 2048; omega, by show 8 + (q_ml i + 11) + 40 * d ≤ 84000; omega⟩, hsub _ (q_wat_ok (q_in_ok i hi kn0)), hsub _ (q_wat_ok (q_se_ok i hi hkn))⟩ ⟨z_blind, ?_, fun U hU hW => ⟨rfl, by rw [hU]; exact hS.1, q_X.warm hW hX2, hTx.go hW hU hS, tys, hw, by rw [hU]; exact hP, va_K.moved hW.alike hK, hD⟩⟩ rfl rfl hls rfl (lv_room hrest) hd ⟨hc1, hc2⟩) hS (fun v ws1 tys1 ts1 H1 locs1 h1 h2 h3 h4 h5 h6 h7 => ?_)
  · have := va_recv hK hP (q_cls_at z hz) he
    rw [q_own_cls z hz, ← hon, ← q_on_ok i hi] at this
    exact this
  · exact kk v ws1 tys1 ts1 H1 locs1 h1 h2 h3 h4 h5 h6 h7
end QL

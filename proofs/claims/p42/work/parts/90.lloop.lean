/-! ===== the law: its loop, from its entry to its end ===== -/
theorem h_step6 {L t : Nat} (hL : L ≤ 3072) (ht : 6 * t ≤ 4000) (h : ¬ nI L - 6 < nI (6 * t)) : 6 * t + 6 ≤ L := by
  have e6 : q_qb 6 = 2147483654 := by decide +kernel
  have eL := z_qnI (n := L) (by omega)
  have et := z_qnI (n := 6 * t) (by omega)
  have es := z_qsub (x := nI L) (y := 6) (by omega) (by omega)
  rw [q_lt_iff] at h
  omega
theorem h_sl {a b t : Nat} (h1 : a ≤ b + 892) (h2 : b ≤ 41000 + 892 * t) : a ≤ 41000 + 892 * (t + 1) := by
  rw [show 892 * (t + 1) = 892 * t + 892 from Nat.mul_succ 892 t, ← Nat.add_assoc]
  exact Nat.le_trans h1 (Nat.add_le_add_right h2 892)
theorem h_cl {a b t : Nat} (h1 : a ≤ b + 18) (h2 : b ≤ 100 + 18 * t) : a ≤ 100 + 18 * (t + 1) := by omega
section QL
variable {p : Program} {l : Launch} {e : Env} {s : State} {m : MethodId} {below : List Frame} {meth : Method} {c : Code} {b L : Nat} {xs : Nat → Int32} {H : Heap} {locs : List Loc} {cells slots : Nat} {ls : Array Slot} {D : va_G} {sa : Nat → Nat} {jx ax jm am T t : Nat}
theorem q_lexit (C0 : lw_At p s m meth c b L xs) (hS : va_S (q_A s.heap.size) s.heap H locs) (hc : cells ≤ 600000) (hs : slots ≤ 7302250) : W p l e room_1 s m #[Value.ref b] below meth c H locs cells slots (lw_Z below #[Value.ref b] s) (F0 m 1605 ls []) := by
  obtain ⟨hx, hb, hr, hml, hown, hts, hX, hbl, hlocks, hgv⟩ := C0
  refine lv_iconst (v := 1) hx hb q_l1605 (by decide) ?_
  refine va_forget (fun q hq => hS.2.2 q hq) ?_
  refine W.widen (k := 600000) (n := 7302250) hc hs ?_
  exact lw_ret hx hb hr hlocks q_l1606
theorem h_St.S {s : State} (h : h_St D s jx ax jm am T H locs) : va_S (q_A s.heap.size) s.heap H locs := by
  obtain ⟨ws, tys, ts, -, -, -, -, hS, -⟩ := h
  exact hS
theorem h_lhead (C0 : lw_At p s m meth c b L xs) (hL2 : L ≤ 3072) (ht : t ≤ 512) (hl : lv_has ls 4 (h_lv b ax am t)) (hst : h_St D s jx ax jm am T H locs) (hc : cells ≤ 600000) (hs : slots ≤ 7302250)
    (kk : 6 * t + 6 ≤ L → W p l e room_1 s m #[Value.ref b] below meth c H locs cells slots (lw_Z below #[Value.ref b] s) (F0 m 27 ls [])) : W p l e room_1 s m #[Value.ref b] below meth c H locs cells slots (lw_Z below #[Value.ref b] s) (F0 m 18 ls []) := by
  obtain ⟨hx, hb, hr, hml, hown, hts, hX, hbl, hlocks, hgv⟩ := id C0
  have hbA : ¬ q_A s.heap.size b := Nat.not_le.mpr hbl
  refine lv_iload_n hx hb q_l18 rfl (lv_at hl 0 rfl) ?_
  refine lv_aload_n hx hb q_l19 rfl (lv_at hl 3 rfl) ?_
  refine va_slen hx hb hX hbl hbA hst.S q_l20 ?_
  refine lv_bipush (v := 6) hx hb q_l21 (by decide) ?_
  refine lv_isub hx hb q_l23 ?_
  exact lv_icmp_gt (tgt := 1605) hx hb q_l24 (by decide) (fun _ => q_lexit C0 hst.S hc hs) (fun hn => kk (h_step6 hL2 (by omega) hn))
theorem h_loop (C0 : lw_At p s m meth c b L xs) (hX2 : q_X s) (hTx : z_Tx s.heap.size sa s) (hA : z_A0 l s.heap.size D sa) (hL2 : L ≤ 3072) : ∀ (k t T : Nat) (H : Heap) (locs : List Loc) (cells slots : Nat) (ls : Array Slot), L < 6 * t + 6 * k + 6 → t ≤ 512 → lv_has ls 4 (h_lv b ax am t) → h_St D s jx ax jm am T H locs → cells ≤ 100 + 18 * t → slots ≤ 41000 + 892 * t → W p l e room_1 s m #[Value.ref b] below meth c H locs cells slots (lw_Z below #[Value.ref b] s) (F0 m 18 ls []) := by
  intro k
  induction k with
  | zero => exact fun t T H locs cells slots ls hk ht hl hst hc hs => h_lhead C0 hL2 ht hl hst (by omega) (by omega) (fun hL => by omega)
  | succ k ih =>
    intro t T H locs cells slots ls hk ht hl hst hc hs
    refine h_lhead C0 hL2 ht hl hst (by omega) (by omega) (fun hL => ?_)
    refine h_disp C0 hX2 hTx hA hL hL2 hl hst (by omega) (by omega) (fun H1 locs1 cells1 slots1 T1 g1 g2 g3 => ?_)
    refine lv_iinc (v := nI (6 * (t + 1))) (lv' := h_lv b ax am (t + 1)) C0.1 C0.2.1 q_l1599 hl (k := 0) rfl ((congrArg (fun z => nI (6 * t) + z) (show Int32.ofInt 6 = nI 6 from by decide)).trans ((nI_add (6 * t) 6).trans (congrArg nI (by omega)))) (by decide) rfl (fun ls hl => ?_)
    refine lv_goto (tgt := 18) C0.1 C0.2.1 q_l1602 (by decide) ?_
    exact ih (t + 1) T1 H1 locs1 cells1 slots1 ls (by omega) (by omega) hl g3 (h_cl g1 hc) (h_sl g2 hs)
end QL
set_option maxHeartbeats 4000000 in
theorem whole_start {p : Program} {e : Env} {s : State} {m : MethodId} {below : List Frame} {meth : Method} {c : Code} (l : Launch) {b L : Nat} {xs : Nat → Int32} (hL : L ≤ 3072) (C0 : lw_At p s m meth c b L xs) : W p l e room_1 s m #[Value.ref b] below meth c s.heap [] 0 0 (lw_Z below #[Value.ref b] s) (entryFrame m ([Value.ref b] : List Value).toArray 4) := by
  obtain ⟨hx, hb, hr, hml, hown, hts, hX, hbl, hlocks, hgv⟩ := id C0
  have hX2 := q_X_of hts
  obtain ⟨sa, hTx⟩ := tx_st hgv hts
  obtain ⟨D, hK⟩ := q_dis hts
  have hsub : ∀ w ∈ q_w0, w.before #[Value.ref b] s = true := fun w hw => hts w (List.mem_filter.mp hw).1
  have hA : ∀ q : Nat, s.heap.size ≤ q → q_A s.heap.size q := fun _ h => h
  have hS : va_S (q_A s.heap.size) s.heap s.heap [] := va_S.rf
  have hP : va_P D q_cls [] s.heap := fun k q h => by simp at h
  have hD : va_D (q_A s.heap.size) [] := ⟨fun i j p q h => by simp at h, fun k q h => by simp at h⟩
  have hl := lv_entry ([.ref b]) (n := 4) (Nat.le_of_ble_eq_true rfl)
  rw [lg_entry_eq]
  generalize (lg_sl ([.ref b]) ++ List.replicate (4 - (lg_sl ([.ref b])).length) Slot.unset).toArray = ls at hl ⊢
  have hl : lv_has ls 4 [(0, .ref b)] := hl
  obtain ⟨z1, z2, z3, z4⟩ := q_nums
  have z5 := q_ble.mp q_ss0
  have c8 := q_clok_ok 8 _ (q_cls_at 8 (by decide))
  have c9 := q_clok_ok 9 _ (q_cls_at 9 (by decide))
  have w8 := q_cw 8 (by decide)
  have w9 := q_cw 9 (by decide)
  have hMx := q_all (l := l) (base := s.heap.size) (D := D) (mem := []) (q_full xs) q_clok_ok q_okm q_ho1 q_ho2 (fun _ h => by cases h) 10000 10 142 [4294967328] q_hw0 q_hx [] (by decide) (by decide) (by decide) (q_is_ok q_cx)
  have hMy := q_all (l := l) (base := s.heap.size) (D := D) (mem := []) (q_full xs) q_clok_ok q_okm q_ho1 q_ho2 (fun _ h => by cases h) 10000 10 148 [4294967376] q_hy q_h0 [] (by decide) (by decide) (by decide) (q_is_ok q_cy)
  have mx := hMx.1
  have my := hMy.1
  have hsy : q_ss q_hy = q_ss q_hx + 68 := q_ss_nw q_hx 18 68 _ (by omega)
  have hy1 : q_hy.1 = q_hx.1 + 1 := rfl
  refine va_new (D := D) (ci := 8) (C := "SandNights") (T := q_F8) (N := 13) hx hb hts (fun w hw => (List.mem_filter.mp (c8.1 w hw)).1) _ c8.2.1 hown (hts _ q_lcx) (hsub _ (q_wat_ok w8.1)) (hsub _ (q_wat_ok w8.2)) hK hP hD hS hA rfl q_vpV (by decide) (by decide) q_l0 (fun q0 H hP hD hS => ?_)
  have hw : q_W xs q_hw0 _ [] := (q_W0 xs).push (a := q0) (e := .inr (8, (List.range 13).map (fun j => defaultValue ((q_fty.getD 8 (fun _ => .int)) j)))) List.prefix_rfl (by decide) (q_newc xs _ _ 8 13 _ q_nw8)
  refine lv_dup hx hb q_l3 rfl ?_
  refine q_linit (k := 0) C0 hX2 (by decide) hMx q_lkx (by decide) (by decide) (by omega) hw hP hK hD hS rfl hl.1 (by simp [Value.category]) q_l4 (by omega) (by omega) (fun ws tys H locs g1 hw hP hK hD hS => ?_)
  refine lv_astore_n (lv' := [(1, .ref q0), (0, .ref b)]) hx hb q_l7 rfl hl (by decide) rfl (fun ls hl => ?_)
  have ha0 : (q_ad ws)[0]? = some q0 := q_at_mono g1 rfl
  refine va_new (D := D) (ci := 9) (C := "SandNightsModel") (T := q_F9) (N := 68) hx hb hts (fun w hw => (List.mem_filter.mp (c9.1 w hw)).1) _ c9.2.1 hown (hts _ q_lcy) (hsub _ (q_wat_ok w9.1)) (hsub _ (q_wat_ok w9.2)) hK hP hD hS hA rfl q_vpV (by show 0 + 1 + (q_hx.1 - q_hw0.1) + 1 ≤ 600000; omega) (by show 0 + 13 + (q_ss q_hx - q_ss q_hw0) + 68 ≤ 7302250; omega) q_l8 (fun q1 H hP hD hS => ?_)
  have hpre : q_ad ws <+: q_ad (ws ++ [(q1, .inr (9, (List.range 68).map (fun j => defaultValue ((q_fty.getD 9 (fun _ => .int)) j))))]) := by rw [q_ad_app]; exact List.prefix_append _ _
  have hlen : ws.length = 48 := by rw [hw.1]; exact z2
  have hw : q_W xs q_hy _ tys := hw.push (a := q1) (e := .inr (9, (List.range 68).map (fun j => defaultValue ((q_fty.getD 9 (fun _ => .int)) j)))) List.prefix_rfl (by omega) (q_newc xs _ _ 9 68 _ q_nw9)
  refine lv_dup hx hb q_l11 rfl ?_
  have ha48 : (q_ad (ws ++ [(q1, .inr (9, (List.range 68).map (fun j => defaultValue ((q_fty.getD 9 (fun _ => .int)) j))))]))[48]? = some q1 := by rw [← hlen]; exact q_adl
  refine q_linit (k := 48) C0 hX2 (by decide) hMy q_lky (by decide) (by decide) (by omega) hw hP hK hD hS ha48 hl.1 (by simp [Value.category]) q_l12 (by omega) (by omega) (fun ws2 tys2 H locs g2 hw hP hK hD hS => ?_)
  refine lv_astore_n (lv' := [(2, .ref q1), (1, .ref q0), (0, .ref b)]) hx hb q_l15 rfl hl (by decide) rfl (fun ls hl => ?_)
  refine lv_iconst (v := nI (6 * 0)) hx hb q_l16 (by decide) ?_
  refine lv_istore_n (lv' := h_lv b q0 q1 0) hx hb q_l17 rfl hl (by decide) rfl (fun ls hl => ?_)
  have hax := q_at_mono g2 (q_at_mono hpre ha0)
  have ham := q_at_mono g2 ha48
  obtain ⟨hW, hI, hT2⟩ := h_start hw hax ham
  exact h_loop C0 hX2 hTx ⟨q_clok_ok, q_okm, q_ho1, q_ho2, fun _ _ => tx_OT⟩ hL 512 0 0 H locs _ _ ls (by omega) (by omega) hl ⟨ws2, tys2, h_ts0, hW, hP, hK, hD, hS, hI, hT2⟩ (by omega) (by omega)

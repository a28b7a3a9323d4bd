/-! ===== the law: one call of both ===== -/
def h_opd (pc n idx1 idx2 : Nat) : Bool := q_dk pc (.aload_n 1) 1 && ((List.range n).all (fun j => q_ad5 (pc + 1 + 5 * j) (1 + j)) && (q_dk (pc + 1 + 5 * n) (.invokevirtual idx1) 3 && (q_dk (pc + 1 + 5 * n + 3) .pop 1 && (q_dk (pc + 1 + 5 * n + 3 + 1) (.aload_n 2) 1 && ((List.range n).all (fun j => q_ad5 (pc + 1 + 5 * n + 3 + 1 + 1 + 5 * j) (1 + j)) && (q_dk (pc + 1 + 5 * n + 3 + 1 + 1 + 5 * n) (.invokevirtual idx2) 3 && (q_dk (pc + 1 + 5 * n + 3 + 1 + 1 + 5 * n + 3) .pop 1 && q_dk (pc + 1 + 5 * n + 3 + 1 + 1 + 5 * n + 3 + 1) (.goto (1599 - ((pc + 1 + 5 * n + 3 + 1 + 1 + 5 * n + 3 + 1 : Nat) : Int))) 3)))))))
def h_nums (i1 i2 n : Nat) : Bool := Nat.beq (q_np i1) n && (Nat.beq (q_np i2) n && (Nat.beq (q_kn i1) 1 && (Nat.beq (q_kn i2) 1 && (Nat.beq (q_on i1) 8 && Nat.beq (q_on i2) 9))))
def h_bd3 (pc : Nat) : Bool := q_ad5 pc 3 && (q_dk (pc + 5) (.ifCond .eq 7) 3 && (q_dk (pc + 5 + 3) (.iconst 1) 1 && (q_dk (pc + 5 + 3 + 1) (.goto 4) 3 && q_dk (pc + 12) (.iconst 0) 1)))
def h_opb (pc idx1 idx2 : Nat) : Bool := q_dk pc (.aload_n 1) 1 && ((List.range 2).all (fun j => q_ad5 (pc + 1 + 5 * j) (1 + j)) && (h_bd3 (pc + 1 + 5 * 2) && (q_dk (pc + 1 + 5 * 2 + 13) (.invokevirtual idx1) 3 && (q_dk (pc + 1 + 5 * 2 + 13 + 3) .pop 1 && (q_dk (pc + 1 + 5 * 2 + 13 + 3 + 1) (.aload_n 2) 1 && ((List.range 2).all (fun j => q_ad5 (pc + 1 + 5 * 2 + 13 + 3 + 1 + 1 + 5 * j) (1 + j)) && (h_bd3 (pc + 1 + 5 * 2 + 13 + 3 + 1 + 1 + 5 * 2) && (q_dk (pc + 1 + 5 * 2 + 13 + 3 + 1 + 1 + 5 * 2 + 13) (.invokevirtual idx2) 3 && (q_dk (pc + 1 + 5 * 2 + 13 + 3 + 1 + 1 + 5 * 2 + 13 + 3) .pop 1 && q_dk (pc + 1 + 5 * 2 + 13 + 3 + 1 + 1 + 5 * 2 + 13 + 3 + 1) (.goto (1599 - ((pc + 1 + 5 * 2 + 13 + 3 + 1 + 1 + 5 * 2 + 13 + 3 + 1 : Nat) : Int))) 3)))))))))
section QL
variable {p : Program} {l : Launch} {e : Env} {s : State} {m : MethodId} {below : List Frame} {meth : Method} {c : Code} {b L : Nat} {xs : Nat → Int32} {H : Heap} {locs : List Loc} {cells slots : Nat} {Q : State → Prop} {ls : Array Slot} {D : va_G} {sa : Nat → Nat} {jx ax jm am T t : Nat}
theorem h_lop (C0 : lw_At p s m meth c b L xs) (hX2 : q_X s) (hTx : z_Tx s.heap.size sa s) (hL : 6 * t + 6 ≤ L) (hL2 : L ≤ 3072) (hl : lv_has ls 4 (h_lv b ax am t)) {n i1 i2 idx1 idx2 pc : Nat} (hn : n ≤ 5) (op1 : ∀ (ws : va_W) (ts : List Nat), h_I jx ax jm am ws ts → h_T2 jx jm T T ws → h_Op l s.heap.size D sa i1 (.ref ax :: h_xa (fun j => xs (6 * t + j)) n 1) ws ts (h_pI jx ax jm am T T)) (op2 : ∀ (ws : va_W) (ts : List Nat), h_I jx ax jm am ws ts → h_T2 jx jm T T ws → h_Op l s.heap.size D sa i2 (.ref am :: h_xa (fun j => xs (6 * t + j)) n 1) ws ts (h_pI jx ax jm am T T)) (hi1 : i1 < q_nM) (hi2 : i2 < q_nM) (hlk1 : Cond.methodLink R_law idx1 (q_y i1) ∈ lw_tbl) (hlk2 : Cond.methodLink R_law idx2 (q_y i2) ∈ lw_tbl) (hnum : h_nums i1 i2 n = true) (hdec : h_opd pc n idx1 idx2 = true) (hst : h_St D s jx ax jm am T H locs) (hc : cells + 18 ≤ 600000) (hs : slots + 892 ≤ 7302250)
    (kk : ∀ (H1 : Heap) (locs1 : List Loc) (cells1 slots1 T1 : Nat), cells1 ≤ cells + 18 → slots1 ≤ slots + 892 → h_St D s jx ax jm am T1 H1 locs1 → W p l e room_1 s m #[Value.ref b] below meth c H1 locs1 cells1 slots1 Q (F0 m 1599 ls [])) : W p l e room_1 s m #[Value.ref b] below meth c H locs cells slots Q (F0 m pc ls []) := by
  obtain ⟨n1, hnum⟩ := q_ands hnum
  obtain ⟨n2, hnum⟩ := q_ands hnum
  obtain ⟨n3, hnum⟩ := q_ands hnum
  obtain ⟨n4, hnum⟩ := q_ands hnum
  obtain ⟨n5, n6⟩ := q_ands hnum
  obtain ⟨d1, hdec⟩ := q_ands hdec
  obtain ⟨d2, hdec⟩ := q_ands hdec
  obtain ⟨d3, hdec⟩ := q_ands hdec
  obtain ⟨d4, hdec⟩ := q_ands hdec
  obtain ⟨d5, hdec⟩ := q_ands hdec
  obtain ⟨d6, hdec⟩ := q_ands hdec
  obtain ⟨d7, hdec⟩ := q_ands hdec
  obtain ⟨d8, d9⟩ := q_ands hdec
  have hx := C0.1
  have hb := C0.2.1
  obtain ⟨ws, tys, ts, hw, hP, hK, hD, hS, hI, hT⟩ := hst
  obtain ⟨kc, d, mk, hd, hmk, hM⟩ := op1 ws ts hI hT
  obtain ⟨fs, o1, -, -⟩ := h_obj hw hI.1.1 hI.2.1.1 rfl
  have o1 : ws[jx]? = some (ax, .inr (8, fs)) := o1
  refine lv_aload_n hx hb (of_decide_eq_true d1) rfl (lv_at hl 2 rfl) ?_
  refine h_largs C0 hL hL2 hS hl n 1 (pc + 1) [.ref ax] (by omega) (fun j hj => List.all_eq_true.mp d2 j (List.mem_range.mpr hj)) ?_
  refine h_lcall C0 hX2 hTx hd hi1 hM hlk1 (by rw [h_xa_len]; exact q_beq.mp n1) n3 (show 8 < 10 by decide) (q_beq.mp n5) o1 hw hP hK hD hS hl.1 h_cat0 (of_decide_eq_true d3) (by omega) (by omega) (fun v ws1 tys1 ts1 H1 locs1 hw hP hK hD hF hp hS => ?_)
  obtain ⟨⟨x, rfl⟩, hI, hT⟩ := hp
  refine lv_pop hx hb (of_decide_eq_true d4) rfl ?_
  obtain ⟨kc2, dd2, mk2, hd2, hmk2, hM2⟩ := op2 ws1 ts1 hI hT
  obtain ⟨fs2, o2, -, -⟩ := h_obj hw hI.1.2 hI.2.2.1.tag rfl
  have o2 : ws1[jm]? = some (am, .inr (9, fs2)) := o2
  refine lv_aload_n hx hb (of_decide_eq_true d5) rfl (lv_at hl 1 rfl) ?_
  refine h_largs C0 hL hL2 hS hl n 1 _ [.ref am] (by omega) (fun j hj => List.all_eq_true.mp d6 j (List.mem_range.mpr hj)) ?_
  refine h_lcall C0 hX2 hTx hd2 hi2 hM2 hlk2 (by rw [h_xa_len]; exact q_beq.mp n2) n4 (show 9 < 10 by decide) (q_beq.mp n6) o2 hw hP hK hD hS hl.1 h_cat0 (of_decide_eq_true d7) (by omega) (by omega) (fun v ws1 tys1 ts1 H1 locs1 hw hP hK hD hF hp hS => ?_)
  obtain ⟨⟨x2, rfl⟩, hI, hT⟩ := hp
  refine lv_pop hx hb (of_decide_eq_true d8) rfl ?_
  refine lv_goto (tgt := 1599) hx hb (of_decide_eq_true d9) (by omega) ?_
  exact kk H1 locs1 _ _ T (by omega) (by omega) ⟨ws1, tys1, ts1, hw, hP, hK, hD, hS, hI, hT⟩
theorem h_lbool (C0 : lw_At p s m meth c b L xs) (hL : 6 * t + 6 ≤ L) (hL2 : L ≤ 3072) (hS : va_S (q_A s.heap.size) s.heap H locs) (hl : lv_has ls 4 (h_lv b ax am t)) {pc bv : Nat} {rest : List Value} (hd : h_bd3 pc = true) (hbv : bv = if xs (6 * t + 3) = 0 then 0 else 1) (kk : W p l e room_1 s m #[Value.ref b] below meth c H locs cells slots Q (F0 m (pc + 13) ls (.int (nI bv) :: rest))) : W p l e room_1 s m #[Value.ref b] below meth c H locs cells slots Q (F0 m pc ls rest) := by
  obtain ⟨d1, hd⟩ := q_ands hd
  obtain ⟨d2, hd⟩ := q_ands hd
  obtain ⟨d3, hd⟩ := q_ands hd
  obtain ⟨d4, d5⟩ := q_ands hd
  have hx := C0.1
  have hb := C0.2.1
  refine h_larg C0 hL hL2 hS hl (by decide) d1 ?_
  refine lv_if_eq (tgt := pc + 12) hx hb (of_decide_eq_true d2) (by omega) (fun h0 => ?_) (fun h0 => ?_)
  · rw [if_pos h0] at hbv
    subst hbv
    refine lv_iconst (v := nI 0) hx hb (of_decide_eq_true d5) (by decide) ?_
    exact kk
  · rw [if_neg h0] at hbv
    subst hbv
    refine lv_iconst (v := nI 1) hx hb (of_decide_eq_true d3) (by decide) ?_
    refine lv_goto (tgt := pc + 13) hx hb (of_decide_eq_true d4) (by omega) ?_
    exact kk
theorem h_lopb (C0 : lw_At p s m meth c b L xs) (hX2 : q_X s) (hTx : z_Tx s.heap.size sa s) (hL : 6 * t + 6 ≤ L) (hL2 : L ≤ 3072) (hl : lv_has ls 4 (h_lv b ax am t)) {i1 i2 idx1 idx2 pc : Nat} (op1 : ∀ (bv : Nat), bv < 2 → ∀ (ws : va_W) (ts : List Nat), h_I jx ax jm am ws ts → h_T2 jx jm T T ws → h_Op l s.heap.size D sa i1 [.ref ax, .int (xs (6 * t + 1)), .int (xs (6 * t + 2)), .int (nI bv)] ws ts (h_pI jx ax jm am T T)) (op2 : ∀ (bv : Nat), bv < 2 → ∀ (ws : va_W) (ts : List Nat), h_I jx ax jm am ws ts → h_T2 jx jm T T ws → h_Op l s.heap.size D sa i2 [.ref am, .int (xs (6 * t + 1)), .int (xs (6 * t + 2)), .int (nI bv)] ws ts (h_pI jx ax jm am T T)) (hi1 : i1 < q_nM) (hi2 : i2 < q_nM) (hlk1 : Cond.methodLink R_law idx1 (q_y i1) ∈ lw_tbl) (hlk2 : Cond.methodLink R_law idx2 (q_y i2) ∈ lw_tbl) (hnum : h_nums i1 i2 3 = true) (hdec : h_opb pc idx1 idx2 = true) (hst : h_St D s jx ax jm am T H locs) (hc : cells + 18 ≤ 600000) (hs : slots + 892 ≤ 7302250)
    (kk : ∀ (H1 : Heap) (locs1 : List Loc) (cells1 slots1 T1 : Nat), cells1 ≤ cells + 18 → slots1 ≤ slots + 892 → h_St D s jx ax jm am T1 H1 locs1 → W p l e room_1 s m #[Value.ref b] below meth c H1 locs1 cells1 slots1 Q (F0 m 1599 ls [])) : W p l e room_1 s m #[Value.ref b] below meth c H locs cells slots Q (F0 m pc ls []) := by
  obtain ⟨n1, hnum⟩ := q_ands hnum
  obtain ⟨n2, hnum⟩ := q_ands hnum
  obtain ⟨n3, hnum⟩ := q_ands hnum
  obtain ⟨n4, hnum⟩ := q_ands hnum
  obtain ⟨n5, n6⟩ := q_ands hnum
  obtain ⟨d1, hdec⟩ := q_ands hdec
  obtain ⟨d2, hdec⟩ := q_ands hdec
  obtain ⟨db, hdec⟩ := q_ands hdec
  obtain ⟨d3, hdec⟩ := q_ands hdec
  obtain ⟨d4, hdec⟩ := q_ands hdec
  obtain ⟨d5, hdec⟩ := q_ands hdec
  obtain ⟨d6, hdec⟩ := q_ands hdec
  obtain ⟨dc, hdec⟩ := q_ands hdec
  obtain ⟨d7, hdec⟩ := q_ands hdec
  obtain ⟨d8, d9⟩ := q_ands hdec
  have hx := C0.1
  have hb := C0.2.1
  obtain ⟨bv, hbv, hb2⟩ : ∃ bv : Nat, bv = (if xs (6 * t + 3) = 0 then 0 else 1) ∧ bv < 2 := ⟨_, rfl, by split <;> decide⟩
  obtain ⟨ws, tys, ts, hw, hP, hK, hD, hS, hI, hT⟩ := hst
  obtain ⟨kc, d, mk, hd, hmk, hM⟩ := op1 bv hb2 ws ts hI hT
  obtain ⟨fs, o1, -, -⟩ := h_obj hw hI.1.1 hI.2.1.1 rfl
  have o1 : ws[jx]? = some (ax, .inr (8, fs)) := o1
  refine lv_aload_n hx hb (of_decide_eq_true d1) rfl (lv_at hl 2 rfl) ?_
  refine h_largs C0 hL hL2 hS hl 2 1 (pc + 1) [.ref ax] (by omega) (fun j hj => List.all_eq_true.mp d2 j (List.mem_range.mpr hj)) ?_
  refine h_lbool C0 hL hL2 hS hl db hbv ?_
  refine h_lcall (As := [.int (xs (6 * t + 1)), .int (xs (6 * t + 2)), .int (nI bv)]) C0 hX2 hTx hd hi1 hM hlk1 (q_beq.mp n1) n3 (show 8 < 10 by decide) (q_beq.mp n5) o1 hw hP hK hD hS hl.1 h_cat0 (of_decide_eq_true d3) (by omega) (by omega) (fun v ws1 tys1 ts1 H1 locs1 hw hP hK hD hF hp hS => ?_)
  obtain ⟨⟨x, rfl⟩, hI, hT⟩ := hp
  refine lv_pop hx hb (of_decide_eq_true d4) rfl ?_
  obtain ⟨kc2, dd2, mk2, hd2, hmk2, hM2⟩ := op2 bv hb2 ws1 ts1 hI hT
  obtain ⟨fs2, o2, -, -⟩ := h_obj hw hI.1.2 hI.2.2.1.tag rfl
  have o2 : ws1[jm]? = some (am, .inr (9, fs2)) := o2
  refine lv_aload_n hx hb (of_decide_eq_true d5) rfl (lv_at hl 1 rfl) ?_
  refine h_largs C0 hL hL2 hS hl 2 1 _ [.ref am] (by omega) (fun j hj => List.all_eq_true.mp d6 j (List.mem_range.mpr hj)) ?_
  refine h_lbool C0 hL hL2 hS hl dc hbv ?_
  refine h_lcall (As := [.int (xs (6 * t + 1)), .int (xs (6 * t + 2)), .int (nI bv)]) C0 hX2 hTx hd2 hi2 hM2 hlk2 (q_beq.mp n2) n4 (show 9 < 10 by decide) (q_beq.mp n6) o2 hw hP hK hD hS hl.1 h_cat0 (of_decide_eq_true d7) (by omega) (by omega) (fun v ws1 tys1 ts1 H1 locs1 hw hP hK hD hF hp hS => ?_)
  obtain ⟨⟨x2, rfl⟩, hI, hT⟩ := hp
  refine lv_pop hx hb (of_decide_eq_true d8) rfl ?_
  refine lv_goto (tgt := 1599) hx hb (of_decide_eq_true d9) (by omega) ?_
  exact kk H1 locs1 _ _ T (by omega) (by omega) ⟨ws1, tys1, ts1, hw, hP, hK, hD, hS, hI, hT⟩
end QL
theorem h_la1 : q_dk 1418 (.aload_n 1) 1 = true ∧ q_ad5 1419 1 = true ∧ q_dk 1424 (.invokevirtual 182) 3 = true ∧ q_dk 1427 (.aload_n 2) 1 = true ∧ q_ad5 1428 1 = true ∧ q_dk 1433 (.invokevirtual 185) 3 = true ∧ q_dk 1436 (.if_icmp .eq 163) 3 = true := by decide +kernel
section QL
variable {p : Program} {l : Launch} {e : Env} {s : State} {m : MethodId} {below : List Frame} {meth : Method} {c : Code} {b L : Nat} {xs : Nat → Int32} {H : Heap} {locs : List Loc} {cells slots : Nat} {Q : State → Prop} {ls : Array Slot} {D : va_G} {sa : Nat → Nat} {jx ax jm am T t : Nat}
theorem h_lti_le {T : Nat} {v : Int32} (hT : T ≤ 100000) : h_lti T v ≤ 100000 := by
  unfold h_lti h_lk
  split
  · exact hT
  · rename_i n h
    split at h
    · rename_i hh
      have h := Option.some.inj h
      have := hh.2.2
      omega
    · cases h
/-- later: both answer alike -/
theorem h_llat (C0 : lw_At p s m meth c b L xs) (hX2 : q_X s) (hTx : z_Tx s.heap.size sa s) (hA : z_A0 l s.heap.size D sa) (hL : 6 * t + 6 ≤ L) (hL2 : L ≤ 3072) (hl : lv_has ls 4 (h_lv b ax am t)) (hst : h_St D s jx ax jm am T H locs) (hc : cells + 18 ≤ 600000) (hs : slots + 892 ≤ 7302250)
    (kk : ∀ (H1 : Heap) (locs1 : List Loc) (cells1 slots1 T1 : Nat), cells1 ≤ cells + 18 → slots1 ≤ slots + 892 → h_St D s jx ax jm am T1 H1 locs1 → W p l e room_1 s m #[Value.ref b] below meth c H1 locs1 cells1 slots1 Q (F0 m 1599 ls [])) : W p l e room_1 s m #[Value.ref b] below meth c H locs cells slots Q (F0 m 1418 ls []) := by
  obtain ⟨d1, d2, d3, d4, d5, d6, d7⟩ := h_la1
  have hx := C0.1
  have hb := C0.2.1
  obtain ⟨ws, tys, ts, hw, hP, hK, hD, hS, hI, hT⟩ := hst
  have hM := h_m_latx hA hT.1.1 hI.1.1 hI.2.1.1 hT.2.1 (xs (6 * t + 1))
  obtain ⟨fs, o1, -, -⟩ := h_obj hw hI.1.1 hI.2.1.1 rfl
  have o1 : ws[jx]? = some (ax, .inr (8, fs)) := o1
  refine lv_aload_n hx hb (of_decide_eq_true d1) rfl (lv_at hl 2 rfl) ?_
  refine h_larg C0 hL hL2 hS hl (by decide) d2 ?_
  refine h_lcall (As := [.int (xs (6 * t + 1))]) C0 hX2 hTx (by decide) (by decide) hM q_lk40_1 (show q_np 103 = 1 from by decide) (by decide) (show 8 < 10 by decide) (by decide) o1 hw hP hK hD hS hl.1 h_cat0 (of_decide_eq_true d3) (by omega) (by omega) (fun v ws1 tys1 ts1 H1 locs1 hw hP hK hD hF hp hS => ?_)
  obtain ⟨rfl, ht1⟩ := hp
  have hI1 : h_I jx ax jm am ws1 ts1 := ⟨⟨z_gm hF.2.1 hI.1.1, z_gm hF.2.1 hI.1.2⟩, hI.2.1.fr (by decide) (by decide) hF, hI.2.2.1.fr (by decide) hF, hI.2.2.2.fr (by decide) hF⟩
  have tm1 := hT.2.2.fr hF hI.2.2.1.tag (h_nots rfl _)
  have hM2 := h_m_latm hA hT.1.2 hI1.1.2 hI1.2.2.1.tag tm1 (xs (6 * t + 1))
  obtain ⟨fs2, o2, -, -⟩ := h_obj hw hI1.1.2 hI1.2.2.1.tag rfl
  have o2 : ws1[jm]? = some (am, .inr (9, fs2)) := o2
  refine lv_aload_n hx hb (of_decide_eq_true d4) rfl (lv_at hl 1 rfl) ?_
  refine h_larg C0 hL hL2 hS hl (by decide) d5 ?_
  refine h_lcall (As := [.int (xs (6 * t + 1))]) (rest := [h_lan T (xs (6 * t + 1))]) C0 hX2 hTx (by decide) (by decide) hM2 q_lk40_2 (show q_np 104 = 1 from by decide) (by decide) (show 9 < 10 by decide) (by decide) o2 hw hP hK hD hS hl.1 (by
    unfold h_lan
    split <;> exact (by decide : 1 ≤ 8)) (of_decide_eq_true d6) (by omega) (by omega) (fun v ws2 tys2 ts2 H2 locs2 hw hP hK hD hF2 hp hS => ?_)
  obtain ⟨rfl, ht2⟩ := hp
  have hI2 : h_I jx ax jm am ws2 ts2 := ⟨⟨z_gm hF2.2.1 hI1.1.1, z_gm hF2.2.1 hI1.1.2⟩, hI1.2.1.fr (by decide) (by decide) hF2, hI1.2.2.1.fr (by decide) hF2, hI1.2.2.2.fr (by decide) hF2⟩
  have tx2 := ht1.fr hF2 hI1.2.1.1 (h_nots rfl _)
  obtain ⟨y, hy⟩ : ∃ y : Int32, h_lan T (xs (6 * t + 1)) = .int y := by
    unfold h_lan
    split
    · exact ⟨_, rfl⟩
    · exact ⟨_, rfl⟩
  rw [hy]
  show W _ _ _ _ _ _ _ _ _ _ _ _ _ _ _ (F0 m _ ls [.int y, .int y])
  refine lv_icmp_eq (tgt := 1599) hx hb (of_decide_eq_true d7) (by decide) (fun _ => ?_) (fun hne => absurd rfl hne)
  exact kk H2 locs2 _ _ _ (by omega) (by omega) ⟨ws2, tys2, ts2, hw, hP, hK, hD, hS, hI2, ⟨h_lti_le hT.1.1, h_lti_le hT.1.1⟩, tx2, ht2⟩
end QL

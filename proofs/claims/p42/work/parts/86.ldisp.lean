/-! ===== the law: dispatch, loop, start, claim ===== -/
theorem q_l0 : decode code 0 = .ok (.new 7, 3) := by decide +kernel
theorem q_l3 : decode code 3 = .ok (.dup, 1) := by decide +kernel
theorem q_l4 : decode code 4 = .ok (.invokespecial 9, 3) := by decide +kernel
theorem q_l7 : decode code 7 = .ok (.astore_n 1, 1) := by decide +kernel
theorem q_l8 : decode code 8 = .ok (.new 10, 3) := by decide +kernel
theorem q_l11 : decode code 11 = .ok (.dup, 1) := by decide +kernel
theorem q_l12 : decode code 12 = .ok (.invokespecial 12, 3) := by decide +kernel
theorem q_l15 : decode code 15 = .ok (.astore_n 2, 1) := by decide +kernel
theorem q_l16 : decode code 16 = .ok (.iconst 0, 1) := by decide +kernel
theorem q_l17 : decode code 17 = .ok (.istore_n 3, 1) := by decide +kernel
theorem q_l18 : decode code 18 = .ok (.iload_n 3, 1) := by decide +kernel
theorem q_l19 : decode code 19 = .ok (.aload_n 0, 1) := by decide +kernel
theorem q_l20 : decode code 20 = .ok (.arraylength, 1) := by decide +kernel
theorem q_l21 : decode code 21 = .ok (.bipush 6, 2) := by decide +kernel
theorem q_l23 : decode code 23 = .ok (.isub, 1) := by decide +kernel
theorem q_l24 : decode code 24 = .ok (.if_icmp .gt 1581, 3) := by decide +kernel
theorem q_l27 : decode code 27 = .ok (.aload_n 0, 1) := by decide +kernel
theorem q_l28 : decode code 28 = .ok (.iload_n 3, 1) := by decide +kernel
theorem q_l29 : decode code 29 = .ok (.iaload, 1) := by decide +kernel
theorem q_l30 : decode code 30 = .ok (.bipush 63, 2) := by decide +kernel
theorem q_l32 : decode code 32 = .ok (.iand, 1) := by decide +kernel
theorem q_l33 : decode code 33 = .ok (.tableswitch 1566 0 46 #[203, 266, 289, 302, 325, 358, 391, 424, 457, 470, 503, 516, 529, 542, 555, 588, 621, 664, 697, 710, 753, 786, 829, 852, 885, 918, 941, 964, 997, 1030, 1043, 1066, 1119, 1152, 1185, 1208, 1221, 1244, 1303, 1362, 1385, 1408, 1431, 1464, 1497, 1520, 1543], 203) := by decide +kernel
theorem q_l1599 : decode code 1599 = .ok (.iinc 3 6, 3) := by decide +kernel
theorem q_l1602 : decode code 1602 = .ok (.goto (-1584), 3) := by decide +kernel
theorem q_l1605 : decode code 1605 = .ok (.iconst 1, 1) := by decide +kernel
theorem q_l1606 : decode code 1606 = .ok (.ireturn, 1) := by decide +kernel
section QL
variable {p : Program} {l : Launch} {e : Env} {s : State} {m : MethodId} {below : List Frame} {meth : Method} {c : Code} {b L : Nat} {xs : Nat → Int32} {H : Heap} {locs : List Loc} {cells slots : Nat} {Q : State → Prop} {ls : Array Slot} {D : va_G} {sa : Nat → Nat} {jx ax jm am T t : Nat}
theorem h_disp (C0 : lw_At p s m meth c b L xs) (hX2 : q_X s) (hTx : z_Tx s.heap.size sa s) (hA : z_A0 l s.heap.size D sa) (hL : 6 * t + 6 ≤ L) (hL2 : L ≤ 3072) (hl : lv_has ls 4 (h_lv b ax am t)) (hst : h_St D s jx ax jm am T H locs) (hc : cells + 18 ≤ 600000) (hs : slots + 892 ≤ 7302250) (kk : ∀ (H1 : Heap) (locs1 : List Loc) (cells1 slots1 T1 : Nat), cells1 ≤ cells + 18 → slots1 ≤ slots + 892 → h_St D s jx ax jm am T1 H1 locs1 → W p l e room_1 s m #[Value.ref b] below meth c H1 locs1 cells1 slots1 Q (F0 m 1599 ls [])) : W p l e room_1 s m #[Value.ref b] below meth c H locs cells slots Q (F0 m 27 ls []) := by
  obtain ⟨hx, hb, hr, hml, hown, hts, hX, hbl, hlocks, hgv⟩ := id C0
  have hbA : ¬ q_A s.heap.size b := Nat.not_le.mpr hbl
  have hS : va_S (q_A s.heap.size) s.heap H locs := by
    obtain ⟨ws, tys, ts, -, -, -, -, hS, -⟩ := hst
    exact hS
  refine lv_aload_n hx hb q_l27 rfl (lv_at hl 3 rfl) ?_
  refine lv_iload_n hx hb q_l28 rfl (lv_at hl 0 rfl) ?_
  refine va_sld hx hb hX hbl hbA hS (vp_in_nI (show 6 * t < L by omega) (by omega)) q_l29 ?_
  refine lv_bipush (v := 63) hx hb q_l30 (by decide) ?_
  refine lv_iand hx hb q_l32 ?_
  obtain ⟨j, hj, ej⟩ := pk_andE (xs (nI (6 * t)).toNatClampNeg) (m := 63) 6 (by decide)
  rw [ej]
  have hj : j < 64 := hj
  have hti : (nI j).toInt = (j : Int) := nI_toInt (by omega)
  by_cases h47 : j < 47
  · match j, h47, hti with
    | 0, _, hti => exact lv_tableIn (off := 203) (tgt := 236) hx hb q_l33 (by rw [hti]; decide) (by rw [hti]; decide) (by rw [hti]; rfl) (by decide) (h_tu0 C0 hX2 hTx hA hL hL2 hl hst hc hs kk)
    | 1, _, hti => exact lv_tableIn (off := 266) (tgt := 299) hx hb q_l33 (by rw [hti]; decide) (by rw [hti]; decide) (by rw [hti]; rfl) (by decide) (h_tu1 C0 hX2 hTx hA hL hL2 hl hst hc hs kk)
    | 2, _, hti => exact lv_tableIn (off := 289) (tgt := 322) hx hb q_l33 (by rw [hti]; decide) (by rw [hti]; decide) (by rw [hti]; rfl) (by decide) (h_tu2 C0 hX2 hTx hA hL hL2 hl hst hc hs kk)
    | 3, _, hti => exact lv_tableIn (off := 302) (tgt := 335) hx hb q_l33 (by rw [hti]; decide) (by rw [hti]; decide) (by rw [hti]; rfl) (by decide) (h_tu3 C0 hX2 hTx hA hL hL2 hl hst hc hs kk)
    | 4, _, hti => exact lv_tableIn (off := 325) (tgt := 358) hx hb q_l33 (by rw [hti]; decide) (by rw [hti]; decide) (by rw [hti]; rfl) (by decide) (h_tu4 C0 hX2 hTx hA hL hL2 hl hst hc hs kk)
    | 5, _, hti => exact lv_tableIn (off := 358) (tgt := 391) hx hb q_l33 (by rw [hti]; decide) (by rw [hti]; decide) (by rw [hti]; rfl) (by decide) (h_tu5 C0 hX2 hTx hA hL hL2 hl hst hc hs kk)
    | 6, _, hti => exact lv_tableIn (off := 391) (tgt := 424) hx hb q_l33 (by rw [hti]; decide) (by rw [hti]; decide) (by rw [hti]; rfl) (by decide) (h_tu6 C0 hX2 hTx hA hL hL2 hl hst hc hs kk)
    | 7, _, hti => exact lv_tableIn (off := 424) (tgt := 457) hx hb q_l33 (by rw [hti]; decide) (by rw [hti]; decide) (by rw [hti]; rfl) (by decide) (h_tu7 C0 hX2 hTx hA hL hL2 hl hst hc hs kk)
    | 8, _, hti => exact lv_tableIn (off := 457) (tgt := 490) hx hb q_l33 (by rw [hti]; decide) (by rw [hti]; decide) (by rw [hti]; rfl) (by decide) (h_tu8 C0 hX2 hTx hA hL hL2 hl hst hc hs kk)
    | 9, _, hti => exact lv_tableIn (off := 470) (tgt := 503) hx hb q_l33 (by rw [hti]; decide) (by rw [hti]; decide) (by rw [hti]; rfl) (by decide) (h_tu9 C0 hX2 hTx hA hL hL2 hl hst hc hs kk)
    | 10, _, hti => exact lv_tableIn (off := 503) (tgt := 536) hx hb q_l33 (by rw [hti]; decide) (by rw [hti]; decide) (by rw [hti]; rfl) (by decide) (h_tu10 C0 hX2 hTx hA hL hL2 hl hst hc hs kk)
    | 11, _, hti => exact lv_tableIn (off := 516) (tgt := 549) hx hb q_l33 (by rw [hti]; decide) (by rw [hti]; decide) (by rw [hti]; rfl) (by decide) (h_tu11 C0 hX2 hTx hA hL hL2 hl hst hc hs kk)
    | 12, _, hti => exact lv_tableIn (off := 529) (tgt := 562) hx hb q_l33 (by rw [hti]; decide) (by rw [hti]; decide) (by rw [hti]; rfl) (by decide) (h_tu12 C0 hX2 hTx hA hL hL2 hl hst hc hs kk)
    | 13, _, hti => exact lv_tableIn (off := 542) (tgt := 575) hx hb q_l33 (by rw [hti]; decide) (by rw [hti]; decide) (by rw [hti]; rfl) (by decide) (h_tu13 C0 hX2 hTx hA hL hL2 hl hst hc hs kk)
    | 14, _, hti => exact lv_tableIn (off := 555) (tgt := 588) hx hb q_l33 (by rw [hti]; decide) (by rw [hti]; decide) (by rw [hti]; rfl) (by decide) (h_tu14 C0 hX2 hTx hA hL hL2 hl hst hc hs kk)
    | 15, _, hti => exact lv_tableIn (off := 588) (tgt := 621) hx hb q_l33 (by rw [hti]; decide) (by rw [hti]; decide) (by rw [hti]; rfl) (by decide) (h_tu15 C0 hX2 hTx hA hL hL2 hl hst hc hs kk)
    | 16, _, hti => exact lv_tableIn (off := 621) (tgt := 654) hx hb q_l33 (by rw [hti]; decide) (by rw [hti]; decide) (by rw [hti]; rfl) (by decide) (h_tu16 C0 hX2 hTx hA hL hL2 hl hst hc hs kk)
    | 17, _, hti => exact lv_tableIn (off := 664) (tgt := 697) hx hb q_l33 (by rw [hti]; decide) (by rw [hti]; decide) (by rw [hti]; rfl) (by decide) (h_tu17 C0 hX2 hTx hA hL hL2 hl hst hc hs kk)
    | 18, _, hti => exact lv_tableIn (off := 697) (tgt := 730) hx hb q_l33 (by rw [hti]; decide) (by rw [hti]; decide) (by rw [hti]; rfl) (by decide) (h_tu18 C0 hX2 hTx hA hL hL2 hl hst hc hs kk)
    | 19, _, hti => exact lv_tableIn (off := 710) (tgt := 743) hx hb q_l33 (by rw [hti]; decide) (by rw [hti]; decide) (by rw [hti]; rfl) (by decide) (h_tu19 C0 hX2 hTx hA hL hL2 hl hst hc hs kk)
    | 20, _, hti => exact lv_tableIn (off := 753) (tgt := 786) hx hb q_l33 (by rw [hti]; decide) (by rw [hti]; decide) (by rw [hti]; rfl) (by decide) (h_tu20 C0 hX2 hTx hA hL hL2 hl hst hc hs kk)
    | 21, _, hti => exact lv_tableIn (off := 786) (tgt := 819) hx hb q_l33 (by rw [hti]; decide) (by rw [hti]; decide) (by rw [hti]; rfl) (by decide) (h_tu21 C0 hX2 hTx hA hL hL2 hl hst hc hs kk)
    | 22, _, hti => exact lv_tableIn (off := 829) (tgt := 862) hx hb q_l33 (by rw [hti]; decide) (by rw [hti]; decide) (by rw [hti]; rfl) (by decide) (h_tu22 C0 hX2 hTx hA hL hL2 hl hst hc hs kk)
    | 23, _, hti => exact lv_tableIn (off := 852) (tgt := 885) hx hb q_l33 (by rw [hti]; decide) (by rw [hti]; decide) (by rw [hti]; rfl) (by decide) (h_tu23 C0 hX2 hTx hA hL hL2 hl hst hc hs kk)
    | 24, _, hti => exact lv_tableIn (off := 885) (tgt := 918) hx hb q_l33 (by rw [hti]; decide) (by rw [hti]; decide) (by rw [hti]; rfl) (by decide) (h_tu24 C0 hX2 hTx hA hL hL2 hl hst hc hs kk)
    | 25, _, hti => exact lv_tableIn (off := 918) (tgt := 951) hx hb q_l33 (by rw [hti]; decide) (by rw [hti]; decide) (by rw [hti]; rfl) (by decide) (h_tu25 C0 hX2 hTx hA hL hL2 hl hst hc hs kk)
    | 26, _, hti => exact lv_tableIn (off := 941) (tgt := 974) hx hb q_l33 (by rw [hti]; decide) (by rw [hti]; decide) (by rw [hti]; rfl) (by decide) (h_tu26 C0 hX2 hTx hA hL hL2 hl hst hc hs kk)
    | 27, _, hti => exact lv_tableIn (off := 964) (tgt := 997) hx hb q_l33 (by rw [hti]; decide) (by rw [hti]; decide) (by rw [hti]; rfl) (by decide) (h_tu27 C0 hX2 hTx hA hL hL2 hl hst hc hs kk)
    | 28, _, hti => exact lv_tableIn (off := 997) (tgt := 1030) hx hb q_l33 (by rw [hti]; decide) (by rw [hti]; decide) (by rw [hti]; rfl) (by decide) (h_tu28 C0 hX2 hTx hA hL hL2 hl hst hc hs kk)
    | 29, _, hti => exact lv_tableIn (off := 1030) (tgt := 1063) hx hb q_l33 (by rw [hti]; decide) (by rw [hti]; decide) (by rw [hti]; rfl) (by decide) (h_tu29 C0 hX2 hTx hA hL hL2 hl hst hc hs kk)
    | 30, _, hti => exact lv_tableIn (off := 1043) (tgt := 1076) hx hb q_l33 (by rw [hti]; decide) (by rw [hti]; decide) (by rw [hti]; rfl) (by decide) (h_tu30 C0 hX2 hTx hA hL hL2 hl hst hc hs kk)
    | 31, _, hti => exact lv_tableIn (off := 1066) (tgt := 1099) hx hb q_l33 (by rw [hti]; decide) (by rw [hti]; decide) (by rw [hti]; rfl) (by decide) (h_tu31 C0 hX2 hTx hA hL hL2 hl hst hc hs kk)
    | 32, _, hti => exact lv_tableIn (off := 1119) (tgt := 1152) hx hb q_l33 (by rw [hti]; decide) (by rw [hti]; decide) (by rw [hti]; rfl) (by decide) (h_tu32 C0 hX2 hTx hA hL hL2 hl hst hc hs kk)
    | 33, _, hti => exact lv_tableIn (off := 1152) (tgt := 1185) hx hb q_l33 (by rw [hti]; decide) (by rw [hti]; decide) (by rw [hti]; rfl) (by decide) (h_tu33 C0 hX2 hTx hA hL hL2 hl hst hc hs kk)
    | 34, _, hti => exact lv_tableIn (off := 1185) (tgt := 1218) hx hb q_l33 (by rw [hti]; decide) (by rw [hti]; decide) (by rw [hti]; rfl) (by decide) (h_tu34 C0 hX2 hTx hA hL hL2 hl hst hc hs kk)
    | 35, _, hti => exact lv_tableIn (off := 1208) (tgt := 1241) hx hb q_l33 (by rw [hti]; decide) (by rw [hti]; decide) (by rw [hti]; rfl) (by decide) (h_tu35 C0 hX2 hTx hA hL hL2 hl hst hc hs kk)
    | 36, _, hti => exact lv_tableIn (off := 1221) (tgt := 1254) hx hb q_l33 (by rw [hti]; decide) (by rw [hti]; decide) (by rw [hti]; rfl) (by decide) (h_tu36 C0 hX2 hTx hA hL hL2 hl hst hc hs kk)
    | 37, _, hti => exact lv_tableIn (off := 1244) (tgt := 1277) hx hb q_l33 (by rw [hti]; decide) (by rw [hti]; decide) (by rw [hti]; rfl) (by decide) (h_tu37 C0 hX2 hTx hA hL hL2 hl hst hc hs kk)
    | 38, _, hti => exact lv_tableIn (off := 1303) (tgt := 1336) hx hb q_l33 (by rw [hti]; decide) (by rw [hti]; decide) (by rw [hti]; rfl) (by decide) (h_tu38 C0 hX2 hTx hA hL hL2 hl hst hc hs kk)
    | 39, _, hti => exact lv_tableIn (off := 1362) (tgt := 1395) hx hb q_l33 (by rw [hti]; decide) (by rw [hti]; decide) (by rw [hti]; rfl) (by decide) (h_tu39 C0 hX2 hTx hA hL hL2 hl hst hc hs kk)
    | 40, _, hti => exact lv_tableIn (off := 1385) (tgt := 1418) hx hb q_l33 (by rw [hti]; decide) (by rw [hti]; decide) (by rw [hti]; rfl) (by decide) (h_tu40 C0 hX2 hTx hA hL hL2 hl hst hc hs kk)
    | 41, _, hti => exact lv_tableIn (off := 1408) (tgt := 1441) hx hb q_l33 (by rw [hti]; decide) (by rw [hti]; decide) (by rw [hti]; rfl) (by decide) (h_tu41 C0 hX2 hTx hA hL hL2 hl hst hc hs kk)
    | 42, _, hti => exact lv_tableIn (off := 1431) (tgt := 1464) hx hb q_l33 (by rw [hti]; decide) (by rw [hti]; decide) (by rw [hti]; rfl) (by decide) (h_tu42 C0 hX2 hTx hA hL hL2 hl hst hc hs kk)
    | 43, _, hti => exact lv_tableIn (off := 1464) (tgt := 1497) hx hb q_l33 (by rw [hti]; decide) (by rw [hti]; decide) (by rw [hti]; rfl) (by decide) (h_tu43 C0 hX2 hTx hA hL hL2 hl hst hc hs kk)
    | 44, _, hti => exact lv_tableIn (off := 1497) (tgt := 1530) hx hb q_l33 (by rw [hti]; decide) (by rw [hti]; decide) (by rw [hti]; rfl) (by decide) (h_tu44 C0 hX2 hTx hA hL hL2 hl hst hc hs kk)
    | 45, _, hti => exact lv_tableIn (off := 1520) (tgt := 1553) hx hb q_l33 (by rw [hti]; decide) (by rw [hti]; decide) (by rw [hti]; rfl) (by decide) (h_tu45 C0 hX2 hTx hA hL hL2 hl hst hc hs kk)
    | 46, _, hti => exact lv_tableIn (off := 1543) (tgt := 1576) hx hb q_l33 (by rw [hti]; decide) (by rw [hti]; decide) (by rw [hti]; rfl) (by decide) (h_tu46 C0 hX2 hTx hA hL hL2 hl hst hc hs kk)
    | j + 47, h, _ => omega
  · exact lv_tableOut (tgt := 1599) hx hb q_l33 (Or.inr (by rw [hti]; omega)) (by decide) (kk H locs cells slots T (by omega) (by omega) hst)
end QL

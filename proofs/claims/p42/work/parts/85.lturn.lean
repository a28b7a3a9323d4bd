/-! ===== the law: its turns by their numbers ===== -/
def h_Want (pc : Nat) : Prop := ∀ {p : Program} {l : Launch} {e : Env} {s : State} {m : MethodId} {below : List Frame} {meth : Method} {c : Code} {b L : Nat} {xs : Nat → Int32} {H : Heap} {locs : List Loc} {cells slots : Nat} {Q : State → Prop} {ls : Array Slot} {D : va_G} {sa : Nat → Nat} {jx ax jm am T t : Nat}, lw_At p s m meth c b L xs → q_X s → z_Tx s.heap.size sa s → z_A0 l s.heap.size D sa → 6 * t + 6 ≤ L → L ≤ 3072 → lv_has ls 4 (h_lv b ax am t) → h_St D s jx ax jm am T H locs → cells + 18 ≤ 600000 → slots + 892 ≤ 7302250 → (∀ (H1 : Heap) (locs1 : List Loc) (cells1 slots1 T1 : Nat), cells1 ≤ cells + 18 → slots1 ≤ slots + 892 → h_St D s jx ax jm am T1 H1 locs1 → W p l e room_1 s m #[Value.ref b] below meth c H1 locs1 cells1 slots1 Q (F0 m 1599 ls [])) → W p l e room_1 s m #[Value.ref b] below meth c H locs cells slots Q (F0 m pc ls [])
theorem h_td0 : h_opd 236 5 13 17 = true := by decide +kernel
theorem h_tu0 : h_Want 236 := by
  intro p l e s m below meth c b L xs H locs cells slots Q ls D sa jx ax jm am T t C0 hX2 hTx hA hL hL2 hl hst hc hs kk
  exact h_lop (n := 5) C0 hX2 hTx hL hL2 hl (by decide) (fun ws ts hI hT => o_x_feed hA hI hT (xs (6 * t + 1)) (xs (6 * t + 2)) (xs (6 * t + 3)) (xs (6 * t + 4)) (xs (6 * t + 5))) (fun ws ts hI hT => o_m_feed hA hI hT (xs (6 * t + 1)) (xs (6 * t + 2)) (xs (6 * t + 3)) (xs (6 * t + 4)) (xs (6 * t + 5))) (by decide) (by decide) q_lk0_1 q_lk0_2 (by decide +kernel) h_td0 hst hc hs kk
theorem h_td1 : h_opd 299 1 18 22 = true := by decide +kernel
theorem h_tu1 : h_Want 299 := by
  intro p l e s m below meth c b L xs H locs cells slots Q ls D sa jx ax jm am T t C0 hX2 hTx hA hL hL2 hl hst hc hs kk
  exact h_lop (n := 1) C0 hX2 hTx hL hL2 hl (by decide) (fun ws ts hI hT => o_x_end hA hI hT (xs (6 * t + 1))) (fun ws ts hI hT => o_m_end hA hI hT (xs (6 * t + 1))) (by decide) (by decide) q_lk1_1 q_lk1_2 (by decide +kernel) h_td1 hst hc hs kk
theorem h_td2 : h_opd 322 0 23 27 = true := by decide +kernel
theorem h_tu2 : h_Want 322 := by
  intro p l e s m below meth c b L xs H locs cells slots Q ls D sa jx ax jm am T t C0 hX2 hTx hA hL hL2 hl hst hc hs kk
  exact h_lop (n := 0) C0 hX2 hTx hL hL2 hl (by decide) (fun ws ts hI hT => o_x_beach hA hI hT ) (fun ws ts hI hT => o_m_beach hA hI hT ) (by decide) (by decide) q_lk2_1 q_lk2_2 (by decide +kernel) h_td2 hst hc hs kk
theorem h_td3 : h_opd 335 1 28 31 = true := by decide +kernel
theorem h_tu3 : h_Want 335 := by
  intro p l e s m below meth c b L xs H locs cells slots Q ls D sa jx ax jm am T t C0 hX2 hTx hA hL hL2 hl hst hc hs kk
  exact h_lop (n := 1) C0 hX2 hTx hL hL2 hl (by decide) (fun ws ts hI hT => o_x_fault hA hI hT (xs (6 * t + 1))) (fun ws ts hI hT => o_m_fault hA hI hT (xs (6 * t + 1))) (by decide) (by decide) q_lk3_1 q_lk3_2 (by decide +kernel) h_td3 hst hc hs kk
theorem h_td4 : h_opd 358 2 32 36 = true := by decide +kernel
theorem h_tu4 : h_Want 358 := by
  intro p l e s m below meth c b L xs H locs cells slots Q ls D sa jx ax jm am T t C0 hX2 hTx hA hL hL2 hl hst hc hs kk
  exact h_lop (n := 2) C0 hX2 hTx hL hL2 hl (by decide) (fun ws ts hI hT => o_x_walker hA hI hT (xs (6 * t + 1)) (xs (6 * t + 2))) (fun ws ts hI hT => o_m_walker hA hI hT (xs (6 * t + 1)) (xs (6 * t + 2))) (by decide) (by decide) q_lk4_1 q_lk4_2 (by decide +kernel) h_td4 hst hc hs kk
theorem h_td5 : h_opd 391 2 37 40 = true := by decide +kernel
theorem h_tu5 : h_Want 391 := by
  intro p l e s m below meth c b L xs H locs cells slots Q ls D sa jx ax jm am T t C0 hX2 hTx hA hL hL2 hl hst hc hs kk
  exact h_lop (n := 2) C0 hX2 hTx hL hL2 hl (by decide) (fun ws ts hI hT => o_x_sand hA hI hT (xs (6 * t + 1)) (xs (6 * t + 2))) (fun ws ts hI hT => o_m_sand hA hI hT (xs (6 * t + 1)) (xs (6 * t + 2))) (by decide) (by decide) q_lk5_1 q_lk5_2 (by decide +kernel) h_td5 hst hc hs kk
theorem h_td6 : h_opd 424 2 41 44 = true := by decide +kernel
theorem h_tu6 : h_Want 424 := by
  intro p l e s m below meth c b L xs H locs cells slots Q ls D sa jx ax jm am T t C0 hX2 hTx hA hL hL2 hl hst hc hs kk
  exact h_lop (n := 2) C0 hX2 hTx hL hL2 hl (by decide) (fun ws ts hI hT => o_x_over hA hI hT (xs (6 * t + 1)) (xs (6 * t + 2))) (fun ws ts hI hT => o_m_over hA hI hT (xs (6 * t + 1)) (xs (6 * t + 2))) (by decide) (by decide) q_lk6_1 q_lk6_2 (by decide +kernel) h_td6 hst hc hs kk
theorem h_td7 : h_opd 457 2 45 48 = true := by decide +kernel
theorem h_tu7 : h_Want 457 := by
  intro p l e s m below meth c b L xs H locs cells slots Q ls D sa jx ax jm am T t C0 hX2 hTx hA hL hL2 hl hst hc hs kk
  exact h_lop (n := 2) C0 hX2 hTx hL hL2 hl (by decide) (fun ws ts hI hT => o_x_met hA hI hT (xs (6 * t + 1)) (xs (6 * t + 2))) (fun ws ts hI hT => o_m_met hA hI hT (xs (6 * t + 1)) (xs (6 * t + 2))) (by decide) (by decide) q_lk7_1 q_lk7_2 (by decide +kernel) h_td7 hst hc hs kk
theorem h_td8 : h_opd 490 0 49 52 = true := by decide +kernel
theorem h_tu8 : h_Want 490 := by
  intro p l e s m below meth c b L xs H locs cells slots Q ls D sa jx ax jm am T t C0 hX2 hTx hA hL hL2 hl hst hc hs kk
  exact h_lop (n := 0) C0 hX2 hTx hL hL2 hl (by decide) (fun ws ts hI hT => o_x_prints hA hI hT ) (fun ws ts hI hT => o_m_prints hA hI hT ) (by decide) (by decide) q_lk8_1 q_lk8_2 (by decide +kernel) h_td8 hst hc hs kk
theorem h_td9 : h_opd 503 2 53 56 = true := by decide +kernel
theorem h_tu9 : h_Want 503 := by
  intro p l e s m below meth c b L xs H locs cells slots Q ls D sa jx ax jm am T t C0 hX2 hTx hA hL hL2 hl hst hc hs kk
  exact h_lop (n := 2) C0 hX2 hTx hL hL2 hl (by decide) (fun ws ts hI hT => o_x_step hA hI hT (xs (6 * t + 1)) (xs (6 * t + 2))) (fun ws ts hI hT => o_m_step hA hI hT (xs (6 * t + 1)) (xs (6 * t + 2))) (by decide) (by decide) q_lk9_1 q_lk9_2 (by decide +kernel) h_td9 hst hc hs kk
theorem h_td10 : h_opd 536 0 57 60 = true := by decide +kernel
theorem h_tu10 : h_Want 536 := by
  intro p l e s m below meth c b L xs H locs cells slots Q ls D sa jx ax jm am T t C0 hX2 hTx hA hL hL2 hl hst hc hs kk
  exact h_lop (n := 0) C0 hX2 hTx hL hL2 hl (by decide) (fun ws ts hI hT => o_x_minute hA hI hT ) (fun ws ts hI hT => o_m_minute hA hI hT ) (by decide) (by decide) q_lk10_1 q_lk10_2 (by decide +kernel) h_td10 hst hc hs kk
theorem h_td11 : h_opd 549 0 61 64 = true := by decide +kernel
theorem h_tu11 : h_Want 549 := by
  intro p l e s m below meth c b L xs H locs cells slots Q ls D sa jx ax jm am T t C0 hX2 hTx hA hL hL2 hl hst hc hs kk
  exact h_lop (n := 0) C0 hX2 hTx hL hL2 hl (by decide) (fun ws ts hI hT => o_x_night hA hI hT ) (fun ws ts hI hT => o_m_night hA hI hT ) (by decide) (by decide) q_lk11_1 q_lk11_2 (by decide +kernel) h_td11 hst hc hs kk
theorem h_td12 : h_opd 562 0 65 69 = true := by decide +kernel
theorem h_tu12 : h_Want 562 := by
  intro p l e s m below meth c b L xs H locs cells slots Q ls D sa jx ax jm am T t C0 hX2 hTx hA hL hL2 hl hst hc hs kk
  exact h_lop (n := 0) C0 hX2 hTx hL hL2 hl (by decide) (fun ws ts hI hT => o_x_undo hA hI hT ) (fun ws ts hI hT => o_m_undo hA hI hT ) (by decide) (by decide) q_lk12_1 q_lk12_2 (by decide +kernel) h_td12 hst hc hs kk
theorem h_td13 : h_opd 575 0 70 73 = true := by decide +kernel
theorem h_tu13 : h_Want 575 := by
  intro p l e s m below meth c b L xs H locs cells slots Q ls D sa jx ax jm am T t C0 hX2 hTx hA hL hL2 hl hst hc hs kk
  exact h_lop (n := 0) C0 hX2 hTx hL hL2 hl (by decide) (fun ws ts hI hT => o_x_redo hA hI hT ) (fun ws ts hI hT => o_m_redo hA hI hT ) (by decide) (by decide) q_lk13_1 q_lk13_2 (by decide +kernel) h_td13 hst hc hs kk
theorem h_td14 : h_opd 588 2 74 77 = true := by decide +kernel
theorem h_tu14 : h_Want 588 := by
  intro p l e s m below meth c b L xs H locs cells slots Q ls D sa jx ax jm am T t C0 hX2 hTx hA hL hL2 hl hst hc hs kk
  exact h_lop (n := 2) C0 hX2 hTx hL hL2 hl (by decide) (fun ws ts hI hT => o_x_way hA hI hT (xs (6 * t + 1)) (xs (6 * t + 2))) (fun ws ts hI hT => o_m_way hA hI hT (xs (6 * t + 1)) (xs (6 * t + 2))) (by decide) (by decide) q_lk14_1 q_lk14_2 (by decide +kernel) h_td14 hst hc hs kk
theorem h_td15 : h_opd 621 2 78 81 = true := by decide +kernel
theorem h_tu15 : h_Want 621 := by
  intro p l e s m below meth c b L xs H locs cells slots Q ls D sa jx ax jm am T t C0 hX2 hTx hA hL hL2 hl hst hc hs kk
  exact h_lop (n := 2) C0 hX2 hTx hL hL2 hl (by decide) (fun ws ts hI hT => o_x_ways hA hI hT (xs (6 * t + 1)) (xs (6 * t + 2))) (fun ws ts hI hT => o_m_ways hA hI hT (xs (6 * t + 1)) (xs (6 * t + 2))) (by decide) (by decide) q_lk15_1 q_lk15_2 (by decide +kernel) h_td15 hst hc hs kk
theorem h_td16 : h_opd 654 3 82 86 = true := by decide +kernel
theorem h_tu16 : h_Want 654 := by
  intro p l e s m below meth c b L xs H locs cells slots Q ls D sa jx ax jm am T t C0 hX2 hTx hA hL hL2 hl hst hc hs kk
  exact h_lop (n := 3) C0 hX2 hTx hL hL2 hl (by decide) (fun ws ts hI hT => o_x_sly hA hI hT (xs (6 * t + 1)) (xs (6 * t + 2)) (xs (6 * t + 3))) (fun ws ts hI hT => o_m_sly hA hI hT (xs (6 * t + 1)) (xs (6 * t + 2)) (xs (6 * t + 3))) (by decide) (by decide) q_lk16_1 q_lk16_2 (by decide +kernel) h_td16 hst hc hs kk
theorem h_td17 : h_opd 697 2 87 90 = true := by decide +kernel
theorem h_tu17 : h_Want 697 := by
  intro p l e s m below meth c b L xs H locs cells slots Q ls D sa jx ax jm am T t C0 hX2 hTx hA hL hL2 hl hst hc hs kk
  exact h_lop (n := 2) C0 hX2 hTx hL hL2 hl (by decide) (fun ws ts hI hT => o_x_reach hA hI hT (xs (6 * t + 1)) (xs (6 * t + 2))) (fun ws ts hI hT => o_m_reach hA hI hT (xs (6 * t + 1)) (xs (6 * t + 2))) (by decide) (by decide) q_lk17_1 q_lk17_2 (by decide +kernel) h_td17 hst hc hs kk
theorem h_td18 : h_opd 730 0 91 94 = true := by decide +kernel
theorem h_tu18 : h_Want 730 := by
  intro p l e s m below meth c b L xs H locs cells slots Q ls D sa jx ax jm am T t C0 hX2 hTx hA hL hL2 hl hst hc hs kk
  exact h_lop (n := 0) C0 hX2 hTx hL hL2 hl (by decide) (fun ws ts hI hT => o_x_parts hA hI hT ) (fun ws ts hI hT => o_m_parts hA hI hT ) (by decide) (by decide) q_lk18_1 q_lk18_2 (by decide +kernel) h_td18 hst hc hs kk
theorem h_td19 : h_opd 743 3 95 98 = true := by decide +kernel
theorem h_tu19 : h_Want 743 := by
  intro p l e s m below meth c b L xs H locs cells slots Q ls D sa jx ax jm am T t C0 hX2 hTx hA hL hL2 hl hst hc hs kk
  exact h_lop (n := 3) C0 hX2 hTx hL hL2 hl (by decide) (fun ws ts hI hT => o_x_join hA hI hT (xs (6 * t + 1)) (xs (6 * t + 2)) (xs (6 * t + 3))) (fun ws ts hI hT => o_m_join hA hI hT (xs (6 * t + 1)) (xs (6 * t + 2)) (xs (6 * t + 3))) (by decide) (by decide) q_lk19_1 q_lk19_2 (by decide +kernel) h_td19 hst hc hs kk
theorem h_td20 : h_opd 786 2 99 102 = true := by decide +kernel
theorem h_tu20 : h_Want 786 := by
  intro p l e s m below meth c b L xs H locs cells slots Q ls D sa jx ax jm am T t C0 hX2 hTx hA hL hL2 hl hst hc hs kk
  exact h_lop (n := 2) C0 hX2 hTx hL hL2 hl (by decide) (fun ws ts hI hT => o_x_rounds hA hI hT (xs (6 * t + 1)) (xs (6 * t + 2))) (fun ws ts hI hT => o_m_rounds hA hI hT (xs (6 * t + 1)) (xs (6 * t + 2))) (by decide) (by decide) q_lk20_1 q_lk20_2 (by decide +kernel) h_td20 hst hc hs kk
theorem h_td21 : h_opd 819 3 103 106 = true := by decide +kernel
theorem h_tu21 : h_Want 819 := by
  intro p l e s m below meth c b L xs H locs cells slots Q ls D sa jx ax jm am T t C0 hX2 hTx hA hL hL2 hl hst hc hs kk
  exact h_lop (n := 3) C0 hX2 hTx hL hL2 hl (by decide) (fun ws ts hI hT => o_x_guard hA hI hT (xs (6 * t + 1)) (xs (6 * t + 2)) (xs (6 * t + 3))) (fun ws ts hI hT => o_m_guard hA hI hT (xs (6 * t + 1)) (xs (6 * t + 2)) (xs (6 * t + 3))) (by decide) (by decide) q_lk21_1 q_lk21_2 (by decide +kernel) h_td21 hst hc hs kk
theorem h_td22 : h_opd 862 1 107 110 = true := by decide +kernel
theorem h_tu22 : h_Want 862 := by
  intro p l e s m below meth c b L xs H locs cells slots Q ls D sa jx ax jm am T t C0 hX2 hTx hA hL hL2 hl hst hc hs kk
  exact h_lop (n := 1) C0 hX2 hTx hL hL2 hl (by decide) (fun ws ts hI hT => o_x_trail hA hI hT (xs (6 * t + 1))) (fun ws ts hI hT => o_m_trail hA hI hT (xs (6 * t + 1))) (by decide) (by decide) q_lk22_1 q_lk22_2 (by decide +kernel) h_td22 hst hc hs kk
theorem h_td23 : h_opd 885 2 111 114 = true := by decide +kernel
theorem h_tu23 : h_Want 885 := by
  intro p l e s m below meth c b L xs H locs cells slots Q ls D sa jx ax jm am T t C0 hX2 hTx hA hL hL2 hl hst hc hs kk
  exact h_lop (n := 2) C0 hX2 hTx hL hL2 hl (by decide) (fun ws ts hI hT => o_x_ghost hA hI hT (xs (6 * t + 1)) (xs (6 * t + 2))) (fun ws ts hI hT => o_m_ghost hA hI hT (xs (6 * t + 1)) (xs (6 * t + 2))) (by decide) (by decide) q_lk23_1 q_lk23_2 (by decide +kernel) h_td23 hst hc hs kk
theorem h_td24 : h_opd 918 2 115 118 = true := by decide +kernel
theorem h_tu24 : h_Want 918 := by
  intro p l e s m below meth c b L xs H locs cells slots Q ls D sa jx ax jm am T t C0 hX2 hTx hA hL hL2 hl hst hc hs kk
  exact h_lop (n := 2) C0 hX2 hTx hL hL2 hl (by decide) (fun ws ts hI hT => o_x_first hA hI hT (xs (6 * t + 1)) (xs (6 * t + 2))) (fun ws ts hI hT => o_m_first hA hI hT (xs (6 * t + 1)) (xs (6 * t + 2))) (by decide) (by decide) q_lk24_1 q_lk24_2 (by decide +kernel) h_td24 hst hc hs kk
theorem h_td25 : h_opd 951 1 119 122 = true := by decide +kernel
theorem h_tu25 : h_Want 951 := by
  intro p l e s m below meth c b L xs H locs cells slots Q ls D sa jx ax jm am T t C0 hX2 hTx hA hL hL2 hl hst hc hs kk
  exact h_lop (n := 1) C0 hX2 hTx hL hL2 hl (by decide) (fun ws ts hI hT => o_x_alone hA hI hT (xs (6 * t + 1))) (fun ws ts hI hT => o_m_alone hA hI hT (xs (6 * t + 1))) (by decide) (by decide) q_lk25_1 q_lk25_2 (by decide +kernel) h_td25 hst hc hs kk
theorem h_td26 : h_opd 974 1 123 126 = true := by decide +kernel
theorem h_tu26 : h_Want 974 := by
  intro p l e s m below meth c b L xs H locs cells slots Q ls D sa jx ax jm am T t C0 hX2 hTx hA hL hL2 hl hst hc hs kk
  exact h_lop (n := 1) C0 hX2 hTx hL hL2 hl (by decide) (fun ws ts hI hT => o_x_crowd hA hI hT (xs (6 * t + 1))) (fun ws ts hI hT => o_m_crowd hA hI hT (xs (6 * t + 1))) (by decide) (by decide) q_lk26_1 q_lk26_2 (by decide +kernel) h_td26 hst hc hs kk
theorem h_td27 : h_opd 997 2 127 130 = true := by decide +kernel
theorem h_tu27 : h_Want 997 := by
  intro p l e s m below meth c b L xs H locs cells slots Q ls D sa jx ax jm am T t C0 hX2 hTx hA hL hL2 hl hst hc hs kk
  exact h_lop (n := 2) C0 hX2 hTx hL hL2 hl (by decide) (fun ws ts hI hT => o_x_remains hA hI hT (xs (6 * t + 1)) (xs (6 * t + 2))) (fun ws ts hI hT => o_m_remains hA hI hT (xs (6 * t + 1)) (xs (6 * t + 2))) (by decide) (by decide) q_lk27_1 q_lk27_2 (by decide +kernel) h_td27 hst hc hs kk
theorem h_td28 : h_opd 1030 2 131 134 = true := by decide +kernel
theorem h_tu28 : h_Want 1030 := by
  intro p l e s m below meth c b L xs H locs cells slots Q ls D sa jx ax jm am T t C0 hX2 hTx hA hL hL2 hl hst hc hs kk
  exact h_lop (n := 2) C0 hX2 hTx hL hL2 hl (by decide) (fun ws ts hI hT => o_x_cover hA hI hT (xs (6 * t + 1)) (xs (6 * t + 2))) (fun ws ts hI hT => o_m_cover hA hI hT (xs (6 * t + 1)) (xs (6 * t + 2))) (by decide) (by decide) q_lk28_1 q_lk28_2 (by decide +kernel) h_td28 hst hc hs kk
theorem h_td29 : h_opd 1063 0 135 138 = true := by decide +kernel
theorem h_tu29 : h_Want 1063 := by
  intro p l e s m below meth c b L xs H locs cells slots Q ls D sa jx ax jm am T t C0 hX2 hTx hA hL hL2 hl hst hc hs kk
  exact h_lop (n := 0) C0 hX2 hTx hL hL2 hl (by decide) (fun ws ts hI hT => o_x_orders hA hI hT ) (fun ws ts hI hT => o_m_orders hA hI hT ) (by decide) (by decide) q_lk29_1 q_lk29_2 (by decide +kernel) h_td29 hst hc hs kk
theorem h_td30 : h_opd 1076 1 139 142 = true := by decide +kernel
theorem h_tu30 : h_Want 1076 := by
  intro p l e s m below meth c b L xs H locs cells slots Q ls D sa jx ax jm am T t C0 hX2 hTx hA hL hL2 hl hst hc hs kk
  exact h_lop (n := 1) C0 hX2 hTx hL hL2 hl (by decide) (fun ws ts hI hT => o_x_may hA hI hT (xs (6 * t + 1))) (fun ws ts hI hT => o_m_may hA hI hT (xs (6 * t + 1))) (by decide) (by decide) q_lk30_1 q_lk30_2 (by decide +kernel) h_td30 hst hc hs kk
theorem h_td31 : h_opd 1099 4 143 147 = true := by decide +kernel
theorem h_tu31 : h_Want 1099 := by
  intro p l e s m below meth c b L xs H locs cells slots Q ls D sa jx ax jm am T t C0 hX2 hTx hA hL hL2 hl hst hc hs kk
  exact h_lop (n := 4) C0 hX2 hTx hL hL2 hl (by decide) (fun ws ts hI hT => o_x_matched hA hI hT (xs (6 * t + 1)) (xs (6 * t + 2)) (xs (6 * t + 3)) (xs (6 * t + 4))) (fun ws ts hI hT => o_m_matched hA hI hT (xs (6 * t + 1)) (xs (6 * t + 2)) (xs (6 * t + 3)) (xs (6 * t + 4))) (by decide) (by decide) q_lk31_1 q_lk31_2 (by decide +kernel) h_td31 hst hc hs kk
theorem h_td32 : h_opd 1152 2 148 151 = true := by decide +kernel
theorem h_tu32 : h_Want 1152 := by
  intro p l e s m below meth c b L xs H locs cells slots Q ls D sa jx ax jm am T t C0 hX2 hTx hA hL hL2 hl hst hc hs kk
  exact h_lop (n := 2) C0 hX2 hTx hL hL2 hl (by decide) (fun ws ts hI hT => o_x_catches hA hI hT (xs (6 * t + 1)) (xs (6 * t + 2))) (fun ws ts hI hT => o_m_catches hA hI hT (xs (6 * t + 1)) (xs (6 * t + 2))) (by decide) (by decide) q_lk32_1 q_lk32_2 (by decide +kernel) h_td32 hst hc hs kk
theorem h_td33 : h_opd 1185 2 152 155 = true := by decide +kernel
theorem h_tu33 : h_Want 1185 := by
  intro p l e s m below meth c b L xs H locs cells slots Q ls D sa jx ax jm am T t C0 hX2 hTx hA hL hL2 hl hst hc hs kk
  exact h_lop (n := 2) C0 hX2 hTx hL hL2 hl (by decide) (fun ws ts hI hT => o_x_lasts hA hI hT (xs (6 * t + 1)) (xs (6 * t + 2))) (fun ws ts hI hT => o_m_lasts hA hI hT (xs (6 * t + 1)) (xs (6 * t + 2))) (by decide) (by decide) q_lk33_1 q_lk33_2 (by decide +kernel) h_td33 hst hc hs kk
theorem h_td34 : h_opd 1218 1 156 159 = true := by decide +kernel
theorem h_tu34 : h_Want 1218 := by
  intro p l e s m below meth c b L xs H locs cells slots Q ls D sa jx ax jm am T t C0 hX2 hTx hA hL hL2 hl hst hc hs kk
  exact h_lop (n := 1) C0 hX2 hTx hL hL2 hl (by decide) (fun ws ts hI hT => o_x_tides hA hI hT (xs (6 * t + 1))) (fun ws ts hI hT => o_m_tides hA hI hT (xs (6 * t + 1))) (by decide) (by decide) q_lk34_1 q_lk34_2 (by decide +kernel) h_td34 hst hc hs kk
theorem h_td35 : h_opd 1241 0 160 163 = true := by decide +kernel
theorem h_tu35 : h_Want 1241 := by
  intro p l e s m below meth c b L xs H locs cells slots Q ls D sa jx ax jm am T t C0 hX2 hTx hA hL hL2 hl hst hc hs kk
  exact h_lop (n := 0) C0 hX2 hTx hL hL2 hl (by decide) (fun ws ts hI hT => o_x_boldest hA hI hT ) (fun ws ts hI hT => o_m_boldest hA hI hT ) (by decide) (by decide) q_lk35_1 q_lk35_2 (by decide +kernel) h_td35 hst hc hs kk
theorem h_td36 : h_opd 1254 1 164 167 = true := by decide +kernel
theorem h_tu36 : h_Want 1254 := by
  intro p l e s m below meth c b L xs H locs cells slots Q ls D sa jx ax jm am T t C0 hX2 hTx hA hL hL2 hl hst hc hs kk
  exact h_lop (n := 1) C0 hX2 hTx hL hL2 hl (by decide) (fun ws ts hI hT => o_x_lies hA hI hT (xs (6 * t + 1))) (fun ws ts hI hT => o_m_lies hA hI hT (xs (6 * t + 1))) (by decide) (by decide) q_lk36_1 q_lk36_2 (by decide +kernel) h_td36 hst hc hs kk
theorem h_td37 : h_opb 1277 168 172 = true := by decide +kernel
theorem h_tu37 : h_Want 1277 := by
  intro p l e s m below meth c b L xs H locs cells slots Q ls D sa jx ax jm am T t C0 hX2 hTx hA hL hL2 hl hst hc hs kk
  exact h_lopb C0 hX2 hTx hL hL2 hl (fun bv hb ws ts hI hT => o_x_seen hA hI hT (xs (6 * t + 1)) (xs (6 * t + 2)) bv hb) (fun bv hb ws ts hI hT => o_m_seen hA hI hT (xs (6 * t + 1)) (xs (6 * t + 2)) bv hb) (by decide) (by decide) q_lk37_1 q_lk37_2 (by decide +kernel) h_td37 hst hc hs kk
theorem h_td38 : h_opb 1336 173 176 = true := by decide +kernel
theorem h_tu38 : h_Want 1336 := by
  intro p l e s m below meth c b L xs H locs cells slots Q ls D sa jx ax jm am T t C0 hX2 hTx hA hL hL2 hl hst hc hs kk
  exact h_lopb C0 hX2 hTx hL hL2 hl (fun bv hb ws ts hI hT => o_x_inRow hA hI hT (xs (6 * t + 1)) (xs (6 * t + 2)) bv hb) (fun bv hb ws ts hI hT => o_m_inRow hA hI hT (xs (6 * t + 1)) (xs (6 * t + 2)) bv hb) (by decide) (by decide) q_lk38_1 q_lk38_2 (by decide +kernel) h_td38 hst hc hs kk
theorem h_td39 : h_opd 1395 1 177 181 = true := by decide +kernel
theorem h_tu39 : h_Want 1395 := by
  intro p l e s m below meth c b L xs H locs cells slots Q ls D sa jx ax jm am T t C0 hX2 hTx hA hL hL2 hl hst hc hs kk
  exact h_lop (n := 1) C0 hX2 hTx hL hL2 hl (by decide) (fun ws ts hI hT => o_x_untell hA hI hT (xs (6 * t + 1))) (fun ws ts hI hT => o_m_untell hA hI hT (xs (6 * t + 1))) (by decide) (by decide) q_lk39_1 q_lk39_2 (by decide +kernel) h_td39 hst hc hs kk
theorem h_tu40 : h_Want 1418 := by
  intro p l e s m below meth c b L xs H locs cells slots Q ls D sa jx ax jm am T t C0 hX2 hTx hA hL hL2 hl hst hc hs kk
  exact h_llat C0 hX2 hTx hA hL hL2 hl hst hc hs kk
theorem h_td41 : h_opd 1441 1 186 189 = true := by decide +kernel
theorem h_tu41 : h_Want 1441 := by
  intro p l e s m below meth c b L xs H locs cells slots Q ls D sa jx ax jm am T t C0 hX2 hTx hA hL hL2 hl hst hc hs kk
  exact h_lop (n := 1) C0 hX2 hTx hL hL2 hl (by decide) (fun ws ts hI hT => o_x_paths hA hI hT (xs (6 * t + 1))) (fun ws ts hI hT => o_m_paths hA hI hT (xs (6 * t + 1))) (by decide) (by decide) q_lk41_1 q_lk41_2 (by decide +kernel) h_td41 hst hc hs kk
theorem h_td42 : h_opd 1464 2 190 193 = true := by decide +kernel
theorem h_tu42 : h_Want 1464 := by
  intro p l e s m below meth c b L xs H locs cells slots Q ls D sa jx ax jm am T t C0 hX2 hTx hA hL hL2 hl hst hc hs kk
  exact h_lop (n := 2) C0 hX2 hTx hL hL2 hl (by decide) (fun ws ts hI hT => o_x_sure hA hI hT (xs (6 * t + 1)) (xs (6 * t + 2))) (fun ws ts hI hT => o_m_sure hA hI hT (xs (6 * t + 1)) (xs (6 * t + 2))) (by decide) (by decide) q_lk42_1 q_lk42_2 (by decide +kernel) h_td42 hst hc hs kk
theorem h_td43 : h_opd 1497 2 194 197 = true := by decide +kernel
theorem h_tu43 : h_Want 1497 := by
  intro p l e s m below meth c b L xs H locs cells slots Q ls D sa jx ax jm am T t C0 hX2 hTx hA hL hL2 hl hst hc hs kk
  exact h_lop (n := 2) C0 hX2 hTx hL hL2 hl (by decide) (fun ws ts hI hT => o_x_ask hA hI hT (xs (6 * t + 1)) (xs (6 * t + 2))) (fun ws ts hI hT => o_m_ask hA hI hT (xs (6 * t + 1)) (xs (6 * t + 2))) (by decide) (by decide) q_lk43_1 q_lk43_2 (by decide +kernel) h_td43 hst hc hs kk
theorem h_td44 : h_opd 1530 1 198 201 = true := by decide +kernel
theorem h_tu44 : h_Want 1530 := by
  intro p l e s m below meth c b L xs H locs cells slots Q ls D sa jx ax jm am T t C0 hX2 hTx hA hL hL2 hl hst hc hs kk
  exact h_lop (n := 1) C0 hX2 hTx hL hL2 hl (by decide) (fun ws ts hI hT => o_x_image hA hI hT (xs (6 * t + 1))) (fun ws ts hI hT => o_m_image hA hI hT (xs (6 * t + 1))) (by decide) (by decide) q_lk44_1 q_lk44_2 (by decide +kernel) h_td44 hst hc hs kk
theorem h_td45 : h_opd 1553 1 202 205 = true := by decide +kernel
theorem h_tu45 : h_Want 1553 := by
  intro p l e s m below meth c b L xs H locs cells slots Q ls D sa jx ax jm am T t C0 hX2 hTx hA hL hL2 hl hst hc hs kk
  exact h_lop (n := 1) C0 hX2 hTx hL hL2 hl (by decide) (fun ws ts hI hT => o_x_back hA hI hT (xs (6 * t + 1))) (fun ws ts hI hT => o_m_back hA hI hT (xs (6 * t + 1))) (by decide) (by decide) q_lk45_1 q_lk45_2 (by decide +kernel) h_td45 hst hc hs kk
theorem h_td46 : h_opd 1576 1 206 209 = true := by decide +kernel
theorem h_tu46 : h_Want 1576 := by
  intro p l e s m below meth c b L xs H locs cells slots Q ls D sa jx ax jm am T t C0 hX2 hTx hA hL hL2 hl hst hc hs kk
  exact h_lop (n := 1) C0 hX2 hTx hL hL2 hl (by decide) (fun ws ts hI hT => o_x_about hA hI hT (xs (6 * t + 1))) (fun ws ts hI hT => o_m_about hA hI hT (xs (6 * t + 1))) (by decide) (by decide) q_lk46_1 q_lk46_2 (by decide +kernel) h_td46 hst hc hs kk

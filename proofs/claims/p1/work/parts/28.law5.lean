/-! ===== the law: from its entry to its end ===== -/
theorem q_l0 : decode code 0 = .ok (.new 7, 3) := by decide +kernel
theorem q_l3 : decode code 3 = .ok (.dup, 1) := by decide +kernel
theorem q_l4 : decode code 4 = .ok (.invokespecial 9, 3) := by decide +kernel
theorem q_l7 : decode code 7 = .ok (.astore_n 1, 1) := by decide +kernel
theorem q_l8 : decode code 8 = .ok (.new 10, 3) := by decide +kernel
theorem q_l11 : decode code 11 = .ok (.dup, 1) := by decide +kernel
theorem q_l12 : decode code 12 = .ok (.invokespecial 12, 3) := by decide +kernel
theorem q_l15 : decode code 15 = .ok (.astore_n 2, 1) := by decide +kernel
theorem q_l16 : decode code 16 = .ok (.iconst 0, 1) := by decide +kernel
theorem q_l17 : decode code 17 = .ok (.istore_n 3, 1) := by decide +kernel
theorem q_l27 : decode code 27 = .ok (.aload_n 0, 1) := by decide +kernel
theorem q_l28 : decode code 28 = .ok (.iload_n 3, 1) := by decide +kernel
theorem q_l29 : decode code 29 = .ok (.iaload, 1) := by decide +kernel
theorem q_l30 : decode code 30 = .ok (.bipush 63, 2) := by decide +kernel
theorem q_l32 : decode code 32 = .ok (.iand, 1) := by decide +kernel
theorem q_l33 : decode code 33 = .ok (.tableswitch 1566 0 46 #[203, 266, 289, 302, 325, 358, 391, 424, 457, 470, 503, 516, 529, 542, 555, 588, 621, 664, 697, 710, 753, 786, 829, 852, 885, 918, 941, 964, 997, 1030, 1043, 1066, 1119, 1152, 1185, 1208, 1221, 1244, 1303, 1362, 1385, 1408, 1431, 1464, 1497, 1520, 1543], 203) := by decide +kernel
def q_loffs : Array Int := #[203, 266, 289, 302, 325, 358, 391, 424, 457, 470, 503, 516, 529, 542, 555, 588, 621, 664, 697, 710, 753, 786, 829, 852, 885, 918, 941, 964, 997, 1030, 1043, 1066, 1119, 1152, 1185, 1208, 1221, 1244, 1303, 1362, 1385, 1408, 1431, 1464, 1497, 1520, 1543]
section QL
variable {p : Program} {l : Launch} {e : Env} {s : State} {m : MethodId} {below : List Frame} {meth : Method} {c : Code} {b L : Nat} {xs : Nat → Int32} {H : Heap} {locs : List Loc} {cells slots : Nat} {ls : Array Slot} {D : va_G} {ws : va_W} {tys : List (ClassId × FieldType)} {ax am : Nat}
/-- what is wanting of a call, at its place in the law -/
def q_Want (pc : Nat) : Prop := ∀ {p : Program} {l : Launch} {e : Env} {s : State} {m : MethodId} {below : List Frame} {meth : Method} {c : Code} {b : Nat} {xs : Nat → Int32} {H : Heap} {locs : List Loc} {cells slots : Nat} {ls : Array Slot} {D : va_G} {ws : va_W} {tys : List (ClassId × FieldType)} {ax am : Nat}, lw_At p s m meth c b 6 xs → q_X s → q_W xs q_h0 ws tys → va_P D q_cls ws H → va_K D q_cls tys s → va_D (q_A s.heap.size) ws → va_S (q_A s.heap.size) s.heap H locs → (q_ad ws)[0]? = some ax → (q_ad ws)[48]? = some am → lv_has ls 4 (q_lv b ax am) → cells ≤ 96 → slots ≤ q_ss q_h0 → W p l e room_1 s m #[Value.ref b] below meth c H locs cells slots (lw_Z below #[Value.ref b] s) (F0 m pc ls [])
theorem q_w_feed : q_Want 236 := fun C0 hX2 hw hP hK hD hS hax ham hl hcl hsl => q_lop (mem := []) C0 hX2 (fun _ h => by cases h) (by decide) (q_op_feed _) (by decide) (by decide) q_lk0_1 q_lk0_2 q_ln0 q_ld0 hw hP hK hD hS hax ham hl hcl hsl (fun H1 locs1 c1 s1 g1 g2 g3 => q_lend (by decide) C0 g3 hl g1 g2)
theorem q_w_end : q_Want 299 := fun C0 hX2 hw hP hK hD hS hax ham hl hcl hsl => q_lop (mem := []) C0 hX2 (fun _ h => by cases h) (by decide) (q_op_end _) (by decide) (by decide) q_lk1_1 q_lk1_2 q_ln1 q_ld1 hw hP hK hD hS hax ham hl hcl hsl (fun H1 locs1 c1 s1 g1 g2 g3 => q_lend (by decide) C0 g3 hl g1 g2)
theorem q_w_beach : q_Want 322 := fun C0 hX2 hw hP hK hD hS hax ham hl hcl hsl => q_lop (mem := []) C0 hX2 (fun _ h => by cases h) (by decide) (q_op_beach _) (by decide) (by decide) q_lk2_1 q_lk2_2 q_ln2 q_ld2 hw hP hK hD hS hax ham hl hcl hsl (fun H1 locs1 c1 s1 g1 g2 g3 => q_lend (by decide) C0 g3 hl g1 g2)
theorem q_w_fault : q_Want 335 := fun C0 hX2 hw hP hK hD hS hax ham hl hcl hsl => q_lop (mem := []) C0 hX2 (fun _ h => by cases h) (by decide) (q_op_fault _) (by decide) (by decide) q_lk3_1 q_lk3_2 q_ln3 q_ld3 hw hP hK hD hS hax ham hl hcl hsl (fun H1 locs1 c1 s1 g1 g2 g3 => q_lend (by decide) C0 g3 hl g1 g2)
theorem q_w_walker : q_Want 358 := fun C0 hX2 hw hP hK hD hS hax ham hl hcl hsl => q_lop (mem := []) C0 hX2 (fun _ h => by cases h) (by decide) (q_op_walker _) (by decide) (by decide) q_lk4_1 q_lk4_2 q_ln4 q_ld4 hw hP hK hD hS hax ham hl hcl hsl (fun H1 locs1 c1 s1 g1 g2 g3 => q_lend (by decide) C0 g3 hl g1 g2)
theorem q_w_sand : q_Want 391 := fun C0 hX2 hw hP hK hD hS hax ham hl hcl hsl => q_lop (mem := []) C0 hX2 (fun _ h => by cases h) (by decide) (q_op_sand _) (by decide) (by decide) q_lk5_1 q_lk5_2 q_ln5 q_ld5 hw hP hK hD hS hax ham hl hcl hsl (fun H1 locs1 c1 s1 g1 g2 g3 => q_lend (by decide) C0 g3 hl g1 g2)
theorem q_w_over : q_Want 424 := fun C0 hX2 hw hP hK hD hS hax ham hl hcl hsl => q_lop (mem := []) C0 hX2 (fun _ h => by cases h) (by decide) (q_op_over _) (by decide) (by decide) q_lk6_1 q_lk6_2 q_ln6 q_ld6 hw hP hK hD hS hax ham hl hcl hsl (fun H1 locs1 c1 s1 g1 g2 g3 => q_lend (by decide) C0 g3 hl g1 g2)
theorem q_w_met : q_Want 457 := fun C0 hX2 hw hP hK hD hS hax ham hl hcl hsl => q_lop (mem := []) C0 hX2 (fun _ h => by cases h) (by decide) (q_op_met _) (by decide) (by decide) q_lk7_1 q_lk7_2 q_ln7 q_ld7 hw hP hK hD hS hax ham hl hcl hsl (fun H1 locs1 c1 s1 g1 g2 g3 => q_lend (by decide) C0 g3 hl g1 g2)
theorem q_w_prints : q_Want 490 := fun C0 hX2 hw hP hK hD hS hax ham hl hcl hsl => q_lop (mem := []) C0 hX2 (fun _ h => by cases h) (by decide) (q_op_prints _) (by decide) (by decide) q_lk8_1 q_lk8_2 q_ln8 q_ld8 hw hP hK hD hS hax ham hl hcl hsl (fun H1 locs1 c1 s1 g1 g2 g3 => q_lend (by decide) C0 g3 hl g1 g2)
theorem q_w_step : q_Want 503 := fun C0 hX2 hw hP hK hD hS hax ham hl hcl hsl => q_lop (mem := []) C0 hX2 (fun _ h => by cases h) (by decide) (q_op_step _) (by decide) (by decide) q_lk9_1 q_lk9_2 q_ln9 q_ld9 hw hP hK hD hS hax ham hl hcl hsl (fun H1 locs1 c1 s1 g1 g2 g3 => q_lend (by decide) C0 g3 hl g1 g2)
theorem q_w_minute : q_Want 536 := fun C0 hX2 hw hP hK hD hS hax ham hl hcl hsl => q_lop (mem := []) C0 hX2 (fun _ h => by cases h) (by decide) (q_op_minute _) (by decide) (by decide) q_lk10_1 q_lk10_2 q_ln10 q_ld10 hw hP hK hD hS hax ham hl hcl hsl (fun H1 locs1 c1 s1 g1 g2 g3 => q_lend (by decide) C0 g3 hl g1 g2)
theorem q_w_night : q_Want 549 := fun C0 hX2 hw hP hK hD hS hax ham hl hcl hsl => q_lop (mem := []) C0 hX2 (fun _ h => by cases h) (by decide) (q_op_night _) (by decide) (by decide) q_lk11_1 q_lk11_2 q_ln11 q_ld11 hw hP hK hD hS hax ham hl hcl hsl (fun H1 locs1 c1 s1 g1 g2 g3 => q_lend (by decide) C0 g3 hl g1 g2)
theorem q_w_undo : q_Want 562 := fun C0 hX2 hw hP hK hD hS hax ham hl hcl hsl => q_lop (mem := []) C0 hX2 (fun _ h => by cases h) (by decide) (q_op_undo _) (by decide) (by decide) q_lk12_1 q_lk12_2 q_ln12 q_ld12 hw hP hK hD hS hax ham hl hcl hsl (fun H1 locs1 c1 s1 g1 g2 g3 => q_lend (by decide) C0 g3 hl g1 g2)
theorem q_w_redo : q_Want 575 := fun C0 hX2 hw hP hK hD hS hax ham hl hcl hsl => q_lop (mem := []) C0 hX2 (fun _ h => by cases h) (by decide) (q_op_redo _) (by decide) (by decide) q_lk13_1 q_lk13_2 q_ln13 q_ld13 hw hP hK hD hS hax ham hl hcl hsl (fun H1 locs1 c1 s1 g1 g2 g3 => q_lend (by decide) C0 g3 hl g1 g2)
theorem q_w_way : q_Want 588 := fun C0 hX2 hw hP hK hD hS hax ham hl hcl hsl => q_lop (mem := []) C0 hX2 (fun _ h => by cases h) (by decide) (q_op_way _) (by decide) (by decide) q_lk14_1 q_lk14_2 q_ln14 q_ld14 hw hP hK hD hS hax ham hl hcl hsl (fun H1 locs1 c1 s1 g1 g2 g3 => q_lend (by decide) C0 g3 hl g1 g2)
theorem q_w_ways : q_Want 621 := fun C0 hX2 hw hP hK hD hS hax ham hl hcl hsl => q_lop (mem := []) C0 hX2 (fun _ h => by cases h) (by decide) (q_op_ways _) (by decide) (by decide) q_lk15_1 q_lk15_2 q_ln15 q_ld15 hw hP hK hD hS hax ham hl hcl hsl (fun H1 locs1 c1 s1 g1 g2 g3 => q_lend (by decide) C0 g3 hl g1 g2)
theorem q_w_sly : q_Want 654 := fun C0 hX2 hw hP hK hD hS hax ham hl hcl hsl => q_lop (mem := []) C0 hX2 (fun _ h => by cases h) (by decide) (q_op_sly _) (by decide) (by decide) q_lk16_1 q_lk16_2 q_ln16 q_ld16 hw hP hK hD hS hax ham hl hcl hsl (fun H1 locs1 c1 s1 g1 g2 g3 => q_lend (by decide) C0 g3 hl g1 g2)
theorem q_w_reach : q_Want 697 := fun C0 hX2 hw hP hK hD hS hax ham hl hcl hsl => q_lop (mem := []) C0 hX2 (fun _ h => by cases h) (by decide) (q_op_reach _) (by decide) (by decide) q_lk17_1 q_lk17_2 q_ln17 q_ld17 hw hP hK hD hS hax ham hl hcl hsl (fun H1 locs1 c1 s1 g1 g2 g3 => q_lend (by decide) C0 g3 hl g1 g2)
theorem q_w_parts : q_Want 730 := fun C0 hX2 hw hP hK hD hS hax ham hl hcl hsl => q_lop (mem := []) C0 hX2 (fun _ h => by cases h) (by decide) (q_op_parts _) (by decide) (by decide) q_lk18_1 q_lk18_2 q_ln18 q_ld18 hw hP hK hD hS hax ham hl hcl hsl (fun H1 locs1 c1 s1 g1 g2 g3 => q_lend (by decide) C0 g3 hl g1 g2)
theorem q_w_join : q_Want 743 := fun C0 hX2 hw hP hK hD hS hax ham hl hcl hsl => q_lop (mem := []) C0 hX2 (fun _ h => by cases h) (by decide) (q_op_join _) (by decide) (by decide) q_lk19_1 q_lk19_2 q_ln19 q_ld19 hw hP hK hD hS hax ham hl hcl hsl (fun H1 locs1 c1 s1 g1 g2 g3 => q_lend (by decide) C0 g3 hl g1 g2)
theorem q_w_rounds : q_Want 786 := fun C0 hX2 hw hP hK hD hS hax ham hl hcl hsl => q_lop (mem := []) C0 hX2 (fun _ h => by cases h) (by decide) (q_op_rounds _) (by decide) (by decide) q_lk20_1 q_lk20_2 q_ln20 q_ld20 hw hP hK hD hS hax ham hl hcl hsl (fun H1 locs1 c1 s1 g1 g2 g3 => q_lend (by decide) C0 g3 hl g1 g2)
theorem q_w_trail : q_Want 862 := fun C0 hX2 hw hP hK hD hS hax ham hl hcl hsl => q_lop (mem := []) C0 hX2 (fun _ h => by cases h) (by decide) (q_op_trail _) (by decide) (by decide) q_lk22_1 q_lk22_2 q_ln22 q_ld22 hw hP hK hD hS hax ham hl hcl hsl (fun H1 locs1 c1 s1 g1 g2 g3 => q_lend (by decide) C0 g3 hl g1 g2)
theorem q_w_ghost : q_Want 885 := fun C0 hX2 hw hP hK hD hS hax ham hl hcl hsl => q_lop (mem := []) C0 hX2 (fun _ h => by cases h) (by decide) (q_op_ghost _) (by decide) (by decide) q_lk23_1 q_lk23_2 q_ln23 q_ld23 hw hP hK hD hS hax ham hl hcl hsl (fun H1 locs1 c1 s1 g1 g2 g3 => q_lend (by decide) C0 g3 hl g1 g2)
theorem q_w_first : q_Want 918 := fun C0 hX2 hw hP hK hD hS hax ham hl hcl hsl => q_lop (mem := []) C0 hX2 (fun _ h => by cases h) (by decide) (q_op_first _) (by decide) (by decide) q_lk24_1 q_lk24_2 q_ln24 q_ld24 hw hP hK hD hS hax ham hl hcl hsl (fun H1 locs1 c1 s1 g1 g2 g3 => q_lend (by decide) C0 g3 hl g1 g2)
theorem q_w_alone : q_Want 951 := fun C0 hX2 hw hP hK hD hS hax ham hl hcl hsl => q_lop (mem := []) C0 hX2 (fun _ h => by cases h) (by decide) (q_op_alone _) (by decide) (by decide) q_lk25_1 q_lk25_2 q_ln25 q_ld25 hw hP hK hD hS hax ham hl hcl hsl (fun H1 locs1 c1 s1 g1 g2 g3 => q_lend (by decide) C0 g3 hl g1 g2)
theorem q_w_crowd : q_Want 974 := fun C0 hX2 hw hP hK hD hS hax ham hl hcl hsl => q_lop (mem := []) C0 hX2 (fun _ h => by cases h) (by decide) (q_op_crowd _) (by decide) (by decide) q_lk26_1 q_lk26_2 q_ln26 q_ld26 hw hP hK hD hS hax ham hl hcl hsl (fun H1 locs1 c1 s1 g1 g2 g3 => q_lend (by decide) C0 g3 hl g1 g2)
theorem q_w_remains : q_Want 997 := fun C0 hX2 hw hP hK hD hS hax ham hl hcl hsl => q_lop (mem := []) C0 hX2 (fun _ h => by cases h) (by decide) (q_op_remains _) (by decide) (by decide) q_lk27_1 q_lk27_2 q_ln27 q_ld27 hw hP hK hD hS hax ham hl hcl hsl (fun H1 locs1 c1 s1 g1 g2 g3 => q_lend (by decide) C0 g3 hl g1 g2)
theorem q_w_cover : q_Want 1030 := fun C0 hX2 hw hP hK hD hS hax ham hl hcl hsl => q_lop (mem := []) C0 hX2 (fun _ h => by cases h) (by decide) (q_op_cover _) (by decide) (by decide) q_lk28_1 q_lk28_2 q_ln28 q_ld28 hw hP hK hD hS hax ham hl hcl hsl (fun H1 locs1 c1 s1 g1 g2 g3 => q_lend (by decide) C0 g3 hl g1 g2)
theorem q_w_orders : q_Want 1063 := fun C0 hX2 hw hP hK hD hS hax ham hl hcl hsl => q_lop (mem := []) C0 hX2 (fun _ h => by cases h) (by decide) (q_op_orders _) (by decide) (by decide) q_lk29_1 q_lk29_2 q_ln29 q_ld29 hw hP hK hD hS hax ham hl hcl hsl (fun H1 locs1 c1 s1 g1 g2 g3 => q_lend (by decide) C0 g3 hl g1 g2)
theorem q_w_may : q_Want 1076 := fun C0 hX2 hw hP hK hD hS hax ham hl hcl hsl => q_lop (mem := []) C0 hX2 (fun _ h => by cases h) (by decide) (q_op_may _) (by decide) (by decide) q_lk30_1 q_lk30_2 q_ln30 q_ld30 hw hP hK hD hS hax ham hl hcl hsl (fun H1 locs1 c1 s1 g1 g2 g3 => q_lend (by decide) C0 g3 hl g1 g2)
theorem q_w_matched : q_Want 1099 := fun C0 hX2 hw hP hK hD hS hax ham hl hcl hsl => q_lop (mem := []) C0 hX2 (fun _ h => by cases h) (by decide) (q_op_matched _) (by decide) (by decide) q_lk31_1 q_lk31_2 q_ln31 q_ld31 hw hP hK hD hS hax ham hl hcl hsl (fun H1 locs1 c1 s1 g1 g2 g3 => q_lend (by decide) C0 g3 hl g1 g2)
theorem q_w_catches : q_Want 1152 := fun C0 hX2 hw hP hK hD hS hax ham hl hcl hsl => q_lop (mem := []) C0 hX2 (fun _ h => by cases h) (by decide) (q_op_catches _) (by decide) (by decide) q_lk32_1 q_lk32_2 q_ln32 q_ld32 hw hP hK hD hS hax ham hl hcl hsl (fun H1 locs1 c1 s1 g1 g2 g3 => q_lend (by decide) C0 g3 hl g1 g2)
theorem q_w_lasts : q_Want 1185 := fun C0 hX2 hw hP hK hD hS hax ham hl hcl hsl => q_lop (mem := []) C0 hX2 (fun _ h => by cases h) (by decide) (q_op_lasts _) (by decide) (by decide) q_lk33_1 q_lk33_2 q_ln33 q_ld33 hw hP hK hD hS hax ham hl hcl hsl (fun H1 locs1 c1 s1 g1 g2 g3 => q_lend (by decide) C0 g3 hl g1 g2)
theorem q_w_tides : q_Want 1218 := fun C0 hX2 hw hP hK hD hS hax ham hl hcl hsl => q_lop (mem := []) C0 hX2 (fun _ h => by cases h) (by decide) (q_op_tides _) (by decide) (by decide) q_lk34_1 q_lk34_2 q_ln34 q_ld34 hw hP hK hD hS hax ham hl hcl hsl (fun H1 locs1 c1 s1 g1 g2 g3 => q_lend (by decide) C0 g3 hl g1 g2)
theorem q_w_boldest : q_Want 1241 := fun C0 hX2 hw hP hK hD hS hax ham hl hcl hsl => q_lop (mem := []) C0 hX2 (fun _ h => by cases h) (by decide) (q_op_boldest _) (by decide) (by decide) q_lk35_1 q_lk35_2 q_ln35 q_ld35 hw hP hK hD hS hax ham hl hcl hsl (fun H1 locs1 c1 s1 g1 g2 g3 => q_lend (by decide) C0 g3 hl g1 g2)
theorem q_w_lies : q_Want 1254 := fun C0 hX2 hw hP hK hD hS hax ham hl hcl hsl => q_lop (mem := []) C0 hX2 (fun _ h => by cases h) (by decide) (q_op_lies _) (by decide) (by decide) q_lk36_1 q_lk36_2 q_ln36 q_ld36 hw hP hK hD hS hax ham hl hcl hsl (fun H1 locs1 c1 s1 g1 g2 g3 => q_lend (by decide) C0 g3 hl g1 g2)
theorem q_w_untell : q_Want 1395 := fun C0 hX2 hw hP hK hD hS hax ham hl hcl hsl => q_lop (mem := []) C0 hX2 (fun _ h => by cases h) (by decide) (q_op_untell _) (by decide) (by decide) q_lk39_1 q_lk39_2 q_ln39 q_ld39 hw hP hK hD hS hax ham hl hcl hsl (fun H1 locs1 c1 s1 g1 g2 g3 => q_lend (by decide) C0 g3 hl g1 g2)
theorem q_w_later : q_Want 1418 := fun C0 hX2 hw hP hK hD hS hax ham hl hcl hsl => q_lop (mem := []) C0 hX2 (fun _ h => by cases h) (by decide) (q_op_later _) (by decide) (by decide) q_lk40_1 q_lk40_2 q_ln40 q_ld40 hw hP hK hD hS hax ham hl hcl hsl (fun H1 locs1 c1 s1 g1 g2 g3 => q_lend (by decide) C0 g3 hl g1 g2)
theorem q_w_paths : q_Want 1441 := fun C0 hX2 hw hP hK hD hS hax ham hl hcl hsl => q_lop (mem := q_mm) C0 hX2 (q_mm_ok _ _ _ _) (by decide) (q_op_paths _) (by decide) (by decide) q_lk41_1 q_lk41_2 q_ln41 q_ld41 hw hP hK hD hS hax ham hl hcl hsl (fun H1 locs1 c1 s1 g1 g2 g3 => q_lend (by decide) C0 g3 hl g1 g2)
theorem q_w_sure : q_Want 1464 := fun C0 hX2 hw hP hK hD hS hax ham hl hcl hsl => q_lop (mem := q_mm) C0 hX2 (q_mm_ok _ _ _ _) (by decide) (q_op_sure _) (by decide) (by decide) q_lk42_1 q_lk42_2 q_ln42 q_ld42 hw hP hK hD hS hax ham hl hcl hsl (fun H1 locs1 c1 s1 g1 g2 g3 => q_lend (by decide) C0 g3 hl g1 g2)
theorem q_w_ask : q_Want 1497 := fun C0 hX2 hw hP hK hD hS hax ham hl hcl hsl => q_lop (mem := q_mm) C0 hX2 (q_mm_ok _ _ _ _) (by decide) (q_op_ask _) (by decide) (by decide) q_lk43_1 q_lk43_2 q_ln43 q_ld43 hw hP hK hD hS hax ham hl hcl hsl (fun H1 locs1 c1 s1 g1 g2 g3 => q_lend (by decide) C0 g3 hl g1 g2)
theorem q_w_image : q_Want 1530 := fun C0 hX2 hw hP hK hD hS hax ham hl hcl hsl => q_lop (mem := []) C0 hX2 (fun _ h => by cases h) (by decide) (q_op_image _) (by decide) (by decide) q_lk44_1 q_lk44_2 q_ln44 q_ld44 hw hP hK hD hS hax ham hl hcl hsl (fun H1 locs1 c1 s1 g1 g2 g3 => q_lend (by decide) C0 g3 hl g1 g2)
theorem q_w_back : q_Want 1553 := fun C0 hX2 hw hP hK hD hS hax ham hl hcl hsl => q_lop (mem := []) C0 hX2 (fun _ h => by cases h) (by decide) (q_op_back _) (by decide) (by decide) q_lk45_1 q_lk45_2 q_ln45 q_ld45 hw hP hK hD hS hax ham hl hcl hsl (fun H1 locs1 c1 s1 g1 g2 g3 => q_lend (by decide) C0 g3 hl g1 g2)
theorem q_w_about : q_Want 1576 := fun C0 hX2 hw hP hK hD hS hax ham hl hcl hsl => q_lop (mem := []) C0 hX2 (fun _ h => by cases h) (by decide) (q_op_about _) (by decide) (by decide) q_lk46_1 q_lk46_2 q_ln46 q_ld46 hw hP hK hD hS hax ham hl hcl hsl (fun H1 locs1 c1 s1 g1 g2 g3 => q_lend (by decide) C0 g3 hl g1 g2)
theorem q_disp (hgd : q_Want 819) (hse : q_Want 1277) (hir : q_Want 1336) (C0 : lw_At p s m meth c b 6 xs) (hX2 : q_X s) (hw : q_W xs q_h0 ws tys) (hP : va_P D q_cls ws H) (hK : va_K D q_cls tys s) (hD : va_D (q_A s.heap.size) ws) (hS : va_S (q_A s.heap.size) s.heap H locs) (hax : (q_ad ws)[0]? = some ax) (ham : (q_ad ws)[48]? = some am) (hl : lv_has ls 4 (q_lv b ax am)) (hcl : cells ≤ 96) (hsl : slots ≤ q_ss q_h0) : W p l e room_1 s m #[Value.ref b] below meth c H locs cells slots (lw_Z below #[Value.ref b] s) (F0 m 27 ls []) := by
  obtain ⟨hx, hb, hr, hml, hown, hts, hX, hbl, hlocks, hgv⟩ := id C0
  have hbA : ¬ q_A s.heap.size b := Nat.not_le.mpr hbl
  refine lv_aload_n hx hb q_l27 rfl (lv_at hl 3 rfl) ?_
  refine lv_iload_n hx hb q_l28 rfl (lv_at hl 0 rfl) ?_
  refine va_sld hx hb hX hbl hbA hS (by unfold vp_in; decide) q_l29 ?_
  refine lv_bipush (v := 63) hx hb q_l30 (by decide) ?_
  refine lv_iand hx hb q_l32 ?_
  obtain ⟨j, hj, ej⟩ := pk_andE (xs (0 : Int32).toNatClampNeg) (m := 63) 6 (by decide)
  rw [ej]
  have hj : j < 64 := hj
  have hti : (nI j).toInt = (j : Int) := nI_toInt (by omega)
  by_cases h47 : j < 47
  · match j, h47, hti with
    | 0, _, hti => exact lv_tableIn (off := 203) (tgt := 236) hx hb q_l33 (by rw [hti]; decide) (by rw [hti]; decide) (by rw [hti]; rfl) (by decide) (q_w_feed C0 hX2 hw hP hK hD hS hax ham hl hcl hsl)
    | 1, _, hti => exact lv_tableIn (off := 266) (tgt := 299) hx hb q_l33 (by rw [hti]; decide) (by rw [hti]; decide) (by rw [hti]; rfl) (by decide) (q_w_end C0 hX2 hw hP hK hD hS hax ham hl hcl hsl)
    | 2, _, hti => exact lv_tableIn (off := 289) (tgt := 322) hx hb q_l33 (by rw [hti]; decide) (by rw [hti]; decide) (by rw [hti]; rfl) (by decide) (q_w_beach C0 hX2 hw hP hK hD hS hax ham hl hcl hsl)
    | 3, _, hti => exact lv_tableIn (off := 302) (tgt := 335) hx hb q_l33 (by rw [hti]; decide) (by rw [hti]; decide) (by rw [hti]; rfl) (by decide) (q_w_fault C0 hX2 hw hP hK hD hS hax ham hl hcl hsl)
    | 4, _, hti => exact lv_tableIn (off := 325) (tgt := 358) hx hb q_l33 (by rw [hti]; decide) (by rw [hti]; decide) (by rw [hti]; rfl) (by decide) (q_w_walker C0 hX2 hw hP hK hD hS hax ham hl hcl hsl)
    | 5, _, hti => exact lv_tableIn (off := 358) (tgt := 391) hx hb q_l33 (by rw [hti]; decide) (by rw [hti]; decide) (by rw [hti]; rfl) (by decide) (q_w_sand C0 hX2 hw hP hK hD hS hax ham hl hcl hsl)
    | 6, _, hti => exact lv_tableIn (off := 391) (tgt := 424) hx hb q_l33 (by rw [hti]; decide) (by rw [hti]; decide) (by rw [hti]; rfl) (by decide) (q_w_over C0 hX2 hw hP hK hD hS hax ham hl hcl hsl)
    | 7, _, hti => exact lv_tableIn (off := 424) (tgt := 457) hx hb q_l33 (by rw [hti]; decide) (by rw [hti]; decide) (by rw [hti]; rfl) (by decide) (q_w_met C0 hX2 hw hP hK hD hS hax ham hl hcl hsl)
    | 8, _, hti => exact lv_tableIn (off := 457) (tgt := 490) hx hb q_l33 (by rw [hti]; decide) (by rw [hti]; decide) (by rw [hti]; rfl) (by decide) (q_w_prints C0 hX2 hw hP hK hD hS hax ham hl hcl hsl)
    | 9, _, hti => exact lv_tableIn (off := 470) (tgt := 503) hx hb q_l33 (by rw [hti]; decide) (by rw [hti]; decide) (by rw [hti]; rfl) (by decide) (q_w_step C0 hX2 hw hP hK hD hS hax ham hl hcl hsl)
    | 10, _, hti => exact lv_tableIn (off := 503) (tgt := 536) hx hb q_l33 (by rw [hti]; decide) (by rw [hti]; decide) (by rw [hti]; rfl) (by decide) (q_w_minute C0 hX2 hw hP hK hD hS hax ham hl hcl hsl)
    | 11, _, hti => exact lv_tableIn (off := 516) (tgt := 549) hx hb q_l33 (by rw [hti]; decide) (by rw [hti]; decide) (by rw [hti]; rfl) (by decide) (q_w_night C0 hX2 hw hP hK hD hS hax ham hl hcl hsl)
    | 12, _, hti => exact lv_tableIn (off := 529) (tgt := 562) hx hb q_l33 (by rw [hti]; decide) (by rw [hti]; decide) (by rw [hti]; rfl) (by decide) (q_w_undo C0 hX2 hw hP hK hD hS hax ham hl hcl hsl)
    | 13, _, hti => exact lv_tableIn (off := 542) (tgt := 575) hx hb q_l33 (by rw [hti]; decide) (by rw [hti]; decide) (by rw [hti]; rfl) (by decide) (q_w_redo C0 hX2 hw hP hK hD hS hax ham hl hcl hsl)
    | 14, _, hti => exact lv_tableIn (off := 555) (tgt := 588) hx hb q_l33 (by rw [hti]; decide) (by rw [hti]; decide) (by rw [hti]; rfl) (by decide) (q_w_way C0 hX2 hw hP hK hD hS hax ham hl hcl hsl)
    | 15, _, hti => exact lv_tableIn (off := 588) (tgt := 621) hx hb q_l33 (by rw [hti]; decide) (by rw [hti]; decide) (by rw [hti]; rfl) (by decide) (q_w_ways C0 hX2 hw hP hK hD hS hax ham hl hcl hsl)
    | 16, _, hti => exact lv_tableIn (off := 621) (tgt := 654) hx hb q_l33 (by rw [hti]; decide) (by rw [hti]; decide) (by rw [hti]; rfl) (by decide) (q_w_sly C0 hX2 hw hP hK hD hS hax ham hl hcl hsl)
    | 17, _, hti => exact lv_tableIn (off := 664) (tgt := 697) hx hb q_l33 (by rw [hti]; decide) (by rw [hti]; decide) (by rw [hti]; rfl) (by decide) (q_w_reach C0 hX2 hw hP hK hD hS hax ham hl hcl hsl)
    | 18, _, hti => exact lv_tableIn (off := 697) (tgt := 730) hx hb q_l33 (by rw [hti]; decide) (by rw [hti]; decide) (by rw [hti]; rfl) (by decide) (q_w_parts C0 hX2 hw hP hK hD hS hax ham hl hcl hsl)
    | 19, _, hti => exact lv_tableIn (off := 710) (tgt := 743) hx hb q_l33 (by rw [hti]; decide) (by rw [hti]; decide) (by rw [hti]; rfl) (by decide) (q_w_join C0 hX2 hw hP hK hD hS hax ham hl hcl hsl)
    | 20, _, hti => exact lv_tableIn (off := 753) (tgt := 786) hx hb q_l33 (by rw [hti]; decide) (by rw [hti]; decide) (by rw [hti]; rfl) (by decide) (q_w_rounds C0 hX2 hw hP hK hD hS hax ham hl hcl hsl)
    | 21, _, hti => exact lv_tableIn (off := 786) (tgt := 819) hx hb q_l33 (by rw [hti]; decide) (by rw [hti]; decide) (by rw [hti]; rfl) (by decide) (hgd C0 hX2 hw hP hK hD hS hax ham hl hcl hsl)
    | 22, _, hti => exact lv_tableIn (off := 829) (tgt := 862) hx hb q_l33 (by rw [hti]; decide) (by rw [hti]; decide) (by rw [hti]; rfl) (by decide) (q_w_trail C0 hX2 hw hP hK hD hS hax ham hl hcl hsl)
    | 23, _, hti => exact lv_tableIn (off := 852) (tgt := 885) hx hb q_l33 (by rw [hti]; decide) (by rw [hti]; decide) (by rw [hti]; rfl) (by decide) (q_w_ghost C0 hX2 hw hP hK hD hS hax ham hl hcl hsl)
    | 24, _, hti => exact lv_tableIn (off := 885) (tgt := 918) hx hb q_l33 (by rw [hti]; decide) (by rw [hti]; decide) (by rw [hti]; rfl) (by decide) (q_w_first C0 hX2 hw hP hK hD hS hax ham hl hcl hsl)
    | 25, _, hti => exact lv_tableIn (off := 918) (tgt := 951) hx hb q_l33 (by rw [hti]; decide) (by rw [hti]; decide) (by rw [hti]; rfl) (by decide) (q_w_alone C0 hX2 hw hP hK hD hS hax ham hl hcl hsl)
    | 26, _, hti => exact lv_tableIn (off := 941) (tgt := 974) hx hb q_l33 (by rw [hti]; decide) (by rw [hti]; decide) (by rw [hti]; rfl) (by decide) (q_w_crowd C0 hX2 hw hP hK hD hS hax ham hl hcl hsl)
    | 27, _, hti => exact lv_tableIn (off := 964) (tgt := 997) hx hb q_l33 (by rw [hti]; decide) (by rw [hti]; decide) (by rw [hti]; rfl) (by decide) (q_w_remains C0 hX2 hw hP hK hD hS hax ham hl hcl hsl)
    | 28, _, hti => exact lv_tableIn (off := 997) (tgt := 1030) hx hb q_l33 (by rw [hti]; decide) (by rw [hti]; decide) (by rw [hti]; rfl) (by decide) (q_w_cover C0 hX2 hw hP hK hD hS hax ham hl hcl hsl)
    | 29, _, hti => exact lv_tableIn (off := 1030) (tgt := 1063) hx hb q_l33 (by rw [hti]; decide) (by rw [hti]; decide) (by rw [hti]; rfl) (by decide) (q_w_orders C0 hX2 hw hP hK hD hS hax ham hl hcl hsl)
    | 30, _, hti => exact lv_tableIn (off := 1043) (tgt := 1076) hx hb q_l33 (by rw [hti]; decide) (by rw [hti]; decide) (by rw [hti]; rfl) (by decide) (q_w_may C0 hX2 hw hP hK hD hS hax ham hl hcl hsl)
    | 31, _, hti => exact lv_tableIn (off := 1066) (tgt := 1099) hx hb q_l33 (by rw [hti]; decide) (by rw [hti]; decide) (by rw [hti]; rfl) (by decide) (q_w_matched C0 hX2 hw hP hK hD hS hax ham hl hcl hsl)
    | 32, _, hti => exact lv_tableIn (off := 1119) (tgt := 1152) hx hb q_l33 (by rw [hti]; decide) (by rw [hti]; decide) (by rw [hti]; rfl) (by decide) (q_w_catches C0 hX2 hw hP hK hD hS hax ham hl hcl hsl)
    | 33, _, hti => exact lv_tableIn (off := 1152) (tgt := 1185) hx hb q_l33 (by rw [hti]; decide) (by rw [hti]; decide) (by rw [hti]; rfl) (by decide) (q_w_lasts C0 hX2 hw hP hK hD hS hax ham hl hcl hsl)
    | 34, _, hti => exact lv_tableIn (off := 1185) (tgt := 1218) hx hb q_l33 (by rw [hti]; decide) (by rw [hti]; decide) (by rw [hti]; rfl) (by decide) (q_w_tides C0 hX2 hw hP hK hD hS hax ham hl hcl hsl)
    | 35, _, hti => exact lv_tableIn (off := 1208) (tgt := 1241) hx hb q_l33 (by rw [hti]; decide) (by rw [hti]; decide) (by rw [hti]; rfl) (by decide) (q_w_boldest C0 hX2 hw hP hK hD hS hax ham hl hcl hsl)
    | 36, _, hti => exact lv_tableIn (off := 1221) (tgt := 1254) hx hb q_l33 (by rw [hti]; decide) (by rw [hti]; decide) (by rw [hti]; rfl) (by decide) (q_w_lies C0 hX2 hw hP hK hD hS hax ham hl hcl hsl)
    | 37, _, hti => exact lv_tableIn (off := 1244) (tgt := 1277) hx hb q_l33 (by rw [hti]; decide) (by rw [hti]; decide) (by rw [hti]; rfl) (by decide) (hse C0 hX2 hw hP hK hD hS hax ham hl hcl hsl)
    | 38, _, hti => exact lv_tableIn (off := 1303) (tgt := 1336) hx hb q_l33 (by rw [hti]; decide) (by rw [hti]; decide) (by rw [hti]; rfl) (by decide) (hir C0 hX2 hw hP hK hD hS hax ham hl hcl hsl)
    | 39, _, hti => exact lv_tableIn (off := 1362) (tgt := 1395) hx hb q_l33 (by rw [hti]; decide) (by rw [hti]; decide) (by rw [hti]; rfl) (by decide) (q_w_untell C0 hX2 hw hP hK hD hS hax ham hl hcl hsl)
    | 40, _, hti => exact lv_tableIn (off := 1385) (tgt := 1418) hx hb q_l33 (by rw [hti]; decide) (by rw [hti]; decide) (by rw [hti]; rfl) (by decide) (q_w_later C0 hX2 hw hP hK hD hS hax ham hl hcl hsl)
    | 41, _, hti => exact lv_tableIn (off := 1408) (tgt := 1441) hx hb q_l33 (by rw [hti]; decide) (by rw [hti]; decide) (by rw [hti]; rfl) (by decide) (q_w_paths C0 hX2 hw hP hK hD hS hax ham hl hcl hsl)
    | 42, _, hti => exact lv_tableIn (off := 1431) (tgt := 1464) hx hb q_l33 (by rw [hti]; decide) (by rw [hti]; decide) (by rw [hti]; rfl) (by decide) (q_w_sure C0 hX2 hw hP hK hD hS hax ham hl hcl hsl)
    | 43, _, hti => exact lv_tableIn (off := 1464) (tgt := 1497) hx hb q_l33 (by rw [hti]; decide) (by rw [hti]; decide) (by rw [hti]; rfl) (by decide) (q_w_ask C0 hX2 hw hP hK hD hS hax ham hl hcl hsl)
    | 44, _, hti => exact lv_tableIn (off := 1497) (tgt := 1530) hx hb q_l33 (by rw [hti]; decide) (by rw [hti]; decide) (by rw [hti]; rfl) (by decide) (q_w_image C0 hX2 hw hP hK hD hS hax ham hl hcl hsl)
    | 45, _, hti => exact lv_tableIn (off := 1520) (tgt := 1553) hx hb q_l33 (by rw [hti]; decide) (by rw [hti]; decide) (by rw [hti]; rfl) (by decide) (q_w_back C0 hX2 hw hP hK hD hS hax ham hl hcl hsl)
    | 46, _, hti => exact lv_tableIn (off := 1543) (tgt := 1576) hx hb q_l33 (by rw [hti]; decide) (by rw [hti]; decide) (by rw [hti]; rfl) (by decide) (q_w_about C0 hX2 hw hP hK hD hS hax ham hl hcl hsl)
    | j + 47, h47, _ => exact absurd h47 (by omega)
  · refine lv_tableOut (tgt := 1599) hx hb q_l33 (Or.inr (by rw [hti]; omega)) (by decide) ?_
    have h9 := q_ble.mp q_ss0
    exact q_lend (by decide) C0 hS hl (by omega) (by omega)
end QL
theorem q_nw8 : (List.range 13).all (fun j => q_dty (q_get 165263992822838127011520101476365533990958003119408780295153525348467128199814721919524786597280374918354787070027054972944 j) ((q_fty.getD 8 (fun _ => .int)) j)) = true := by decide +kernel
theorem q_nw9 : (List.range 68).all (fun j => q_dty (q_get 239491434563211890252992722105392965914312078631707389704412883997161724585205463546731491148438548193856838917593535008507686209967532851508270625372621471181888193497512907994324275531115291559622476854312328477595496395113082247077472685213504499248459584515703507985560623505134779001130283966856765700386734955878952700038568856408901145442679275670230350836108454486767366357268378213666976380388826548630233452908179583786529743961749644829984835095015407642376948955190068681559488717265601371257243308227144492848230576532681874302258245444313904858362418368155486253506175539162545858412346653954351896859645517440459166552053145728621544205676157808878898863635878780767202365182836752 j) ((q_fty.getD 9 (fun _ => .int)) j)) = true := by decide +kernel
theorem q_nums : q_hw0.1 = 1 ∧ q_hx.1 = 48 ∧ q_h0.1 = 96 ∧ q_ss q_hw0 = 13 := by decide +kernel
theorem q_W0 (xs : Nat → Int32) : q_W xs (0, q_t0 7) [] [] := ⟨rfl, by decide, fun k hk => absurd hk (Nat.not_lt_zero k)⟩
theorem q_vpV {F : Nat → FieldType} {n : Nat} : ∀ j, j < n → defaultValue (F j) = vp_V ((List.range n).map (fun j => defaultValue (F j))) j := by
  intro j hj
  unfold vp_V
  rw [List.getD_eq_getElem?_getD, List.getElem?_map, List.getElem?_range hj]
  rfl
set_option maxHeartbeats 4000000 in
theorem q_start (hgd : q_Want 819) (hse : q_Want 1277) (hir : q_Want 1336) {p : Program} {e : Env} {s : State} {m : MethodId} {below : List Frame} {meth : Method} {c : Code} (l : Launch) {b L : Nat} {xs : Nat → Int32} (hL : L ≤ 6) (C0 : lw_At p s m meth c b L xs) : W p l e room_1 s m #[Value.ref b] below meth c s.heap [] 0 0 (lw_Z below #[Value.ref b] s) (entryFrame m ([Value.ref b] : List Value).toArray 4) := by
  obtain ⟨hx, hb, hr, hml, hown, hts, hX, hbl, hlocks, hgv⟩ := id C0
  have hX2 := q_X_of hts
  obtain ⟨D, hK⟩ := q_dis hts
  have hsub : ∀ w ∈ q_w0, w.before #[Value.ref b] s = true := fun w hw => hts w (List.mem_filter.mp hw).1
  have hA : ∀ q : Nat, s.heap.size ≤ q → q_A s.heap.size q := fun _ h => h
  have hS : va_S (q_A s.heap.size) s.heap s.heap [] := va_S.rf
  have hP : va_P D q_cls [] s.heap := fun k q h => by simp at h
  have hD : va_D (q_A s.heap.size) [] := ⟨fun i j p q h => by simp at h, fun k q h => by simp at h⟩
  have hl := lv_entry ([.ref b]) (n := 4) (Nat.le_of_ble_eq_true rfl)
  rw [lg_entry_eq]
  generalize (lg_sl ([.ref b]) ++ List.replicate (4 - (lg_sl ([.ref b])).length) Slot.unset).toArray = ls at hl ⊢
  have hl : lv_has ls 4 [(0, .ref b)] := hl
  obtain ⟨z1, z2, z3, z4⟩ := q_nums
  have z5 := q_ble.mp q_ss0
  have c8 := q_clok_ok 8 _ (q_cls_at 8 (by decide))
  have c9 := q_clok_ok 9 _ (q_cls_at 9 (by decide))
  have w8 := q_cw 8 (by decide)
  have w9 := q_cw 9 (by decide)
  have hMx := q_all (l := l) (base := s.heap.size) (D := D) (mem := []) (q_full xs) q_clok_ok q_okm q_ho1 q_ho2 (fun _ h => by cases h) 10000 10 142 [4294967328] q_hw0 q_hx [] (by decide) (by decide) (by decide) (q_is_ok q_cx)
  have hMy := q_all (l := l) (base := s.heap.size) (D := D) (mem := []) (q_full xs) q_clok_ok q_okm q_ho1 q_ho2 (fun _ h => by cases h) 10000 10 148 [4294967376] q_hy q_h0 [] (by decide) (by decide) (by decide) (q_is_ok q_cy)
  have mx := hMx.1
  have my := hMy.1
  have hsy : q_ss q_hy = q_ss q_hx + 68 := q_ss_nw q_hx 18 68 _ (by omega)
  have hy1 : q_hy.1 = q_hx.1 + 1 := rfl
  refine va_new (D := D) (ci := 8) (C := "SandNights") (T := q_F8) (N := 13) hx hb hts (fun w hw => (List.mem_filter.mp (c8.1 w hw)).1) _ c8.2.1 hown (hts _ q_lcx) (hsub _ (q_wat_ok w8.1)) (hsub _ (q_wat_ok w8.2)) hK hP hD hS hA rfl q_vpV (by decide) (by decide) q_l0 (fun q0 H hP hD hS => ?_)
  have hw : q_W xs q_hw0 _ [] := (q_W0 xs).push (a := q0) (e := .inr (8, (List.range 13).map (fun j => defaultValue ((q_fty.getD 8 (fun _ => .int)) j)))) List.prefix_rfl (by decide) (q_newc xs _ _ 8 13 _ q_nw8)
  refine lv_dup hx hb q_l3 rfl ?_
  refine q_linit (k := 0) C0 hX2 (by decide) hMx q_lkx (by decide) (by decide) (by omega) hw hP hK hD hS rfl hl.1 (by simp [Value.category]) q_l4 (by omega) (by omega) (fun ws tys H locs g1 hw hP hK hD hS => ?_)
  refine lv_astore_n (lv' := [(1, .ref q0), (0, .ref b)]) hx hb q_l7 rfl hl (by decide) rfl (fun ls hl => ?_)
  have ha0 : (q_ad ws)[0]? = some q0 := q_at_mono g1 rfl
  refine va_new (D := D) (ci := 9) (C := "SandNightsModel") (T := q_F9) (N := 68) hx hb hts (fun w hw => (List.mem_filter.mp (c9.1 w hw)).1) _ c9.2.1 hown (hts _ q_lcy) (hsub _ (q_wat_ok w9.1)) (hsub _ (q_wat_ok w9.2)) hK hP hD hS hA rfl q_vpV (by show 0 + 1 + (q_hx.1 - q_hw0.1) + 1 ≤ 600000; omega) (by show 0 + 13 + (q_ss q_hx - q_ss q_hw0) + 68 ≤ 7302250; omega) q_l8 (fun q1 H hP hD hS => ?_)
  have hpre : q_ad ws <+: q_ad (ws ++ [(q1, .inr (9, (List.range 68).map (fun j => defaultValue ((q_fty.getD 9 (fun _ => .int)) j))))]) := by rw [q_ad_app]; exact List.prefix_append _ _
  have hlen : ws.length = 48 := by rw [hw.1]; exact z2
  have hw : q_W xs q_hy _ tys := hw.push (a := q1) (e := .inr (9, (List.range 68).map (fun j => defaultValue ((q_fty.getD 9 (fun _ => .int)) j)))) List.prefix_rfl (by omega) (q_newc xs _ _ 9 68 _ q_nw9)
  refine lv_dup hx hb q_l11 rfl ?_
  have ha48 : (q_ad (ws ++ [(q1, .inr (9, (List.range 68).map (fun j => defaultValue ((q_fty.getD 9 (fun _ => .int)) j))))]))[48]? = some q1 := by rw [← hlen]; exact q_adl
  refine q_linit (k := 48) C0 hX2 (by decide) hMy q_lky (by decide) (by decide) (by omega) hw hP hK hD hS ha48 hl.1 (by simp [Value.category]) q_l12 (by omega) (by omega) (fun ws2 tys2 H locs g2 hw hP hK hD hS => ?_)
  refine lv_astore_n (lv' := [(2, .ref q1), (1, .ref q0), (0, .ref b)]) hx hb q_l15 rfl hl (by decide) rfl (fun ls hl => ?_)
  refine lv_iconst (v := 0) hx hb q_l16 (by decide) ?_
  refine lv_istore_n (lv' := q_lv b q0 q1) hx hb q_l17 rfl hl (by decide) rfl (fun ls hl => ?_)
  have hax := q_at_mono g2 (q_at_mono hpre ha0)
  have ham := q_at_mono g2 ha48
  refine q_lhead C0 hS hl (List.mem_cons_self) (by simp) (by omega) (by omega) (fun hn => ?_)
  have e6 : L = 6 := by
    rcases Nat.lt_or_ge L 6 with g | g
    · exact absurd (q_lt6 L g) hn
    · omega
  subst e6
  exact q_disp hgd hse hir C0 hX2 hw hP hK hD hS hax ham hl (by omega) (by omega)


/-! ===== contracts for the reader's lines ===== -/
section ZR
variable {l : Launch} {base : Nat} {D : va_G} {sa : Nat → Nat}
def z_n_signHere : List z_N := []
def z_m_signHere : z_M := (258, [(1, 40, 0), (0, 0, 4294967295)], [], [], 0, 1, true, [(0, 2147483648, 2147483648), (0, 2147483649, 2147483649)], [])
theorem z_k_signHere : (z_ck (z_tt, [], 0, z_n_signHere, []) q_code 400 z_m_signHere).isSome = true := by decide +kernel
theorem r_signHere (hA : z_A0 l base D sa) : z_Con l base D sa z_tt (fun _ _ => True) z_m_signHere := z_mkr hA z_p0 (fun _ _ _ _ _ _ => trivial) (by decide) z_k_signHere
def z_n_fails : List z_N := []
def z_m_fails : z_M := (248, [(1, 40, 0), (0, 2147483649, 2147483652), (0, 0, 4294967295)], [], [(40, 2147483652, 2147483653)], 0, 0, false, [], [(0, 4, (0, 2147483649, 2147483652))])
theorem z_k_fails : (z_ck (z_tt, [], 0, z_n_fails, []) q_code 400 z_m_fails).isSome = true := by decide +kernel
theorem r_fails (hA : z_A0 l base D sa) : z_Con l base D sa z_tt (fun _ _ => True) z_m_fails := z_mkr hA z_p0 (fun _ _ _ _ _ _ => trivial) (by decide) z_k_fails
def z_n_must1 : List z_N := []
def z_m_must1 : z_M := (263, [(1, 40, 0), (0, 2147483648, 2147483649)], [(0, 4, (0, 2147483649, 4294967295))], [], 0, 2, false, [], [(0, 4, (0, 2147483649, 4294967295))])
theorem z_k_must1 : (z_ck (z_tt, [], 0, z_n_must1, []) q_code 400 z_m_must1).isSome = true := by decide +kernel
theorem r_must1 (hA : z_A0 l base D sa) : z_Con l base D sa z_tt (fun _ _ => True) z_m_must1 := z_mkr hA z_p0 (fun _ _ _ _ _ _ => trivial) (by decide) z_k_must1
def z_n_num2_5 : List z_N := []
def z_m_num2_5 : z_M := (264, [(1, 40, 0), (0, 2147483650, 2147483650), (0, 2147483653, 2147483653)], [(0, 7, (0, 2147483648, 2147485248))], [(40, 2147483652, 2147483658)], 0, 2, true, [(0, 2147483650, 2147483653)], [(0, 7, (0, 2147483648, 2147485248))])
theorem z_k_num2_5 : (z_ck (z_tt, [], 0, z_n_num2_5, [h_Mgo, h_Mmis, z_m_fails]) q_code 400 z_m_num2_5).isSome = true := by decide +kernel
theorem r_num2_5 (hA : z_A0 l base D sa) : z_Con l base D sa z_tt (fun _ _ => True) z_m_num2_5 := z_mkr hA (z_p1 (r_goOn hA z_JK_T) (z_p1 (r_misplaced hA z_JK_T) (z_p1 (r_fails hA) z_p0))) (fun _ _ _ _ _ _ => trivial) (by decide) z_k_num2_5
def z_n_num0_100 : List z_N := []
def z_m_num0_100 : z_M := (264, [(1, 40, 0), (0, 2147483648, 2147483648), (0, 2147483748, 2147483748)], [(0, 7, (0, 2147483648, 2147485248))], [(40, 2147483652, 2147483658)], 0, 2, true, [(0, 2147483648, 2147483748)], [(0, 7, (0, 2147483648, 2147485248))])
theorem z_k_num0_100 : (z_ck (z_tt, [], 0, z_n_num0_100, [h_Mgo, h_Mmis, z_m_fails]) q_code 400 z_m_num0_100).isSome = true := by decide +kernel
theorem r_num0_100 (hA : z_A0 l base D sa) : z_Con l base D sa z_tt (fun _ _ => True) z_m_num0_100 := z_mkr hA (z_p1 (r_goOn hA z_JK_T) (z_p1 (r_misplaced hA z_JK_T) (z_p1 (r_fails hA) z_p0))) (fun _ _ _ _ _ _ => trivial) (by decide) z_k_num0_100
def z_n_num0_999 : List z_N := []
def z_m_num0_999 : z_M := (264, [(1, 40, 0), (0, 2147483648, 2147483648), (0, 2147484647, 2147484647)], [(0, 7, (0, 2147483648, 2147485248))], [(40, 2147483652, 2147483658)], 0, 2, true, [(0, 2147483648, 2147484647)], [(0, 7, (0, 2147483648, 2147485248))])
theorem z_k_num0_999 : (z_ck (z_tt, [], 0, z_n_num0_999, [h_Mgo, h_Mmis, z_m_fails]) q_code 400 z_m_num0_999).isSome = true := by decide +kernel
theorem r_num0_999 (hA : z_A0 l base D sa) : z_Con l base D sa z_tt (fun _ _ => True) z_m_num0_999 := z_mkr hA (z_p1 (r_goOn hA z_JK_T) (z_p1 (r_misplaced hA z_JK_T) (z_p1 (r_fails hA) z_p0))) (fun _ _ _ _ _ _ => trivial) (by decide) z_k_num0_999
def z_n_num10_99 : List z_N := []
def z_m_num10_99 : z_M := (264, [(1, 40, 0), (0, 2147483658, 2147483658), (0, 2147483747, 2147483747)], [(0, 7, (0, 2147483648, 2147485248))], [(40, 2147483652, 2147483658)], 0, 2, true, [(0, 2147483658, 2147483747)], [(0, 7, (0, 2147483648, 2147485248))])
theorem z_k_num10_99 : (z_ck (z_tt, [], 0, z_n_num10_99, [h_Mgo, h_Mmis, z_m_fails]) q_code 400 z_m_num10_99).isSome = true := by decide +kernel
theorem r_num10_99 (hA : z_A0 l base D sa) : z_Con l base D sa z_tt (fun _ _ => True) z_m_num10_99 := z_mkr hA (z_p1 (r_goOn hA z_JK_T) (z_p1 (r_misplaced hA z_JK_T) (z_p1 (r_fails hA) z_p0))) (fun _ _ _ _ _ _ => trivial) (by decide) z_k_num10_99
def z_n_num0_9 : List z_N := []
def z_m_num0_9 : z_M := (264, [(1, 40, 0), (0, 2147483648, 2147483648), (0, 2147483657, 2147483657)], [(0, 7, (0, 2147483648, 2147485248))], [(40, 2147483652, 2147483658)], 0, 2, true, [(0, 2147483648, 2147483657)], [(0, 7, (0, 2147483648, 2147485248))])
theorem z_k_num0_9 : (z_ck (z_tt, [], 0, z_n_num0_9, [h_Mgo, h_Mmis, z_m_fails]) q_code 400 z_m_num0_9).isSome = true := by decide +kernel
theorem r_num0_9 (hA : z_A0 l base D sa) : z_Con l base D sa z_tt (fun _ _ => True) z_m_num0_9 := z_mkr hA (z_p1 (r_goOn hA z_JK_T) (z_p1 (r_misplaced hA z_JK_T) (z_p1 (r_fails hA) z_p0))) (fun _ _ _ _ _ _ => trivial) (by decide) z_k_num0_9
def z_n_num0_1 : List z_N := []
def z_m_num0_1 : z_M := (264, [(1, 40, 0), (0, 2147483648, 2147483648), (0, 2147483649, 2147483649)], [(0, 7, (0, 2147483648, 2147485248))], [(40, 2147483652, 2147483658)], 0, 2, true, [(0, 2147483648, 2147483649)], [(0, 7, (0, 2147483648, 2147485248))])
theorem z_k_num0_1 : (z_ck (z_tt, [], 0, z_n_num0_1, [h_Mgo, h_Mmis, z_m_fails]) q_code 400 z_m_num0_1).isSome = true := by decide +kernel
theorem r_num0_1 (hA : z_A0 l base D sa) : z_Con l base D sa z_tt (fun _ _ => True) z_m_num0_1 := z_mkr hA (z_p1 (r_goOn hA z_JK_T) (z_p1 (r_misplaced hA z_JK_T) (z_p1 (r_fails hA) z_p0))) (fun _ _ _ _ _ _ => trivial) (by decide) z_k_num0_1
def z_n_num0_2 : List z_N := []
def z_m_num0_2 : z_M := (264, [(1, 40, 0), (0, 2147483648, 2147483648), (0, 2147483650, 2147483650)], [(0, 7, (0, 2147483648, 2147485248))], [(40, 2147483652, 2147483658)], 0, 2, true, [(0, 2147483648, 2147483650)], [(0, 7, (0, 2147483648, 2147485248))])
theorem z_k_num0_2 : (z_ck (z_tt, [], 0, z_n_num0_2, [h_Mgo, h_Mmis, z_m_fails]) q_code 400 z_m_num0_2).isSome = true := by decide +kernel
theorem r_num0_2 (hA : z_A0 l base D sa) : z_Con l base D sa z_tt (fun _ _ => True) z_m_num0_2 := z_mkr hA (z_p1 (r_goOn hA z_JK_T) (z_p1 (r_misplaced hA z_JK_T) (z_p1 (r_fails hA) z_p0))) (fun _ _ _ _ _ _ => trivial) (by decide) z_k_num0_2
def z_n_num0_3 : List z_N := []
def z_m_num0_3 : z_M := (264, [(1, 40, 0), (0, 2147483648, 2147483648), (0, 2147483651, 2147483651)], [(0, 7, (0, 2147483648, 2147485248))], [(40, 2147483652, 2147483658)], 0, 2, true, [(0, 2147483648, 2147483651)], [(0, 7, (0, 2147483648, 2147485248))])
theorem z_k_num0_3 : (z_ck (z_tt, [], 0, z_n_num0_3, [h_Mgo, h_Mmis, z_m_fails]) q_code 400 z_m_num0_3).isSome = true := by decide +kernel
theorem r_num0_3 (hA : z_A0 l base D sa) : z_Con l base D sa z_tt (fun _ _ => True) z_m_num0_3 := z_mkr hA (z_p1 (r_goOn hA z_JK_T) (z_p1 (r_misplaced hA z_JK_T) (z_p1 (r_fails hA) z_p0))) (fun _ _ _ _ _ _ => trivial) (by decide) z_k_num0_3
def z_n_num0_4 : List z_N := []
def z_m_num0_4 : z_M := (264, [(1, 40, 0), (0, 2147483648, 2147483648), (0, 2147483652, 2147483652)], [(0, 7, (0, 2147483648, 2147485248))], [(40, 2147483652, 2147483658)], 0, 2, true, [(0, 2147483648, 2147483652)], [(0, 7, (0, 2147483648, 2147485248))])
theorem z_k_num0_4 : (z_ck (z_tt, [], 0, z_n_num0_4, [h_Mgo, h_Mmis, z_m_fails]) q_code 400 z_m_num0_4).isSome = true := by decide +kernel
theorem r_num0_4 (hA : z_A0 l base D sa) : z_Con l base D sa z_tt (fun _ _ => True) z_m_num0_4 := z_mkr hA (z_p1 (r_goOn hA z_JK_T) (z_p1 (r_misplaced hA z_JK_T) (z_p1 (r_fails hA) z_p0))) (fun _ _ _ _ _ _ => trivial) (by decide) z_k_num0_4
def z_n_numx : List z_N := []
def z_m_numx : z_M := (264, [(1, 40, 0), (0, 2147483648, 2147483648), (0, 2147483649, 2147483652)], [(0, 7, (0, 2147483648, 2147485248))], [(40, 2147483652, 2147483658)], 0, 2, true, [(0, 2147483648, 2147483652)], [(0, 7, (0, 2147483648, 2147485248))])
theorem z_k_numx : (z_ck (z_tt, [], 0, z_n_numx, [h_Mgo, h_Mmis, z_m_fails]) q_code 400 z_m_numx).isSome = true := by decide +kernel
theorem r_numx (hA : z_A0 l base D sa) : z_Con l base D sa z_tt (fun _ _ => True) z_m_numx := z_mkr hA (z_p1 (r_goOn hA z_JK_T) (z_p1 (r_misplaced hA z_JK_T) (z_p1 (r_fails hA) z_p0))) (fun _ _ _ _ _ _ => trivial) (by decide) z_k_numx
def z_n_word_0 : List z_N := []
def z_m_word_0 : z_M := (259, [(1, 40, 0), (3, 0, 0)], [(0, 13, (1, 43, 0)), (2, 0, (0, 2147483649, 2147483662))], [], 0, 0, true, [(0, 2147483648, 2147483648), (0, 2147483649, 2147483649)], [])
theorem z_k_word_0 : (z_ck (z_tt, [], 0, z_n_word_0, []) q_code 400 z_m_word_0).isSome = true := by decide +kernel
theorem r_word_0 (hA : z_A0 l base D sa) : z_Con l base D sa z_tt (fun _ _ => True) z_m_word_0 := z_mkr hA z_p0 (fun _ _ _ _ _ _ => trivial) (by decide) z_k_word_0
def z_n_cellg_0 : List z_N := []
def z_m_cellg_0 : z_M := (267, [(1, 40, 0), (0, 0, 4294967295)], [(0, 35, (0, 2147483648, 2147483648)), (0, 7, (0, 2147483648, 2147485248)), (0, 11, (1, 49, 0)), (4, 0, (0, 2147483650, 2147483653)), (0, 12, (1, 50, 0)), (6, 0, (0, 2147483650, 2147483653))], [(40, 2147483652, 2147483658)], 0, 3, true, [(0, 2147483648, 2147483672)], [(0, 7, (0, 2147483648, 2147485248))])
theorem z_k_cellg_0 : (z_ck (z_tt, [], 0, z_n_cellg_0, [h_Mgo, h_Mmis, z_m_fails, z_m_numx]) q_code 400 z_m_cellg_0).isSome = true := by decide +kernel
theorem r_cellg_0 (hA : z_A0 l base D sa) : z_Con l base D sa z_tt (fun _ _ => True) z_m_cellg_0 := z_mkr hA (z_p1 (r_goOn hA z_JK_T) (z_p1 (r_misplaced hA z_JK_T) (z_p1 (r_fails hA) (z_p1 (r_numx hA) z_p0)))) (fun _ _ _ _ _ _ => trivial) (by decide) z_k_cellg_0
def z_n_cell_0_2_2 : List z_N := []
def z_m_cell_0_2_2 : z_M := (267, [(1, 40, 0), (0, 0, 4294967295)], [(0, 35, (0, 2147483648, 2147483648)), (0, 7, (0, 2147483648, 2147485248)), (0, 11, (1, 49, 0)), (4, 0, (0, 2147483650, 2147483650)), (0, 12, (1, 50, 0)), (6, 0, (0, 2147483650, 2147483650))], [(40, 2147483652, 2147483658)], 0, 3, true, [(0, 2147483648, 2147483651)], [(0, 7, (0, 2147483648, 2147485248))])
theorem z_k_cell_0_2_2 : (z_ck (z_tt, [], 0, z_n_cell_0_2_2, [h_Mgo, h_Mmis, z_m_fails, z_m_num0_1]) q_code 400 z_m_cell_0_2_2).isSome = true := by decide +kernel
theorem r_cell_0_2_2 (hA : z_A0 l base D sa) : z_Con l base D sa z_tt (fun _ _ => True) z_m_cell_0_2_2 := z_mkr hA (z_p1 (r_goOn hA z_JK_T) (z_p1 (r_misplaced hA z_JK_T) (z_p1 (r_fails hA) (z_p1 (r_num0_1 hA) z_p0)))) (fun _ _ _ _ _ _ => trivial) (by decide) z_k_cell_0_2_2
def z_n_cell_0_2_3 : List z_N := []
def z_m_cell_0_2_3 : z_M := (267, [(1, 40, 0), (0, 0, 4294967295)], [(0, 35, (0, 2147483648, 2147483648)), (0, 7, (0, 2147483648, 2147485248)), (0, 11, (1, 49, 0)), (4, 0, (0, 2147483650, 2147483650)), (0, 12, (1, 50, 0)), (6, 0, (0, 2147483651, 2147483651))], [(40, 2147483652, 2147483658)], 0, 3, true, [(0, 2147483648, 2147483653)], [(0, 7, (0, 2147483648, 2147485248))])
theorem z_k_cell_0_2_3 : (z_ck (z_tt, [], 0, z_n_cell_0_2_3, [h_Mgo, h_Mmis, z_m_fails, z_m_num0_1, z_m_num0_2]) q_code 400 z_m_cell_0_2_3).isSome = true := by decide +kernel
theorem r_cell_0_2_3 (hA : z_A0 l base D sa) : z_Con l base D sa z_tt (fun _ _ => True) z_m_cell_0_2_3 := z_mkr hA (z_p1 (r_goOn hA z_JK_T) (z_p1 (r_misplaced hA z_JK_T) (z_p1 (r_fails hA) (z_p1 (r_num0_1 hA) (z_p1 (r_num0_2 hA) z_p0))))) (fun _ _ _ _ _ _ => trivial) (by decide) z_k_cell_0_2_3
def z_n_cell_0_2_4 : List z_N := []
def z_m_cell_0_2_4 : z_M := (267, [(1, 40, 0), (0, 0, 4294967295)], [(0, 35, (0, 2147483648, 2147483648)), (0, 7, (0, 2147483648, 2147485248)), (0, 11, (1, 49, 0)), (4, 0, (0, 2147483650, 2147483650)), (0, 12, (1, 50, 0)), (6, 0, (0, 2147483652, 2147483652))], [(40, 2147483652, 2147483658)], 0, 3, true, [(0, 2147483648, 2147483655)], [(0, 7, (0, 2147483648, 2147485248))])
theorem z_k_cell_0_2_4 : (z_ck (z_tt, [], 0, z_n_cell_0_2_4, [h_Mgo, h_Mmis, z_m_fails, z_m_num0_1, z_m_num0_3]) q_code 400 z_m_cell_0_2_4).isSome = true := by decide +kernel
theorem r_cell_0_2_4 (hA : z_A0 l base D sa) : z_Con l base D sa z_tt (fun _ _ => True) z_m_cell_0_2_4 := z_mkr hA (z_p1 (r_goOn hA z_JK_T) (z_p1 (r_misplaced hA z_JK_T) (z_p1 (r_fails hA) (z_p1 (r_num0_1 hA) (z_p1 (r_num0_3 hA) z_p0))))) (fun _ _ _ _ _ _ => trivial) (by decide) z_k_cell_0_2_4
def z_n_cell_0_2_5 : List z_N := []
def z_m_cell_0_2_5 : z_M := (267, [(1, 40, 0), (0, 0, 4294967295)], [(0, 35, (0, 2147483648, 2147483648)), (0, 7, (0, 2147483648, 2147485248)), (0, 11, (1, 49, 0)), (4, 0, (0, 2147483650, 2147483650)), (0, 12, (1, 50, 0)), (6, 0, (0, 2147483653, 2147483653))], [(40, 2147483652, 2147483658)], 0, 3, true, [(0, 2147483648, 2147483657)], [(0, 7, (0, 2147483648, 2147485248))])
theorem z_k_cell_0_2_5 : (z_ck (z_tt, [], 0, z_n_cell_0_2_5, [h_Mgo, h_Mmis, z_m_fails, z_m_num0_1, z_m_num0_4]) q_code 400 z_m_cell_0_2_5).isSome = true := by decide +kernel
theorem r_cell_0_2_5 (hA : z_A0 l base D sa) : z_Con l base D sa z_tt (fun _ _ => True) z_m_cell_0_2_5 := z_mkr hA (z_p1 (r_goOn hA z_JK_T) (z_p1 (r_misplaced hA z_JK_T) (z_p1 (r_fails hA) (z_p1 (r_num0_1 hA) (z_p1 (r_num0_4 hA) z_p0))))) (fun _ _ _ _ _ _ => trivial) (by decide) z_k_cell_0_2_5
def z_n_cell_0_3_2 : List z_N := []
def z_m_cell_0_3_2 : z_M := (267, [(1, 40, 0), (0, 0, 4294967295)], [(0, 35, (0, 2147483648, 2147483648)), (0, 7, (0, 2147483648, 2147485248)), (0, 11, (1, 49, 0)), (4, 0, (0, 2147483651, 2147483651)), (0, 12, (1, 50, 0)), (6, 0, (0, 2147483650, 2147483650))], [(40, 2147483652, 2147483658)], 0, 3, true, [(0, 2147483648, 2147483653)], [(0, 7, (0, 2147483648, 2147485248))])
theorem z_k_cell_0_3_2 : (z_ck (z_tt, [], 0, z_n_cell_0_3_2, [h_Mgo, h_Mmis, z_m_fails, z_m_num0_1, z_m_num0_2]) q_code 400 z_m_cell_0_3_2).isSome = true := by decide +kernel
theorem r_cell_0_3_2 (hA : z_A0 l base D sa) : z_Con l base D sa z_tt (fun _ _ => True) z_m_cell_0_3_2 := z_mkr hA (z_p1 (r_goOn hA z_JK_T) (z_p1 (r_misplaced hA z_JK_T) (z_p1 (r_fails hA) (z_p1 (r_num0_1 hA) (z_p1 (r_num0_2 hA) z_p0))))) (fun _ _ _ _ _ _ => trivial) (by decide) z_k_cell_0_3_2
def z_n_cell_0_3_3 : List z_N := []
def z_m_cell_0_3_3 : z_M := (267, [(1, 40, 0), (0, 0, 4294967295)], [(0, 35, (0, 2147483648, 2147483648)), (0, 7, (0, 2147483648, 2147485248)), (0, 11, (1, 49, 0)), (4, 0, (0, 2147483651, 2147483651)), (0, 12, (1, 50, 0)), (6, 0, (0, 2147483651, 2147483651))], [(40, 2147483652, 2147483658)], 0, 3, true, [(0, 2147483648, 2147483656)], [(0, 7, (0, 2147483648, 2147485248))])
theorem z_k_cell_0_3_3 : (z_ck (z_tt, [], 0, z_n_cell_0_3_3, [h_Mgo, h_Mmis, z_m_fails, z_m_num0_2]) q_code 400 z_m_cell_0_3_3).isSome = true := by decide +kernel
theorem r_cell_0_3_3 (hA : z_A0 l base D sa) : z_Con l base D sa z_tt (fun _ _ => True) z_m_cell_0_3_3 := z_mkr hA (z_p1 (r_goOn hA z_JK_T) (z_p1 (r_misplaced hA z_JK_T) (z_p1 (r_fails hA) (z_p1 (r_num0_2 hA) z_p0)))) (fun _ _ _ _ _ _ => trivial) (by decide) z_k_cell_0_3_3
def z_n_cell_0_3_4 : List z_N := []
def z_m_cell_0_3_4 : z_M := (267, [(1, 40, 0), (0, 0, 4294967295)], [(0, 35, (0, 2147483648, 2147483648)), (0, 7, (0, 2147483648, 2147485248)), (0, 11, (1, 49, 0)), (4, 0, (0, 2147483651, 2147483651)), (0, 12, (1, 50, 0)), (6, 0, (0, 2147483652, 2147483652))], [(40, 2147483652, 2147483658)], 0, 3, true, [(0, 2147483648, 2147483659)], [(0, 7, (0, 2147483648, 2147485248))])
theorem z_k_cell_0_3_4 : (z_ck (z_tt, [], 0, z_n_cell_0_3_4, [h_Mgo, h_Mmis, z_m_fails, z_m_num0_2, z_m_num0_3]) q_code 400 z_m_cell_0_3_4).isSome = true := by decide +kernel
theorem r_cell_0_3_4 (hA : z_A0 l base D sa) : z_Con l base D sa z_tt (fun _ _ => True) z_m_cell_0_3_4 := z_mkr hA (z_p1 (r_goOn hA z_JK_T) (z_p1 (r_misplaced hA z_JK_T) (z_p1 (r_fails hA) (z_p1 (r_num0_2 hA) (z_p1 (r_num0_3 hA) z_p0))))) (fun _ _ _ _ _ _ => trivial) (by decide) z_k_cell_0_3_4
def z_n_cell_0_3_5 : List z_N := []
def z_m_cell_0_3_5 : z_M := (267, [(1, 40, 0), (0, 0, 4294967295)], [(0, 35, (0, 2147483648, 2147483648)), (0, 7, (0, 2147483648, 2147485248)), (0, 11, (1, 49, 0)), (4, 0, (0, 2147483651, 2147483651)), (0, 12, (1, 50, 0)), (6, 0, (0, 2147483653, 2147483653))], [(40, 2147483652, 2147483658)], 0, 3, true, [(0, 2147483648, 2147483662)], [(0, 7, (0, 2147483648, 2147485248))])
theorem z_k_cell_0_3_5 : (z_ck (z_tt, [], 0, z_n_cell_0_3_5, [h_Mgo, h_Mmis, z_m_fails, z_m_num0_2, z_m_num0_4]) q_code 400 z_m_cell_0_3_5).isSome = true := by decide +kernel
theorem r_cell_0_3_5 (hA : z_A0 l base D sa) : z_Con l base D sa z_tt (fun _ _ => True) z_m_cell_0_3_5 := z_mkr hA (z_p1 (r_goOn hA z_JK_T) (z_p1 (r_misplaced hA z_JK_T) (z_p1 (r_fails hA) (z_p1 (r_num0_2 hA) (z_p1 (r_num0_4 hA) z_p0))))) (fun _ _ _ _ _ _ => trivial) (by decide) z_k_cell_0_3_5
def z_n_cell_0_4_2 : List z_N := []
def z_m_cell_0_4_2 : z_M := (267, [(1, 40, 0), (0, 0, 4294967295)], [(0, 35, (0, 2147483648, 2147483648)), (0, 7, (0, 2147483648, 2147485248)), (0, 11, (1, 49, 0)), (4, 0, (0, 2147483652, 2147483652)), (0, 12, (1, 50, 0)), (6, 0, (0, 2147483650, 2147483650))], [(40, 2147483652, 2147483658)], 0, 3, true, [(0, 2147483648, 2147483655)], [(0, 7, (0, 2147483648, 2147485248))])
theorem z_k_cell_0_4_2 : (z_ck (z_tt, [], 0, z_n_cell_0_4_2, [h_Mgo, h_Mmis, z_m_fails, z_m_num0_1, z_m_num0_3]) q_code 400 z_m_cell_0_4_2).isSome = true := by decide +kernel
theorem r_cell_0_4_2 (hA : z_A0 l base D sa) : z_Con l base D sa z_tt (fun _ _ => True) z_m_cell_0_4_2 := z_mkr hA (z_p1 (r_goOn hA z_JK_T) (z_p1 (r_misplaced hA z_JK_T) (z_p1 (r_fails hA) (z_p1 (r_num0_1 hA) (z_p1 (r_num0_3 hA) z_p0))))) (fun _ _ _ _ _ _ => trivial) (by decide) z_k_cell_0_4_2
def z_n_cell_0_4_3 : List z_N := []
def z_m_cell_0_4_3 : z_M := (267, [(1, 40, 0), (0, 0, 4294967295)], [(0, 35, (0, 2147483648, 2147483648)), (0, 7, (0, 2147483648, 2147485248)), (0, 11, (1, 49, 0)), (4, 0, (0, 2147483652, 2147483652)), (0, 12, (1, 50, 0)), (6, 0, (0, 2147483651, 2147483651))], [(40, 2147483652, 2147483658)], 0, 3, true, [(0, 2147483648, 2147483659)], [(0, 7, (0, 2147483648, 2147485248))])
theorem z_k_cell_0_4_3 : (z_ck (z_tt, [], 0, z_n_cell_0_4_3, [h_Mgo, h_Mmis, z_m_fails, z_m_num0_2, z_m_num0_3]) q_code 400 z_m_cell_0_4_3).isSome = true := by decide +kernel
theorem r_cell_0_4_3 (hA : z_A0 l base D sa) : z_Con l base D sa z_tt (fun _ _ => True) z_m_cell_0_4_3 := z_mkr hA (z_p1 (r_goOn hA z_JK_T) (z_p1 (r_misplaced hA z_JK_T) (z_p1 (r_fails hA) (z_p1 (r_num0_2 hA) (z_p1 (r_num0_3 hA) z_p0))))) (fun _ _ _ _ _ _ => trivial) (by decide) z_k_cell_0_4_3
def z_n_cell_0_4_4 : List z_N := []
def z_m_cell_0_4_4 : z_M := (267, [(1, 40, 0), (0, 0, 4294967295)], [(0, 35, (0, 2147483648, 2147483648)), (0, 7, (0, 2147483648, 2147485248)), (0, 11, (1, 49, 0)), (4, 0, (0, 2147483652, 2147483652)), (0, 12, (1, 50, 0)), (6, 0, (0, 2147483652, 2147483652))], [(40, 2147483652, 2147483658)], 0, 3, true, [(0, 2147483648, 2147483663)], [(0, 7, (0, 2147483648, 2147485248))])
theorem z_k_cell_0_4_4 : (z_ck (z_tt, [], 0, z_n_cell_0_4_4, [h_Mgo, h_Mmis, z_m_fails, z_m_num0_3]) q_code 400 z_m_cell_0_4_4).isSome = true := by decide +kernel
theorem r_cell_0_4_4 (hA : z_A0 l base D sa) : z_Con l base D sa z_tt (fun _ _ => True) z_m_cell_0_4_4 := z_mkr hA (z_p1 (r_goOn hA z_JK_T) (z_p1 (r_misplaced hA z_JK_T) (z_p1 (r_fails hA) (z_p1 (r_num0_3 hA) z_p0)))) (fun _ _ _ _ _ _ => trivial) (by decide) z_k_cell_0_4_4
def z_n_cell_0_4_5 : List z_N := []
def z_m_cell_0_4_5 : z_M := (267, [(1, 40, 0), (0, 0, 4294967295)], [(0, 35, (0, 2147483648, 2147483648)), (0, 7, (0, 2147483648, 2147485248)), (0, 11, (1, 49, 0)), (4, 0, (0, 2147483652, 2147483652)), (0, 12, (1, 50, 0)), (6, 0, (0, 2147483653, 2147483653))], [(40, 2147483652, 2147483658)], 0, 3, true, [(0, 2147483648, 2147483667)], [(0, 7, (0, 2147483648, 2147485248))])
theorem z_k_cell_0_4_5 : (z_ck (z_tt, [], 0, z_n_cell_0_4_5, [h_Mgo, h_Mmis, z_m_fails, z_m_num0_3, z_m_num0_4]) q_code 400 z_m_cell_0_4_5).isSome = true := by decide +kernel
theorem r_cell_0_4_5 (hA : z_A0 l base D sa) : z_Con l base D sa z_tt (fun _ _ => True) z_m_cell_0_4_5 := z_mkr hA (z_p1 (r_goOn hA z_JK_T) (z_p1 (r_misplaced hA z_JK_T) (z_p1 (r_fails hA) (z_p1 (r_num0_3 hA) (z_p1 (r_num0_4 hA) z_p0))))) (fun _ _ _ _ _ _ => trivial) (by decide) z_k_cell_0_4_5
def z_n_cell_0_5_2 : List z_N := []
def z_m_cell_0_5_2 : z_M := (267, [(1, 40, 0), (0, 0, 4294967295)], [(0, 35, (0, 2147483648, 2147483648)), (0, 7, (0, 2147483648, 2147485248)), (0, 11, (1, 49, 0)), (4, 0, (0, 2147483653, 2147483653)), (0, 12, (1, 50, 0)), (6, 0, (0, 2147483650, 2147483650))], [(40, 2147483652, 2147483658)], 0, 3, true, [(0, 2147483648, 2147483657)], [(0, 7, (0, 2147483648, 2147485248))])
theorem z_k_cell_0_5_2 : (z_ck (z_tt, [], 0, z_n_cell_0_5_2, [h_Mgo, h_Mmis, z_m_fails, z_m_num0_1, z_m_num0_4]) q_code 400 z_m_cell_0_5_2).isSome = true := by decide +kernel
theorem r_cell_0_5_2 (hA : z_A0 l base D sa) : z_Con l base D sa z_tt (fun _ _ => True) z_m_cell_0_5_2 := z_mkr hA (z_p1 (r_goOn hA z_JK_T) (z_p1 (r_misplaced hA z_JK_T) (z_p1 (r_fails hA) (z_p1 (r_num0_1 hA) (z_p1 (r_num0_4 hA) z_p0))))) (fun _ _ _ _ _ _ => trivial) (by decide) z_k_cell_0_5_2
def z_n_cell_0_5_3 : List z_N := []
def z_m_cell_0_5_3 : z_M := (267, [(1, 40, 0), (0, 0, 4294967295)], [(0, 35, (0, 2147483648, 2147483648)), (0, 7, (0, 2147483648, 2147485248)), (0, 11, (1, 49, 0)), (4, 0, (0, 2147483653, 2147483653)), (0, 12, (1, 50, 0)), (6, 0, (0, 2147483651, 2147483651))], [(40, 2147483652, 2147483658)], 0, 3, true, [(0, 2147483648, 2147483662)], [(0, 7, (0, 2147483648, 2147485248))])
theorem z_k_cell_0_5_3 : (z_ck (z_tt, [], 0, z_n_cell_0_5_3, [h_Mgo, h_Mmis, z_m_fails, z_m_num0_2, z_m_num0_4]) q_code 400 z_m_cell_0_5_3).isSome = true := by decide +kernel
theorem r_cell_0_5_3 (hA : z_A0 l base D sa) : z_Con l base D sa z_tt (fun _ _ => True) z_m_cell_0_5_3 := z_mkr hA (z_p1 (r_goOn hA z_JK_T) (z_p1 (r_misplaced hA z_JK_T) (z_p1 (r_fails hA) (z_p1 (r_num0_2 hA) (z_p1 (r_num0_4 hA) z_p0))))) (fun _ _ _ _ _ _ => trivial) (by decide) z_k_cell_0_5_3
def z_n_cell_0_5_4 : List z_N := []
def z_m_cell_0_5_4 : z_M := (267, [(1, 40, 0), (0, 0, 4294967295)], [(0, 35, (0, 2147483648, 2147483648)), (0, 7, (0, 2147483648, 2147485248)), (0, 11, (1, 49, 0)), (4, 0, (0, 2147483653, 2147483653)), (0, 12, (1, 50, 0)), (6, 0, (0, 2147483652, 2147483652))], [(40, 2147483652, 2147483658)], 0, 3, true, [(0, 2147483648, 2147483667)], [(0, 7, (0, 2147483648, 2147485248))])
theorem z_k_cell_0_5_4 : (z_ck (z_tt, [], 0, z_n_cell_0_5_4, [h_Mgo, h_Mmis, z_m_fails, z_m_num0_3, z_m_num0_4]) q_code 400 z_m_cell_0_5_4).isSome = true := by decide +kernel
theorem r_cell_0_5_4 (hA : z_A0 l base D sa) : z_Con l base D sa z_tt (fun _ _ => True) z_m_cell_0_5_4 := z_mkr hA (z_p1 (r_goOn hA z_JK_T) (z_p1 (r_misplaced hA z_JK_T) (z_p1 (r_fails hA) (z_p1 (r_num0_3 hA) (z_p1 (r_num0_4 hA) z_p0))))) (fun _ _ _ _ _ _ => trivial) (by decide) z_k_cell_0_5_4
def z_n_cell_0_5_5 : List z_N := []
def z_m_cell_0_5_5 : z_M := (267, [(1, 40, 0), (0, 0, 4294967295)], [(0, 35, (0, 2147483648, 2147483648)), (0, 7, (0, 2147483648, 2147485248)), (0, 11, (1, 49, 0)), (4, 0, (0, 2147483653, 2147483653)), (0, 12, (1, 50, 0)), (6, 0, (0, 2147483653, 2147483653))], [(40, 2147483652, 2147483658)], 0, 3, true, [(0, 2147483648, 2147483672)], [(0, 7, (0, 2147483648, 2147485248))])
theorem z_k_cell_0_5_5 : (z_ck (z_tt, [], 0, z_n_cell_0_5_5, [h_Mgo, h_Mmis, z_m_fails, z_m_num0_4]) q_code 400 z_m_cell_0_5_5).isSome = true := by decide +kernel
theorem r_cell_0_5_5 (hA : z_A0 l base D sa) : z_Con l base D sa z_tt (fun _ _ => True) z_m_cell_0_5_5 := z_mkr hA (z_p1 (r_goOn hA z_JK_T) (z_p1 (r_misplaced hA z_JK_T) (z_p1 (r_fails hA) (z_p1 (r_num0_4 hA) z_p0)))) (fun _ _ _ _ _ _ => trivial) (by decide) z_k_cell_0_5_5
def z_n_word_1 : List z_N := []
def z_m_word_1 : z_M := (259, [(1, 40, 0), (3, 0, 0)], [(0, 13, (1, 43, 0)), (2, 1, (0, 2147483649, 2147483662))], [], 0, 0, true, [(0, 2147483648, 2147483648), (0, 2147483649, 2147483649)], [])
theorem z_k_word_1 : (z_ck (z_tt, [], 0, z_n_word_1, []) q_code 400 z_m_word_1).isSome = true := by decide +kernel
theorem r_word_1 (hA : z_A0 l base D sa) : z_Con l base D sa z_tt (fun _ _ => True) z_m_word_1 := z_mkr hA z_p0 (fun _ _ _ _ _ _ => trivial) (by decide) z_k_word_1
def z_n_cellg_1 : List z_N := []
def z_m_cellg_1 : z_M := (267, [(1, 40, 0), (0, 0, 4294967295)], [(0, 35, (0, 2147483649, 2147483649)), (0, 7, (0, 2147483648, 2147485248)), (0, 11, (1, 49, 0)), (4, 1, (0, 2147483650, 2147483653)), (0, 12, (1, 50, 0)), (6, 1, (0, 2147483650, 2147483653))], [(40, 2147483652, 2147483658)], 0, 3, true, [(0, 2147483648, 2147483672)], [(0, 7, (0, 2147483648, 2147485248))])
theorem z_k_cellg_1 : (z_ck (z_tt, [], 0, z_n_cellg_1, [h_Mgo, h_Mmis, z_m_fails, z_m_numx]) q_code 400 z_m_cellg_1).isSome = true := by decide +kernel
theorem r_cellg_1 (hA : z_A0 l base D sa) : z_Con l base D sa z_tt (fun _ _ => True) z_m_cellg_1 := z_mkr hA (z_p1 (r_goOn hA z_JK_T) (z_p1 (r_misplaced hA z_JK_T) (z_p1 (r_fails hA) (z_p1 (r_numx hA) z_p0)))) (fun _ _ _ _ _ _ => trivial) (by decide) z_k_cellg_1
def z_n_cell_1_2_2 : List z_N := []
def z_m_cell_1_2_2 : z_M := (267, [(1, 40, 0), (0, 0, 4294967295)], [(0, 35, (0, 2147483649, 2147483649)), (0, 7, (0, 2147483648, 2147485248)), (0, 11, (1, 49, 0)), (4, 1, (0, 2147483650, 2147483650)), (0, 12, (1, 50, 0)), (6, 1, (0, 2147483650, 2147483650))], [(40, 2147483652, 2147483658)], 0, 3, true, [(0, 2147483648, 2147483651)], [(0, 7, (0, 2147483648, 2147485248))])
theorem z_k_cell_1_2_2 : (z_ck (z_tt, [], 0, z_n_cell_1_2_2, [h_Mgo, h_Mmis, z_m_fails, z_m_num0_1]) q_code 400 z_m_cell_1_2_2).isSome = true := by decide +kernel
theorem r_cell_1_2_2 (hA : z_A0 l base D sa) : z_Con l base D sa z_tt (fun _ _ => True) z_m_cell_1_2_2 := z_mkr hA (z_p1 (r_goOn hA z_JK_T) (z_p1 (r_misplaced hA z_JK_T) (z_p1 (r_fails hA) (z_p1 (r_num0_1 hA) z_p0)))) (fun _ _ _ _ _ _ => trivial) (by decide) z_k_cell_1_2_2
def z_n_cell_1_2_3 : List z_N := []
def z_m_cell_1_2_3 : z_M := (267, [(1, 40, 0), (0, 0, 4294967295)], [(0, 35, (0, 2147483649, 2147483649)), (0, 7, (0, 2147483648, 2147485248)), (0, 11, (1, 49, 0)), (4, 1, (0, 2147483650, 2147483650)), (0, 12, (1, 50, 0)), (6, 1, (0, 2147483651, 2147483651))], [(40, 2147483652, 2147483658)], 0, 3, true, [(0, 2147483648, 2147483653)], [(0, 7, (0, 2147483648, 2147485248))])
theorem z_k_cell_1_2_3 : (z_ck (z_tt, [], 0, z_n_cell_1_2_3, [h_Mgo, h_Mmis, z_m_fails, z_m_num0_1, z_m_num0_2]) q_code 400 z_m_cell_1_2_3).isSome = true := by decide +kernel
theorem r_cell_1_2_3 (hA : z_A0 l base D sa) : z_Con l base D sa z_tt (fun _ _ => True) z_m_cell_1_2_3 := z_mkr hA (z_p1 (r_goOn hA z_JK_T) (z_p1 (r_misplaced hA z_JK_T) (z_p1 (r_fails hA) (z_p1 (r_num0_1 hA) (z_p1 (r_num0_2 hA) z_p0))))) (fun _ _ _ _ _ _ => trivial) (by decide) z_k_cell_1_2_3
def z_n_cell_1_2_4 : List z_N := []
def z_m_cell_1_2_4 : z_M := (267, [(1, 40, 0), (0, 0, 4294967295)], [(0, 35, (0, 2147483649, 2147483649)), (0, 7, (0, 2147483648, 2147485248)), (0, 11, (1, 49, 0)), (4, 1, (0, 2147483650, 2147483650)), (0, 12, (1, 50, 0)), (6, 1, (0, 2147483652, 2147483652))], [(40, 2147483652, 2147483658)], 0, 3, true, [(0, 2147483648, 2147483655)], [(0, 7, (0, 2147483648, 2147485248))])
theorem z_k_cell_1_2_4 : (z_ck (z_tt, [], 0, z_n_cell_1_2_4, [h_Mgo, h_Mmis, z_m_fails, z_m_num0_1, z_m_num0_3]) q_code 400 z_m_cell_1_2_4).isSome = true := by decide +kernel
theorem r_cell_1_2_4 (hA : z_A0 l base D sa) : z_Con l base D sa z_tt (fun _ _ => True) z_m_cell_1_2_4 := z_mkr hA (z_p1 (r_goOn hA z_JK_T) (z_p1 (r_misplaced hA z_JK_T) (z_p1 (r_fails hA) (z_p1 (r_num0_1 hA) (z_p1 (r_num0_3 hA) z_p0))))) (fun _ _ _ _ _ _ => trivial) (by decide) z_k_cell_1_2_4
def z_n_cell_1_2_5 : List z_N := []
def z_m_cell_1_2_5 : z_M := (267, [(1, 40, 0), (0, 0, 4294967295)], [(0, 35, (0, 2147483649, 2147483649)), (0, 7, (0, 2147483648, 2147485248)), (0, 11, (1, 49, 0)), (4, 1, (0, 2147483650, 2147483650)), (0, 12, (1, 50, 0)), (6, 1, (0, 2147483653, 2147483653))], [(40, 2147483652, 2147483658)], 0, 3, true, [(0, 2147483648, 2147483657)], [(0, 7, (0, 2147483648, 2147485248))])
theorem z_k_cell_1_2_5 : (z_ck (z_tt, [], 0, z_n_cell_1_2_5, [h_Mgo, h_Mmis, z_m_fails, z_m_num0_1, z_m_num0_4]) q_code 400 z_m_cell_1_2_5).isSome = true := by decide +kernel
theorem r_cell_1_2_5 (hA : z_A0 l base D sa) : z_Con l base D sa z_tt (fun _ _ => True) z_m_cell_1_2_5 := z_mkr hA (z_p1 (r_goOn hA z_JK_T) (z_p1 (r_misplaced hA z_JK_T) (z_p1 (r_fails hA) (z_p1 (r_num0_1 hA) (z_p1 (r_num0_4 hA) z_p0))))) (fun _ _ _ _ _ _ => trivial) (by decide) z_k_cell_1_2_5
def z_n_cell_1_3_2 : List z_N := []
def z_m_cell_1_3_2 : z_M := (267, [(1, 40, 0), (0, 0, 4294967295)], [(0, 35, (0, 2147483649, 2147483649)), (0, 7, (0, 2147483648, 2147485248)), (0, 11, (1, 49, 0)), (4, 1, (0, 2147483651, 2147483651)), (0, 12, (1, 50, 0)), (6, 1, (0, 2147483650, 2147483650))], [(40, 2147483652, 2147483658)], 0, 3, true, [(0, 2147483648, 2147483653)], [(0, 7, (0, 2147483648, 2147485248))])
theorem z_k_cell_1_3_2 : (z_ck (z_tt, [], 0, z_n_cell_1_3_2, [h_Mgo, h_Mmis, z_m_fails, z_m_num0_1, z_m_num0_2]) q_code 400 z_m_cell_1_3_2).isSome = true := by decide +kernel
theorem r_cell_1_3_2 (hA : z_A0 l base D sa) : z_Con l base D sa z_tt (fun _ _ => True) z_m_cell_1_3_2 := z_mkr hA (z_p1 (r_goOn hA z_JK_T) (z_p1 (r_misplaced hA z_JK_T) (z_p1 (r_fails hA) (z_p1 (r_num0_1 hA) (z_p1 (r_num0_2 hA) z_p0))))) (fun _ _ _ _ _ _ => trivial) (by decide) z_k_cell_1_3_2
def z_n_cell_1_3_3 : List z_N := []
def z_m_cell_1_3_3 : z_M := (267, [(1, 40, 0), (0, 0, 4294967295)], [(0, 35, (0, 2147483649, 2147483649)), (0, 7, (0, 2147483648, 2147485248)), (0, 11, (1, 49, 0)), (4, 1, (0, 2147483651, 2147483651)), (0, 12, (1, 50, 0)), (6, 1, (0, 2147483651, 2147483651))], [(40, 2147483652, 2147483658)], 0, 3, true, [(0, 2147483648, 2147483656)], [(0, 7, (0, 2147483648, 2147485248))])
theorem z_k_cell_1_3_3 : (z_ck (z_tt, [], 0, z_n_cell_1_3_3, [h_Mgo, h_Mmis, z_m_fails, z_m_num0_2]) q_code 400 z_m_cell_1_3_3).isSome = true := by decide +kernel
theorem r_cell_1_3_3 (hA : z_A0 l base D sa) : z_Con l base D sa z_tt (fun _ _ => True) z_m_cell_1_3_3 := z_mkr hA (z_p1 (r_goOn hA z_JK_T) (z_p1 (r_misplaced hA z_JK_T) (z_p1 (r_fails hA) (z_p1 (r_num0_2 hA) z_p0)))) (fun _ _ _ _ _ _ => trivial) (by decide) z_k_cell_1_3_3
def z_n_cell_1_3_4 : List z_N := []
def z_m_cell_1_3_4 : z_M := (267, [(1, 40, 0), (0, 0, 4294967295)], [(0, 35, (0, 2147483649, 2147483649)), (0, 7, (0, 2147483648, 2147485248)), (0, 11, (1, 49, 0)), (4, 1, (0, 2147483651, 2147483651)), (0, 12, (1, 50, 0)), (6, 1, (0, 2147483652, 2147483652))], [(40, 2147483652, 2147483658)], 0, 3, true, [(0, 2147483648, 2147483659)], [(0, 7, (0, 2147483648, 2147485248))])
theorem z_k_cell_1_3_4 : (z_ck (z_tt, [], 0, z_n_cell_1_3_4, [h_Mgo, h_Mmis, z_m_fails, z_m_num0_2, z_m_num0_3]) q_code 400 z_m_cell_1_3_4).isSome = true := by decide +kernel
theorem r_cell_1_3_4 (hA : z_A0 l base D sa) : z_Con l base D sa z_tt (fun _ _ => True) z_m_cell_1_3_4 := z_mkr hA (z_p1 (r_goOn hA z_JK_T) (z_p1 (r_misplaced hA z_JK_T) (z_p1 (r_fails hA) (z_p1 (r_num0_2 hA) (z_p1 (r_num0_3 hA) z_p0))))) (fun _ _ _ _ _ _ => trivial) (by decide) z_k_cell_1_3_4
def z_n_cell_1_3_5 : List z_N := []
def z_m_cell_1_3_5 : z_M := (267, [(1, 40, 0), (0, 0, 4294967295)], [(0, 35, (0, 2147483649, 2147483649)), (0, 7, (0, 2147483648, 2147485248)), (0, 11, (1, 49, 0)), (4, 1, (0, 2147483651, 2147483651)), (0, 12, (1, 50, 0)), (6, 1, (0, 2147483653, 2147483653))], [(40, 2147483652, 2147483658)], 0, 3, true, [(0, 2147483648, 2147483662)], [(0, 7, (0, 2147483648, 2147485248))])
theorem z_k_cell_1_3_5 : (z_ck (z_tt, [], 0, z_n_cell_1_3_5, [h_Mgo, h_Mmis, z_m_fails, z_m_num0_2, z_m_num0_4]) q_code 400 z_m_cell_1_3_5).isSome = true := by decide +kernel
theorem r_cell_1_3_5 (hA : z_A0 l base D sa) : z_Con l base D sa z_tt (fun _ _ => True) z_m_cell_1_3_5 := z_mkr hA (z_p1 (r_goOn hA z_JK_T) (z_p1 (r_misplaced hA z_JK_T) (z_p1 (r_fails hA) (z_p1 (r_num0_2 hA) (z_p1 (r_num0_4 hA) z_p0))))) (fun _ _ _ _ _ _ => trivial) (by decide) z_k_cell_1_3_5
def z_n_cell_1_4_2 : List z_N := []
def z_m_cell_1_4_2 : z_M := (267, [(1, 40, 0), (0, 0, 4294967295)], [(0, 35, (0, 2147483649, 2147483649)), (0, 7, (0, 2147483648, 2147485248)), (0, 11, (1, 49, 0)), (4, 1, (0, 2147483652, 2147483652)), (0, 12, (1, 50, 0)), (6, 1, (0, 2147483650, 2147483650))], [(40, 2147483652, 2147483658)], 0, 3, true, [(0, 2147483648, 2147483655)], [(0, 7, (0, 2147483648, 2147485248))])
theorem z_k_cell_1_4_2 : (z_ck (z_tt, [], 0, z_n_cell_1_4_2, [h_Mgo, h_Mmis, z_m_fails, z_m_num0_1, z_m_num0_3]) q_code 400 z_m_cell_1_4_2).isSome = true := by decide +kernel
theorem r_cell_1_4_2 (hA : z_A0 l base D sa) : z_Con l base D sa z_tt (fun _ _ => True) z_m_cell_1_4_2 := z_mkr hA (z_p1 (r_goOn hA z_JK_T) (z_p1 (r_misplaced hA z_JK_T) (z_p1 (r_fails hA) (z_p1 (r_num0_1 hA) (z_p1 (r_num0_3 hA) z_p0))))) (fun _ _ _ _ _ _ => trivial) (by decide) z_k_cell_1_4_2
def z_n_cell_1_4_3 : List z_N := []
def z_m_cell_1_4_3 : z_M := (267, [(1, 40, 0), (0, 0, 4294967295)], [(0, 35, (0, 2147483649, 2147483649)), (0, 7, (0, 2147483648, 2147485248)), (0, 11, (1, 49, 0)), (4, 1, (0, 2147483652, 2147483652)), (0, 12, (1, 50, 0)), (6, 1, (0, 2147483651, 2147483651))], [(40, 2147483652, 2147483658)], 0, 3, true, [(0, 2147483648, 2147483659)], [(0, 7, (0, 2147483648, 2147485248))])
theorem z_k_cell_1_4_3 : (z_ck (z_tt, [], 0, z_n_cell_1_4_3, [h_Mgo, h_Mmis, z_m_fails, z_m_num0_2, z_m_num0_3]) q_code 400 z_m_cell_1_4_3).isSome = true := by decide +kernel
theorem r_cell_1_4_3 (hA : z_A0 l base D sa) : z_Con l base D sa z_tt (fun _ _ => True) z_m_cell_1_4_3 := z_mkr hA (z_p1 (r_goOn hA z_JK_T) (z_p1 (r_misplaced hA z_JK_T) (z_p1 (r_fails hA) (z_p1 (r_num0_2 hA) (z_p1 (r_num0_3 hA) z_p0))))) (fun _ _ _ _ _ _ => trivial) (by decide) z_k_cell_1_4_3
def z_n_cell_1_4_4 : List z_N := []
def z_m_cell_1_4_4 : z_M := (267, [(1, 40, 0), (0, 0, 4294967295)], [(0, 35, (0, 2147483649, 2147483649)), (0, 7, (0, 2147483648, 2147485248)), (0, 11, (1, 49, 0)), (4, 1, (0, 2147483652, 2147483652)), (0, 12, (1, 50, 0)), (6, 1, (0, 2147483652, 2147483652))], [(40, 2147483652, 2147483658)], 0, 3, true, [(0, 2147483648, 2147483663)], [(0, 7, (0, 2147483648, 2147485248))])
theorem z_k_cell_1_4_4 : (z_ck (z_tt, [], 0, z_n_cell_1_4_4, [h_Mgo, h_Mmis, z_m_fails, z_m_num0_3]) q_code 400 z_m_cell_1_4_4).isSome = true := by decide +kernel
theorem r_cell_1_4_4 (hA : z_A0 l base D sa) : z_Con l base D sa z_tt (fun _ _ => True) z_m_cell_1_4_4 := z_mkr hA (z_p1 (r_goOn hA z_JK_T) (z_p1 (r_misplaced hA z_JK_T) (z_p1 (r_fails hA) (z_p1 (r_num0_3 hA) z_p0)))) (fun _ _ _ _ _ _ => trivial) (by decide) z_k_cell_1_4_4
def z_n_cell_1_4_5 : List z_N := []
def z_m_cell_1_4_5 : z_M := (267, [(1, 40, 0), (0, 0, 4294967295)], [(0, 35, (0, 2147483649, 2147483649)), (0, 7, (0, 2147483648, 2147485248)), (0, 11, (1, 49, 0)), (4, 1, (0, 2147483652, 2147483652)), (0, 12, (1, 50, 0)), (6, 1, (0, 2147483653, 2147483653))], [(40, 2147483652, 2147483658)], 0, 3, true, [(0, 2147483648, 2147483667)], [(0, 7, (0, 2147483648, 2147485248))])
theorem z_k_cell_1_4_5 : (z_ck (z_tt, [], 0, z_n_cell_1_4_5, [h_Mgo, h_Mmis, z_m_fails, z_m_num0_3, z_m_num0_4]) q_code 400 z_m_cell_1_4_5).isSome = true := by decide +kernel
theorem r_cell_1_4_5 (hA : z_A0 l base D sa) : z_Con l base D sa z_tt (fun _ _ => True) z_m_cell_1_4_5 := z_mkr hA (z_p1 (r_goOn hA z_JK_T) (z_p1 (r_misplaced hA z_JK_T) (z_p1 (r_fails hA) (z_p1 (r_num0_3 hA) (z_p1 (r_num0_4 hA) z_p0))))) (fun _ _ _ _ _ _ => trivial) (by decide) z_k_cell_1_4_5
def z_n_cell_1_5_2 : List z_N := []
def z_m_cell_1_5_2 : z_M := (267, [(1, 40, 0), (0, 0, 4294967295)], [(0, 35, (0, 2147483649, 2147483649)), (0, 7, (0, 2147483648, 2147485248)), (0, 11, (1, 49, 0)), (4, 1, (0, 2147483653, 2147483653)), (0, 12, (1, 50, 0)), (6, 1, (0, 2147483650, 2147483650))], [(40, 2147483652, 2147483658)], 0, 3, true, [(0, 2147483648, 2147483657)], [(0, 7, (0, 2147483648, 2147485248))])
theorem z_k_cell_1_5_2 : (z_ck (z_tt, [], 0, z_n_cell_1_5_2, [h_Mgo, h_Mmis, z_m_fails, z_m_num0_1, z_m_num0_4]) q_code 400 z_m_cell_1_5_2).isSome = true := by decide +kernel
theorem r_cell_1_5_2 (hA : z_A0 l base D sa) : z_Con l base D sa z_tt (fun _ _ => True) z_m_cell_1_5_2 := z_mkr hA (z_p1 (r_goOn hA z_JK_T) (z_p1 (r_misplaced hA z_JK_T) (z_p1 (r_fails hA) (z_p1 (r_num0_1 hA) (z_p1 (r_num0_4 hA) z_p0))))) (fun _ _ _ _ _ _ => trivial) (by decide) z_k_cell_1_5_2
def z_n_cell_1_5_3 : List z_N := []
def z_m_cell_1_5_3 : z_M := (267, [(1, 40, 0), (0, 0, 4294967295)], [(0, 35, (0, 2147483649, 2147483649)), (0, 7, (0, 2147483648, 2147485248)), (0, 11, (1, 49, 0)), (4, 1, (0, 2147483653, 2147483653)), (0, 12, (1, 50, 0)), (6, 1, (0, 2147483651, 2147483651))], [(40, 2147483652, 2147483658)], 0, 3, true, [(0, 2147483648, 2147483662)], [(0, 7, (0, 2147483648, 2147485248))])
theorem z_k_cell_1_5_3 : (z_ck (z_tt, [], 0, z_n_cell_1_5_3, [h_Mgo, h_Mmis, z_m_fails, z_m_num0_2, z_m_num0_4]) q_code 400 z_m_cell_1_5_3).isSome = true := by decide +kernel
theorem r_cell_1_5_3 (hA : z_A0 l base D sa) : z_Con l base D sa z_tt (fun _ _ => True) z_m_cell_1_5_3 := z_mkr hA (z_p1 (r_goOn hA z_JK_T) (z_p1 (r_misplaced hA z_JK_T) (z_p1 (r_fails hA) (z_p1 (r_num0_2 hA) (z_p1 (r_num0_4 hA) z_p0))))) (fun _ _ _ _ _ _ => trivial) (by decide) z_k_cell_1_5_3
def z_n_cell_1_5_4 : List z_N := []
def z_m_cell_1_5_4 : z_M := (267, [(1, 40, 0), (0, 0, 4294967295)], [(0, 35, (0, 2147483649, 2147483649)), (0, 7, (0, 2147483648, 2147485248)), (0, 11, (1, 49, 0)), (4, 1, (0, 2147483653, 2147483653)), (0, 12, (1, 50, 0)), (6, 1, (0, 2147483652, 2147483652))], [(40, 2147483652, 2147483658)], 0, 3, true, [(0, 2147483648, 2147483667)], [(0, 7, (0, 2147483648, 2147485248))])
theorem z_k_cell_1_5_4 : (z_ck (z_tt, [], 0, z_n_cell_1_5_4, [h_Mgo, h_Mmis, z_m_fails, z_m_num0_3, z_m_num0_4]) q_code 400 z_m_cell_1_5_4).isSome = true := by decide +kernel
theorem r_cell_1_5_4 (hA : z_A0 l base D sa) : z_Con l base D sa z_tt (fun _ _ => True) z_m_cell_1_5_4 := z_mkr hA (z_p1 (r_goOn hA z_JK_T) (z_p1 (r_misplaced hA z_JK_T) (z_p1 (r_fails hA) (z_p1 (r_num0_3 hA) (z_p1 (r_num0_4 hA) z_p0))))) (fun _ _ _ _ _ _ => trivial) (by decide) z_k_cell_1_5_4
def z_n_cell_1_5_5 : List z_N := []
def z_m_cell_1_5_5 : z_M := (267, [(1, 40, 0), (0, 0, 4294967295)], [(0, 35, (0, 2147483649, 2147483649)), (0, 7, (0, 2147483648, 2147485248)), (0, 11, (1, 49, 0)), (4, 1, (0, 2147483653, 2147483653)), (0, 12, (1, 50, 0)), (6, 1, (0, 2147483653, 2147483653))], [(40, 2147483652, 2147483658)], 0, 3, true, [(0, 2147483648, 2147483672)], [(0, 7, (0, 2147483648, 2147485248))])
theorem z_k_cell_1_5_5 : (z_ck (z_tt, [], 0, z_n_cell_1_5_5, [h_Mgo, h_Mmis, z_m_fails, z_m_num0_4]) q_code 400 z_m_cell_1_5_5).isSome = true := by decide +kernel
theorem r_cell_1_5_5 (hA : z_A0 l base D sa) : z_Con l base D sa z_tt (fun _ _ => True) z_m_cell_1_5_5 := z_mkr hA (z_p1 (r_goOn hA z_JK_T) (z_p1 (r_misplaced hA z_JK_T) (z_p1 (r_fails hA) (z_p1 (r_num0_4 hA) z_p0)))) (fun _ _ _ _ _ _ => trivial) (by decide) z_k_cell_1_5_5
end ZR

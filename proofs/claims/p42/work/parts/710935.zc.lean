/-! ===== runs of the class ===== -/
section ZR
variable {l : Launch} {base : Nat} {D : va_G} {sa : Nat → Nat} {J : va_W → List Nat → Prop}
def z_n_c_SandNights_night : List z_N := [(168, 4, [(2, 0, 4294967295), (3, 2147483648, 2147483673)], [], [], [(16, 2147483658, 2147483658)], [], [], [(1, 0)]), (49, 5, [(2, 2147483648, 2147483673)], [], [], [], [], [], [(0, 0)])]
def z_m_c_SandNights_night : z_M := (167, [(1, 0, 0)], [], [(16, 2147483656, 2147483658), (17, 2147483648, 2147483672), (18, 2147483648, 2147483672), (19, 2147483648, 2147483672), (20, 2147483648, 2147483652), (21, 2147483648, 2147483652), (22, 2147483648, 2147483672), (23, 2147483648, 2147483672), (24, 2147483648, 2147483947), (25, 2147483649, 2147483651)], 1, 5, true, [(0, 0, 4294967295)], [])
theorem z_k_c_SandNights_night : (z_ck (z_tt, [], 0, z_n_c_SandNights_night, []) q_code 1057 z_m_c_SandNights_night).isSome = true := by decide +kernel
theorem r_c_SandNights_night (hA : z_A0 l base D sa) (hJ : z_JK J) : z_Con l base D sa z_tt J z_m_c_SandNights_night := z_mkr hA z_p0 (hJ _ (by decide)) (by decide) z_k_c_SandNights_night
def z_n_c_SandNights_way : List z_N := [(204, 45, [(5, 2147483647, 2147483672), (6, 2147483649, 2147483673)], [], [], [], [], [(28, 1, 6)], [(1, 0)])]
def z_m_c_SandNights_way : z_M := (87, [(1, 0, 0), (0, 0, 4294967295), (0, 0, 4294967295)], [], [(28, 2147483649, 2147483649), (29, 2147483648, 2147483672), (30, 2147483648, 2147483672)], 0, 5, true, [(0, 2147483647, 2147483672)], [])
theorem z_k_c_SandNights_way : (z_ck (z_tt, [], 0, z_n_c_SandNights_way, [z_m_c_Finder_cheapestStep, z_m_c_Finder_priceAll]) q_code 400 z_m_c_SandNights_way).isSome = true := by decide +kernel
theorem r_c_SandNights_way (hA : z_A0 l base D sa) (hJ : z_JK J) : z_Con l base D sa z_tt J z_m_c_SandNights_way := z_mkr hA (z_p1 (r_c_Finder_cheapestStep hA hJ) (z_p1 (r_c_Finder_priceAll hA hJ) z_p0)) (hJ _ (by decide)) (by decide) z_k_c_SandNights_way
def z_n_c_SandNights_ways : List z_N := [(49, 5, [(2, 2147483648, 2147483673)], [], [], [], [], [], [(0, 0)]), (202, 38, [(4, 2147483649, 2147483673)], [], [], [], [], [], [(0, 0)]), (202, 48, [(5, 2147483648, 2147483673)], [], [], [], [], [], [(0, 0)]), (200, 5, [(3, 0, 4294967295), (4, 2147483648, 2147483673)], [], [], [], [], [], [(1, 0)])]
def z_m_c_SandNights_ways : z_M := (88, [(1, 0, 0), (0, 0, 4294967295), (0, 0, 4294967295)], [], [(30, 2147483648, 2147483672), (31, 2147483648, 2147483672)], 0, 5, true, [(0, 0, 4294967295)], [])
theorem z_k_c_SandNights_ways : (z_ck (z_tt, [], 0, z_n_c_SandNights_ways, [z_m_c_Finder_priceAll]) q_code 495 z_m_c_SandNights_ways).isSome = true := by decide +kernel
theorem r_c_SandNights_ways (hA : z_A0 l base D sa) (hJ : z_JK J) : z_Con l base D sa z_tt J z_m_c_SandNights_ways := z_mkr hA (z_p1 (r_c_Finder_priceAll hA hJ) z_p0) (hJ _ (by decide)) (by decide) z_k_c_SandNights_ways
def z_n_c_SandNights_sly : List z_N := [(234, 4, [(2, 2147483648, 4294967295), (3, 2147483648, 2147483673)], [], [], [], [], [], [(1, 0)]), (47, 4, [(1, 2147483648, 4294967295), (2, 2147483648, 2147483673)], [], [], [], [], [], [(1, 0)]), (204, 45, [(5, 2147483647, 2147483672), (6, 2147483649, 2147483673)], [], [], [], [], [(28, 1, 6)], [(1, 0)]), (203, 4, [(2, 0, 4294967295), (3, 2147483649, 2147483673)], [], [], [], [], [], [(1, 0)])]
def z_m_c_SandNights_sly : z_M := (89, [(1, 0, 0), (0, 0, 4294967295), (0, 0, 4294967295), (0, 0, 4294967295)], [], [(28, 2147483649, 2147483649), (29, 2147483648, 2147483672), (30, 2147483648, 2147483672)], 0, 5, true, [(0, 0, 4294967295)], [])
theorem z_k_c_SandNights_sly : (z_ck (z_tt, [], 0, z_n_c_SandNights_sly, [z_m_c_Finder_cheapestStep, z_m_c_Finder_priceAll]) q_code 661 z_m_c_SandNights_sly).isSome = true := by decide +kernel
theorem r_c_SandNights_sly (hA : z_A0 l base D sa) (hJ : z_JK J) : z_Con l base D sa z_tt J z_m_c_SandNights_sly := z_mkr hA (z_p1 (r_c_Finder_cheapestStep hA hJ) (z_p1 (r_c_Finder_priceAll hA hJ) z_p0)) (hJ _ (by decide)) (by decide) z_k_c_SandNights_sly
def z_n_c_SandNights_reach : List z_N := [(90, 36, [(3, 0, 4294967295), (4, 2147483648, 2147483673)], [], [], [], [], [], [(1, 0)])]
def z_m_c_SandNights_reach : z_M := (90, [(1, 0, 0), (0, 0, 4294967295), (0, 0, 4294967295)], [], [], 0, 1, true, [(0, 0, 4294967295)], [])
theorem z_k_c_SandNights_reach : (z_ck (z_tt, [], 0, z_n_c_SandNights_reach, []) q_code 400 z_m_c_SandNights_reach).isSome = true := by decide +kernel
theorem r_c_SandNights_reach (hA : z_A0 l base D sa) (hJ : z_JK J) : z_Con l base D sa z_tt J z_m_c_SandNights_reach := z_mkr hA z_p0 (hJ _ (by decide)) (by decide) z_k_c_SandNights_reach
def z_n_c_SandNights_parts : List z_N := [(175, 12, [(2, 0, 4294967295), (3, 0, 4294967295), (4, 2147483648, 2147483673)], [], [], [], [], [], [(2, 0)])]
def z_m_c_SandNights_parts : z_M := (174, [(1, 0, 0)], [], [], 0, 3, true, [(0, 0, 4294967295)], [])
theorem z_k_c_SandNights_parts : (z_ck (z_tt, [], 0, z_n_c_SandNights_parts, [z_m_c_Ground_flood]) q_code 400 z_m_c_SandNights_parts).isSome = true := by decide +kernel
theorem r_c_SandNights_parts (hA : z_A0 l base D sa) (hJ : z_JK J) : z_Con l base D sa z_tt J z_m_c_SandNights_parts := z_mkr hA (z_p1 (r_c_Ground_flood hA hJ) z_p0) (hJ _ (by decide)) (by decide) z_k_c_SandNights_parts
def z_n_c_SandNights_join : List z_N := [(91, 49, [(4, 0, 4294967295), (5, 0, 4294967295), (6, 2147483648, 2147483674)], [], [], [], [], [], [(2, 0)])]
def z_m_c_SandNights_join : z_M := (91, [(1, 0, 0), (0, 0, 4294967295), (0, 0, 4294967295), (0, 0, 4294967295)], [], [], 0, 2, true, [(0, 2147483647, 2147483711)], [])
theorem z_k_c_SandNights_join : (z_ck (z_tt, [], 0, z_n_c_SandNights_join, []) q_code 566 z_m_c_SandNights_join).isSome = true := by decide +kernel
theorem r_c_SandNights_join (hA : z_A0 l base D sa) (hJ : z_JK J) : z_Con l base D sa z_tt J z_m_c_SandNights_join := z_mkr hA z_p0 (hJ _ (by decide)) (by decide) z_k_c_SandNights_join
def z_n_c_SandNights_rounds : List z_N := [(49, 5, [(2, 2147483648, 2147483673)], [], [], [], [], [], [(0, 0)]), (201, 18, [(4, 2147483648, 2147483657)], [], [], [], [], [], [(0, 0)]), (201, 27, [(5, 2147483648, 2147483673)], [], [], [], [], [], [(0, 0)]), (4, 5, [(3, 0, 4294967295), (4, 2147483648, 2147483673)], [], [], [], [], [], [(1, 0)])]
def z_m_c_SandNights_rounds : z_M := (92, [(1, 0, 0), (0, 0, 4294967295), (0, 0, 4294967295)], [], [(31, 2147483648, 2147483672), (32, 2147483648, 2147483672)], 0, 3, true, [(0, 0, 4294967295)], [])
theorem z_k_c_SandNights_rounds : (z_ck (z_tt, [], 0, z_n_c_SandNights_rounds, []) q_code 400 z_m_c_SandNights_rounds).isSome = true := by decide +kernel
theorem r_c_SandNights_rounds (hA : z_A0 l base D sa) (hJ : z_JK J) : z_Con l base D sa z_tt J z_m_c_SandNights_rounds := z_mkr hA z_p0 (hJ _ (by decide)) (by decide) z_k_c_SandNights_rounds
def z_n_c_SandNights_guard : List z_N := [(179, 17, [(3, 2147483648, 2147483652)], [], [], [], [], [], [(0, 0)]), (191, 40, [(6, 2147483648, 2147483673)], [], [], [], [], [], [(0, 0)])]
def z_m_c_SandNights_guard : z_M := (66, [(1, 0, 0), (0, 0, 4294967295), (0, 0, 4294967295), (0, 0, 4294967295)], [], [], 0, 9, true, [(0, 2147483647, 4294967295)], [])
theorem z_k_c_SandNights_guard : (z_ck (z_tt, [], 0, z_n_c_SandNights_guard, [z_m_c_Ground_flood]) q_code 1755 z_m_c_SandNights_guard).isSome = true := by decide +kernel
theorem r_c_SandNights_guard (hA : z_A0 l base D sa) (hJ : z_JK J) : z_Con l base D sa z_tt J z_m_c_SandNights_guard := z_mkr hA (z_p1 (r_c_Ground_flood hA hJ) z_p0) (hJ _ (by decide)) (by decide) z_k_c_SandNights_guard
def z_n_c_SandNights_trail : List z_N := [(234, 4, [(2, 2147483648, 4294967295), (3, 2147483648, 2147483673)], [], [], [], [], [], [(1, 0)]), (175, 12, [(2, 2147483648, 4294967295), (3, 0, 4294967295), (4, 2147483648, 2147483673)], [], [], [], [], [], [(2, 0)])]
def z_m_c_SandNights_trail : z_M := (93, [(1, 0, 0), (0, 0, 4294967295)], [], [], 0, 3, true, [(0, 0, 4294967295)], [])
theorem z_k_c_SandNights_trail : (z_ck (z_tt, [], 0, z_n_c_SandNights_trail, [z_m_c_Ground_flood]) q_code 400 z_m_c_SandNights_trail).isSome = true := by decide +kernel
theorem r_c_SandNights_trail (hA : z_A0 l base D sa) (hJ : z_JK J) : z_Con l base D sa z_tt J z_m_c_SandNights_trail := z_mkr hA (z_p1 (r_c_Ground_flood hA hJ) z_p0) (hJ _ (by decide)) (by decide) z_k_c_SandNights_trail
def z_n_c_SandNights_ghost : List z_N := []
def z_m_c_SandNights_ghost : z_M := (94, [(1, 0, 0), (0, 0, 4294967295), (0, 0, 4294967295)], [], [], 0, 2, true, [(0, 0, 4294967295)], [])
theorem z_k_c_SandNights_ghost : (z_ck (z_tt, [], 0, z_n_c_SandNights_ghost, []) q_code 400 z_m_c_SandNights_ghost).isSome = true := by decide +kernel
theorem r_c_SandNights_ghost (hA : z_A0 l base D sa) (hJ : z_JK J) : z_Con l base D sa z_tt J z_m_c_SandNights_ghost := z_mkr hA z_p0 (hJ _ (by decide)) (by decide) z_k_c_SandNights_ghost
def z_n_c_SandNights_first : List z_N := [(95, 22, [(4, 2147483648, 2147483708)], [], [], [], [], [], [(0, 0)])]
def z_m_c_SandNights_first : z_M := (95, [(1, 0, 0), (0, 0, 4294967295), (0, 0, 4294967295)], [], [], 0, 2, true, [(0, 2147483647, 2147483707)], [])
theorem z_k_c_SandNights_first : (z_ck (z_tt, [], 0, z_n_c_SandNights_first, []) q_code 400 z_m_c_SandNights_first).isSome = true := by decide +kernel
theorem r_c_SandNights_first (hA : z_A0 l base D sa) (hJ : z_JK J) : z_Con l base D sa z_tt J z_m_c_SandNights_first := z_mkr hA z_p0 (hJ _ (by decide)) (by decide) z_k_c_SandNights_first
def z_n_c_SandNights_alone : List z_N := [(96, 23, [(3, 0, 4294967295), (4, 2147483648, 2147483708)], [], [], [], [], [], [(1, 0)]), (236, 6, [(4, 0, 4294967295), (5, 2147483648, 2147483653)], [], [], [], [], [], [(1, 0)])]
def z_m_c_SandNights_alone : z_M := (96, [(1, 0, 0), (0, 0, 4294967295)], [], [], 0, 2, true, [(0, 0, 4294967295)], [])
theorem z_k_c_SandNights_alone : (z_ck (z_tt, [], 0, z_n_c_SandNights_alone, []) q_code 400 z_m_c_SandNights_alone).isSome = true := by decide +kernel
theorem r_c_SandNights_alone (hA : z_A0 l base D sa) (hJ : z_JK J) : z_Con l base D sa z_tt J z_m_c_SandNights_alone := z_mkr hA z_p0 (hJ _ (by decide)) (by decide) z_k_c_SandNights_alone
end ZR

/-! ===== runs of the class ===== -/
section ZR
variable {l : Launch} {base : Nat} {D : va_G} {sa : Nat → Nat} {J : va_W → List Nat → Prop}
def z_n_c_Formula_value : List z_N := [(42, 43, [(6, 2147483648, 2147483679), (7, 2147483648, 2147483928)], [], [], [], [], [], [(1, 0)])]
def z_m_c_Formula_value : z_M := (42, [(1, 8, 0), (0, 0, 4294967295), (0, 0, 4294967295), (0, 0, 4294967295), (0, 0, 4294967295), (0, 0, 4294967295)], [], [(10, 2147483648, 2147483678), (11, 2147483648, 2147483652)], 0, 1, true, [(0, 0, 4294967295)], [])
theorem z_k_c_Formula_value : (z_ck (z_tt, [], 0, z_n_c_Formula_value, []) q_code 461 z_m_c_Formula_value).isSome = true := by decide +kernel
theorem r_c_Formula_value (hA : z_A0 l base D sa) (hJ : z_JK J) : z_Con l base D sa z_tt J z_m_c_Formula_value := z_mkr hA z_p0 (hJ _ (by decide)) (by decide) z_k_c_Formula_value
def z_n_c_Ground_shape : List z_N := [(111, 72, [(4, 0, 4294967295), (5, 0, 4294967295), (6, 2147483648, 2147483673)], [], [], [], [(12, 8, 2147483648, 4294967295), (12, 9, 2147483648, 4294967295)], [], [(2, 0)]), (111, 202, [(6, 2147483648, 2147483673)], [], [], [], [], [], [(0, 0)])]
def z_m_c_Ground_shape : z_M := (111, [(1, 12, 0), (0, 2147483650, 2147483653), (0, 2147483650, 2147483653), (0, 0, 4294967295)], [], [(12, 2147483651, 2147483657), (13, 2147483648, 2147483672), (14, 2147483648, 2147483672), (15, 2147483648, 2147483672)], 0, 1, false, [], [])
theorem z_k_c_Ground_shape : (z_ck (z_tt, [], 0, z_n_c_Ground_shape, []) q_code 451 z_m_c_Ground_shape).isSome = true := by decide +kernel
theorem r_c_Ground_shape (hA : z_A0 l base D sa) (hJ : z_JK J) : z_Con l base D sa z_tt J z_m_c_Ground_shape := z_mkr hA z_p0 (hJ _ (by decide)) (by decide) z_k_c_Ground_shape
def z_n_c_SandNights_begin : List z_N := [(49, 5, [(2, 2147483648, 2147483673)], [], [], [], [], [], [(0, 0)])]
def z_m_c_SandNights_begin : z_M := (110, [(1, 0, 0)], [], [(0, 2147483657, 2147483657), (12, 2147483651, 2147483657), (13, 2147483648, 2147483672), (14, 2147483648, 2147483672), (15, 2147483648, 2147483672), (16, 2147483656, 2147483658), (17, 2147483648, 2147483672), (19, 2147483648, 2147483672), (20, 2147483648, 2147483652), (21, 2147483648, 2147483652), (22, 2147483648, 2147483672), (23, 2147483648, 2147483672), (25, 2147483650, 2147483651), (28, 2147483649, 2147483649), (33, 2147483652, 2147483652)], 0, 3, false, [], [])
theorem z_k_c_SandNights_begin : (z_ck (z_tt, [], 0, z_n_c_SandNights_begin, [z_m_c_Ground_shape]) q_code 400 z_m_c_SandNights_begin).isSome = true := by decide +kernel
theorem r_c_SandNights_begin (hA : z_A0 l base D sa) (hJ : z_JK J) : z_Con l base D sa z_tt J z_m_c_SandNights_begin := z_mkr hA (z_p1 (r_c_Ground_shape hA hJ) z_p0) (hJ _ (by decide)) (by decide) z_k_c_SandNights_begin
def z_n_c_Finder_cheapestStep : List z_N := [(199, 10, [(4, 2147483647, 2147483672), (5, 0, 4294967295), (6, 2147483648, 2147483673)], [], [], [], [], [], [(2, 0)])]
def z_m_c_Finder_cheapestStep : z_M := (199, [(1, 28, 0), (1, 12, 0), (0, 2147483648, 2147483672), (0, 0, 4294967295)], [], [], 0, 2, true, [(0, 2147483647, 2147483672)], [])
theorem z_k_c_Finder_cheapestStep : (z_ck (z_tt, [], 0, z_n_c_Finder_cheapestStep, []) q_code 400 z_m_c_Finder_cheapestStep).isSome = true := by decide +kernel
theorem r_c_Finder_cheapestStep (hA : z_A0 l base D sa) (hJ : z_JK J) : z_Con l base D sa z_tt J z_m_c_Finder_cheapestStep := z_mkr hA z_p0 (hJ _ (by decide)) (by decide) z_k_c_Finder_cheapestStep
def z_n_c_Finder_priceAll : List z_N := [(49, 5, [(2, 2147483648, 2147483673)], [], [], [], [], [], [(0, 0)]), (205, 38, [(4, 2147483648, 2147483649), (5, 2147483648, 2147483673)], [], [], [], [], [], [(1, 0)]), (205, 56, [(4, 2147483648, 2147483649), (6, 2147483648, 2147483673)], [], [], [], [], [], [(1, 0)])]
def z_m_c_Finder_priceAll : z_M := (205, [(1, 28, 0), (1, 12, 0), (0, 2147483648, 2147483672), (0, 0, 4294967295)], [], [(30, 2147483648, 2147483672)], 0, 3, false, [], [])
theorem z_k_c_Finder_priceAll : (z_ck (z_tt, [], 0, z_n_c_Finder_priceAll, [z_m_c_Finder_cheapestStep]) q_code 468 z_m_c_Finder_priceAll).isSome = true := by decide +kernel
theorem r_c_Finder_priceAll (hA : z_A0 l base D sa) (hJ : z_JK J) : z_Con l base D sa z_tt J z_m_c_Finder_priceAll := z_mkr hA (z_p1 (r_c_Finder_cheapestStep hA hJ) z_p0) (hJ _ (by decide)) (by decide) z_k_c_Finder_priceAll
def z_n_c_Ground_flood : List z_N := [(176, 8, [(4, 0, 4294967295), (5, 2147483648, 2147483673)], [], [], [], [], [], [(1, 0)])]
def z_m_c_Ground_flood : z_M := (176, [(1, 12, 0), (0, 0, 4294967295), (0, 0, 4294967295), (0, 0, 4294967295)], [], [], 0, 1, true, [(0, 0, 4294967295)], [])
theorem z_k_c_Ground_flood : (z_ck (z_tt, [], 0, z_n_c_Ground_flood, []) q_code 400 z_m_c_Ground_flood).isSome = true := by decide +kernel
theorem r_c_Ground_flood (hA : z_A0 l base D sa) (hJ : z_JK J) : z_Con l base D sa z_tt J z_m_c_Ground_flood := z_mkr hA z_p0 (hJ _ (by decide)) (by decide) z_k_c_Ground_flood
def z_n_c_Sights_count : List z_N := [(77, 2, [(3, 2147483648, 2147483656)], [], [], [], [], [], [(0, 0)]), (19, 9, [(4, 0, 4294967295), (5, 2147483648, 2147483678)], [], [], [], [], [], [(1, 0)]), (20, 3, [(5, 2147483648, 2147483673)], [], [], [], [], [], [(0, 0)]), (4, 5, [(3, 0, 4294967295), (4, 2147483648, 2147483673)], [], [], [], [], [], [(1, 0)]), (77, 36, [(3, 2147483647, 2147483655)], [], [], [], [], [], [(0, 1)])]
def z_m_c_Sights_count : z_M := (77, [(1, 33, 0), (1, 12, 0), (0, 0, 4294967295)], [], [(38, 2147483648, 2147483847), (39, 2147483648, 2147483847)], 0, 3, false, [], [])
theorem z_k_c_Sights_count : (z_ck (z_tt, [], 0, z_n_c_Sights_count, []) q_code 771 z_m_c_Sights_count).isSome = true := by decide +kernel
theorem r_c_Sights_count (hA : z_A0 l base D sa) (hJ : z_JK J) : z_Con l base D sa z_tt J z_m_c_Sights_count := z_mkr hA z_p0 (hJ _ (by decide)) (by decide) z_k_c_Sights_count
def z_n_c_Sand_copyOf : List z_N := []
def z_m_c_Sand_copyOf : z_M := (65, [(1, 16, 0), (1, 16, 0)], [], [(16, 2147483656, 2147483658), (17, 2147483648, 2147483672), (18, 2147483648, 2147483672), (19, 2147483648, 2147483672), (20, 2147483648, 2147483652), (21, 2147483648, 2147483652), (22, 2147483648, 2147483672), (23, 2147483648, 2147483672), (24, 2147483648, 2147483947)], 0, 1, false, [], [])
theorem z_k_c_Sand_copyOf : (z_ck (z_tt, [], 0, z_n_c_Sand_copyOf, []) q_code 400 z_m_c_Sand_copyOf).isSome = true := by decide +kernel
theorem r_c_Sand_copyOf (hA : z_A0 l base D sa) (hJ : z_JK J) : z_Con l base D sa z_tt J z_m_c_Sand_copyOf := z_mkr hA z_p0 (hJ _ (by decide)) (by decide) z_k_c_Sand_copyOf
def z_n_c_SandNights_feed : List z_N := [(63, 3, [(2, 0, 2147483672)], [], [], [], [(0, 1, 2147483648, 2147485248)], [], [(0, 1)])]
def z_m_c_SandNights_feed : z_M := (149, [(1, 0, 0), (0, 0, 4294967295), (0, 0, 4294967295), (0, 0, 4294967295), (0, 0, 4294967295), (0, 0, 4294967295)], [], [(0, 2147483649, 2147483649), (1, 2147483648, 2147485247)], 0, 1, true, [(0, 2147483647, 2147485248)], [])
theorem z_k_c_SandNights_feed : (z_ck (z_tt, [], 0, z_n_c_SandNights_feed, []) q_code 400 z_m_c_SandNights_feed).isSome = true := by decide +kernel
theorem r_c_SandNights_feed (hA : z_A0 l base D sa) (hJ : z_JK J) : z_Con l base D sa z_tt J z_m_c_SandNights_feed := z_mkr hA z_p0 (hJ _ (by decide)) (by decide) z_k_c_SandNights_feed
def z_n_c_SandNights_end : List z_N := []
def z_m_c_SandNights_end : z_M := (64, [(1, 0, 0), (0, 0, 4294967295)], [], [(0, 2147483649, 2147483649)], 0, 0, true, [(0, 2147483647, 2147485248)], [])
theorem z_k_c_SandNights_end : (z_ck (z_tt, [], 0, z_n_c_SandNights_end, []) q_code 400 z_m_c_SandNights_end).isSome = true := by decide +kernel
theorem r_c_SandNights_end (hA : z_A0 l base D sa) (hJ : z_JK J) : z_Con l base D sa z_tt J z_m_c_SandNights_end := z_mkr hA z_p0 (hJ _ (by decide)) (by decide) z_k_c_SandNights_end
def z_n_c_SandNights_beach : List z_N := []
def z_m_c_SandNights_beach : z_M := (151, [(1, 0, 0)], [], [(0, 2147483649, 2147483649), (0, 2147483651, 2147483652), (0, 2147483657, 2147483657), (2, 2147483649, 2147483662), (4, 2147483652, 2147483659), (5, 2147483648, 2147483652), (6, 2147483648, 2147483652), (7, 2147483648, 2147483652), (8, 2147483651, 2147483651), (9, 2147483648, 2147483927), (12, 2147483651, 2147483657), (13, 2147483648, 2147483672), (14, 2147483648, 2147483672), (15, 2147483648, 2147483672), (16, 2147483656, 2147483658), (17, 2147483648, 2147483672), (19, 2147483648, 2147483672), (20, 2147483648, 2147483652), (21, 2147483648, 2147483652), (22, 2147483648, 2147483672), (23, 2147483648, 2147483672), (25, 2147483650, 2147483651), (28, 2147483649, 2147483649), (33, 2147483652, 2147483652)], 0, 66, true, [(0, 2147483647, 2147483653)], [])
theorem z_k_c_SandNights_beach : (z_ck (z_tt, [], 0, z_n_c_SandNights_beach, [z_m_c_SandNights_begin, z_m_c_Reader_read]) q_code 400 z_m_c_SandNights_beach).isSome = true := by decide +kernel
theorem r_c_SandNights_beach (hA : z_A0 l base D sa) (hJ : z_JK J) : z_Con l base D sa z_tt J z_m_c_SandNights_beach := z_mkr hA (z_p1 (r_c_SandNights_begin hA hJ) (z_p1 (r_c_Reader_read hA hJ) z_p0)) (hJ _ (by decide)) (by decide) z_k_c_SandNights_beach
def z_n_c_SandNights_fault : List z_N := []
def z_m_c_SandNights_fault : z_M := (60, [(1, 0, 0), (0, 0, 4294967295)], [], [], 0, 0, true, [(0, 0, 4294967295)], [])
theorem z_k_c_SandNights_fault : (z_ck (z_tt, [], 0, z_n_c_SandNights_fault, []) q_code 400 z_m_c_SandNights_fault).isSome = true := by decide +kernel
theorem r_c_SandNights_fault (hA : z_A0 l base D sa) (hJ : z_JK J) : z_Con l base D sa z_tt J z_m_c_SandNights_fault := z_mkr hA z_p0 (hJ _ (by decide)) (by decide) z_k_c_SandNights_fault
def z_n_c_SandNights_walker : List z_N := [(234, 4, [(2, 2147483648, 4294967295), (3, 2147483648, 2147483673)], [], [], [], [], [], [(1, 0)])]
def z_m_c_SandNights_walker : z_M := (83, [(1, 0, 0), (0, 0, 4294967295), (0, 0, 4294967295)], [], [], 0, 2, true, [(0, 0, 4294967295)], [])
theorem z_k_c_SandNights_walker : (z_ck (z_tt, [], 0, z_n_c_SandNights_walker, []) q_code 400 z_m_c_SandNights_walker).isSome = true := by decide +kernel
theorem r_c_SandNights_walker (hA : z_A0 l base D sa) (hJ : z_JK J) : z_Con l base D sa z_tt J z_m_c_SandNights_walker := z_mkr hA z_p0 (hJ _ (by decide)) (by decide) z_k_c_SandNights_walker
def z_n_c_SandNights_sand : List z_N := [(161, 5, [(3, 2147483648, 4294967295), (4, 2147483648, 2147483653)], [], [], [], [], [], [(1, 0)])]
def z_m_c_SandNights_sand : z_M := (15, [(1, 0, 0), (0, 0, 4294967295), (0, 0, 4294967295)], [], [(10, 2147483648, 2147483678), (11, 2147483648, 2147483652)], 0, 3, true, [(0, 0, 4294967295)], [])
theorem z_k_c_SandNights_sand : (z_ck (z_tt, [], 0, z_n_c_SandNights_sand, [z_m_c_Formula_value]) q_code 400 z_m_c_SandNights_sand).isSome = true := by decide +kernel
theorem r_c_SandNights_sand (hA : z_A0 l base D sa) (hJ : z_JK J) : z_Con l base D sa z_tt J z_m_c_SandNights_sand := z_mkr hA (z_p1 (r_c_Formula_value hA hJ) z_p0) (hJ _ (by decide)) (by decide) z_k_c_SandNights_sand
def z_n_c_SandNights_over : List z_N := []
def z_m_c_SandNights_over : z_M := (84, [(1, 0, 0), (0, 0, 4294967295), (0, 0, 4294967295)], [], [], 0, 2, true, [(0, 0, 4294967295)], [])
theorem z_k_c_SandNights_over : (z_ck (z_tt, [], 0, z_n_c_SandNights_over, []) q_code 400 z_m_c_SandNights_over).isSome = true := by decide +kernel
theorem r_c_SandNights_over (hA : z_A0 l base D sa) (hJ : z_JK J) : z_Con l base D sa z_tt J z_m_c_SandNights_over := z_mkr hA z_p0 (hJ _ (by decide)) (by decide) z_k_c_SandNights_over
def z_n_c_SandNights_met : List z_N := []
def z_m_c_SandNights_met : z_M := (85, [(1, 0, 0), (0, 0, 4294967295), (0, 0, 4294967295)], [], [], 0, 2, true, [(0, 0, 4294967295)], [])
theorem z_k_c_SandNights_met : (z_ck (z_tt, [], 0, z_n_c_SandNights_met, []) q_code 400 z_m_c_SandNights_met).isSome = true := by decide +kernel
theorem r_c_SandNights_met (hA : z_A0 l base D sa) (hJ : z_JK J) : z_Con l base D sa z_tt J z_m_c_SandNights_met := z_mkr hA z_p0 (hJ _ (by decide)) (by decide) z_k_c_SandNights_met
def z_n_c_SandNights_prints : List z_N := [(47, 4, [(1, 2147483648, 4294967295), (2, 2147483648, 2147483673)], [], [], [], [], [], [(1, 0)])]
def z_m_c_SandNights_prints : z_M := (46, [(1, 0, 0)], [], [], 0, 2, true, [(0, 2147483648, 2147483711)], [])
theorem z_k_c_SandNights_prints : (z_ck (z_tt, [], 0, z_n_c_SandNights_prints, []) q_code 400 z_m_c_SandNights_prints).isSome = true := by decide +kernel
theorem r_c_SandNights_prints (hA : z_A0 l base D sa) (hJ : z_JK J) : z_Con l base D sa z_tt J z_m_c_SandNights_prints := z_mkr hA z_p0 (hJ _ (by decide)) (by decide) z_k_c_SandNights_prints
def z_n_c_SandNights_step : List z_N := []
def z_m_c_SandNights_step : z_M := (86, [(1, 0, 0), (0, 0, 4294967295), (0, 0, 4294967295)], [], [(16, 2147483656, 2147483658), (17, 2147483648, 2147483672), (18, 2147483648, 2147483672), (19, 2147483648, 2147483672), (20, 2147483648, 2147483652), (21, 2147483648, 2147483652), (22, 2147483648, 2147483672), (23, 2147483648, 2147483672), (24, 2147483648, 2147483947), (25, 2147483649, 2147483651)], 1, 5, true, [(0, 0, 4294967295)], [])
theorem z_k_c_SandNights_step : (z_ck (z_tt, [], 0, z_n_c_SandNights_step, []) q_code 1208 z_m_c_SandNights_step).isSome = true := by decide +kernel
theorem r_c_SandNights_step (hA : z_A0 l base D sa) (hJ : z_JK J) : z_Con l base D sa z_tt J z_m_c_SandNights_step := z_mkr hA z_p0 (hJ _ (by decide)) (by decide) z_k_c_SandNights_step
def z_n_c_SandNights_minute : List z_N := [(164, 2, [(2, 2147483648, 2147483653)], [], [], [], [], [], [(0, 0)]), (164, 37, [(3, 2147483648, 2147483653)], [], [], [], [], [], [(0, 0)]), (163, 44, [(1, 0, 4294967295), (2, 2147483648, 2147483673)], [], [], [], [], [], [(1, 0)])]
def z_m_c_SandNights_minute : z_M := (163, [(1, 0, 0)], [], [(10, 2147483648, 2147483678), (11, 2147483648, 2147483652), (16, 2147483656, 2147483658), (17, 2147483648, 2147483672), (18, 2147483648, 2147483672), (19, 2147483648, 2147483672), (20, 2147483648, 2147483652), (21, 2147483648, 2147483652), (22, 2147483648, 2147483672), (23, 2147483648, 2147483672), (24, 2147483648, 2147483947), (25, 2147483649, 2147483651)], 1, 5, true, [(0, 0, 4294967295)], [])
theorem z_k_c_SandNights_minute : (z_ck (z_tt, [], 0, z_n_c_SandNights_minute, [z_m_c_Formula_value]) q_code 1317 z_m_c_SandNights_minute).isSome = true := by decide +kernel
theorem r_c_SandNights_minute (hA : z_A0 l base D sa) (hJ : z_JK J) : z_Con l base D sa z_tt J z_m_c_SandNights_minute := z_mkr hA (z_p1 (r_c_Formula_value hA hJ) z_p0) (hJ _ (by decide)) (by decide) z_k_c_SandNights_minute
end ZR

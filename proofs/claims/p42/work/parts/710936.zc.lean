/-! ===== runs of the class ===== -/
section ZR
variable {l : Launch} {base : Nat} {D : va_G} {sa : Nat → Nat} {J : va_W → List Nat → Prop}
def z_n_c_SandNights_crowd : List z_N := [(61, 25, [(3, 2147483647, 2147483707), (4, 2147483648, 4294967295), (5, 2147483648, 2147483708)], [], [], [], [], [], [(2, 0)]), (61, 34, [(3, 2147483647, 2147483707), (4, 2147483648, 4294967295), (6, 2147483648, 2147483653)], [], [], [], [], [], [(2, 0)]), (236, 6, [(4, 0, 4294967295), (5, 2147483648, 2147483653)], [], [], [], [], [], [(1, 0)])]
def z_m_c_SandNights_crowd : z_M := (61, [(1, 0, 0), (0, 0, 4294967295)], [], [], 0, 2, true, [(0, 2147483647, 4294967295)], [])
theorem z_k_c_SandNights_crowd : (z_ck (z_tt, [], 0, z_n_c_SandNights_crowd, []) q_code 540 z_m_c_SandNights_crowd).isSome = true := by decide +kernel
theorem r_c_SandNights_crowd (hA : z_A0 l base D sa) (hJ : z_JK J) : z_Con l base D sa z_tt J z_m_c_SandNights_crowd := z_mkr hA z_p0 (hJ _ (by decide)) (by decide) z_k_c_SandNights_crowd
def z_n_c_SandNights_remains : List z_N := [(47, 4, [(1, 2147483648, 4294967295), (2, 2147483648, 2147483673)], [], [], [], [], [], [(1, 0)]), (24, 4, [(2, 0, 4294967295), (3, 2147483648, 2147483651)], [], [], [], [], [], [(1, 0)]), (37, 8, [(3, 0, 4294967295), (4, 0, 4294967295), (5, 2147483648, 2147483748)], [], [], [], [], [], [(2, 0)])]
def z_m_c_SandNights_remains : z_M := (33, [(1, 0, 0), (0, 0, 4294967295), (0, 0, 4294967295)], [], [], 0, 3, true, [(0, 0, 4294967295)], [])
theorem z_k_c_SandNights_remains : (z_ck (z_tt, [], 0, z_n_c_SandNights_remains, [z_m_c_SandNights_prints]) q_code 527 z_m_c_SandNights_remains).isSome = true := by decide +kernel
theorem r_c_SandNights_remains (hA : z_A0 l base D sa) (hJ : z_JK J) : z_Con l base D sa z_tt J z_m_c_SandNights_remains := z_mkr hA (z_p1 (r_c_SandNights_prints hA hJ) z_p0) (hJ _ (by decide)) (by decide) z_k_c_SandNights_remains
def z_n_c_SandNights_cover : List z_N := [(75, 28, [(3, 2147483647, 2147483679), (4, 2147483648, 2147483680)], [], [], [], [], [], [(1, 0)]), (102, 4, [(2, 0, 4294967295), (3, 2147483648, 2147483653)], [], [], [], [], [], [(1, 0)])]
def z_m_c_SandNights_cover : z_M := (75, [(1, 0, 0), (0, 0, 4294967295), (0, 0, 4294967295)], [], [], 0, 2, true, [(0, 2147483647, 2147483711)], [])
theorem z_k_c_SandNights_cover : (z_ck (z_tt, [], 0, z_n_c_SandNights_cover, []) q_code 663 z_m_c_SandNights_cover).isSome = true := by decide +kernel
theorem r_c_SandNights_cover (hA : z_A0 l base D sa) (hJ : z_JK J) : z_Con l base D sa z_tt J z_m_c_SandNights_cover := z_mkr hA z_p0 (hJ _ (by decide)) (by decide) z_k_c_SandNights_cover
def z_n_c_SandNights_orders : List z_N := [(182, 18, [(3, 0, 4294967295), (4, 2147483648, 2147483653)], [], [], [], [], [], [(1, 0)]), (238, 5, [(3, 2147483648, 4294967295), (4, 2147483648, 2147483653)], [], [], [], [], [], [(1, 0)])]
def z_m_c_SandNights_orders : z_M := (181, [(1, 0, 0)], [], [], 0, 10, true, [(0, 0, 4294967295)], [])
theorem z_k_c_SandNights_orders : (z_ck (z_tt, [], 0, z_n_c_SandNights_orders, []) q_code 658 z_m_c_SandNights_orders).isSome = true := by decide +kernel
theorem r_c_SandNights_orders (hA : z_A0 l base D sa) (hJ : z_JK J) : z_Con l base D sa z_tt J z_m_c_SandNights_orders := z_mkr hA z_p0 (hJ _ (by decide)) (by decide) z_k_c_SandNights_orders
def z_n_c_SandNights_may : List z_N := [(52, 18, [(2, 2147483648, 4294967295), (3, 2147483648, 2147483653)], [], [], [], [], [], [(1, 0)])]
def z_m_c_SandNights_may : z_M := (52, [(1, 0, 0), (0, 0, 4294967295)], [], [], 0, 1, true, [(0, 2147483647, 4294967295)], [])
theorem z_k_c_SandNights_may : (z_ck (z_tt, [], 0, z_n_c_SandNights_may, []) q_code 400 z_m_c_SandNights_may).isSome = true := by decide +kernel
theorem r_c_SandNights_may (hA : z_A0 l base D sa) (hJ : z_JK J) : z_Con l base D sa z_tt J z_m_c_SandNights_may := z_mkr hA z_p0 (hJ _ (by decide)) (by decide) z_k_c_SandNights_may
def z_n_c_SandNights_matched : List z_N := [(52, 18, [(2, 2147483648, 4294967295), (3, 2147483648, 2147483653)], [], [], [], [], [], [(1, 0)]), (138, 13, [(5, 0, 4294967295), (6, 2147483648, 2147483653)], [], [], [], [], [], [(1, 0)])]
def z_m_c_SandNights_matched : z_M := (73, [(1, 0, 0), (0, 0, 4294967295), (0, 0, 4294967295), (0, 0, 4294967295), (0, 0, 4294967295)], [], [], 0, 8, true, [(0, 0, 4294967295)], [])
theorem z_k_c_SandNights_matched : (z_ck (z_tt, [], 0, z_n_c_SandNights_matched, [z_m_c_SandNights_may]) q_code 1405 z_m_c_SandNights_matched).isSome = true := by decide +kernel
theorem r_c_SandNights_matched (hA : z_A0 l base D sa) (hJ : z_JK J) : z_Con l base D sa z_tt J z_m_c_SandNights_matched := z_mkr hA (z_p1 (r_c_SandNights_may hA hJ) z_p0) (hJ _ (by decide)) (by decide) z_k_c_SandNights_matched
def z_n_c_SandNights_catches : List z_N := [(206, 3, [(4, 2147483648, 2147483673)], [], [], [], [], [], [(0, 0)]), (206, 36, [(4, 2147483648, 4294967295), (5, 2147483648, 2147484647)], [], [], [], [], [], [(1, 0)]), (206, 68, [(6, 2147483648, 2147483673)], [], [], [], [], [], [(0, 0)]), (206, 103, [(4, 2147483648, 4294967295), (6, 2147483648, 2147483673)], [], [], [], [], [], [(1, 0)]), (198, 8, [(3, 2147483648, 4294967295), (4, 2147483648, 2147483673)], [], [], [], [], [], [(1, 0)]), (207, 4, [(2, 0, 4294967295), (3, 2147483648, 2147483673)], [], [], [], [], [], [(1, 0)])]
def z_m_c_SandNights_catches : z_M := (98, [(1, 0, 0), (0, 0, 4294967295), (0, 0, 4294967295)], [], [(31, 2147483648, 2147483672), (32, 2147483648, 2147483672)], 0, 3, true, [(0, 2147483647, 2147484273)], [])
theorem z_k_c_SandNights_catches : (z_ck (z_tt, [], 0, z_n_c_SandNights_catches, []) q_code 417 z_m_c_SandNights_catches).isSome = true := by decide +kernel
theorem r_c_SandNights_catches (hA : z_A0 l base D sa) (hJ : z_JK J) : z_Con l base D sa z_tt J z_m_c_SandNights_catches := z_mkr hA z_p0 (hJ _ (by decide)) (by decide) z_k_c_SandNights_catches
def z_n_c_SandNights_lasts : List z_N := [(24, 4, [(2, 0, 4294967295), (3, 2147483648, 2147483652)], [], [], [], [], [], [(1, 0)]), (37, 8, [(3, 0, 4294967295), (4, 0, 4294967295), (5, 2147483648, 2147483748)], [], [], [], [], [], [(2, 0)])]
def z_m_c_SandNights_lasts : z_M := (30, [(1, 0, 0), (0, 0, 4294967295), (0, 0, 4294967295)], [], [], 0, 1, true, [(0, 0, 4294967295)], [])
theorem z_k_c_SandNights_lasts : (z_ck (z_tt, [], 0, z_n_c_SandNights_lasts, []) q_code 400 z_m_c_SandNights_lasts).isSome = true := by decide +kernel
theorem r_c_SandNights_lasts (hA : z_A0 l base D sa) (hJ : z_JK J) : z_Con l base D sa z_tt J z_m_c_SandNights_lasts := z_mkr hA z_p0 (hJ _ (by decide)) (by decide) z_k_c_SandNights_lasts
def z_n_c_SandNights_tides : List z_N := [(105, 16, [(2, 0, 4294967295), (3, 2147483648, 2147483673)], [], [], [], [], [], [(1, 0)]), (194, 2, [(3, 2147483649, 2147483709)], [], [], [], [], [], [(0, 0)])]
def z_m_c_SandNights_tides : z_M := (105, [(1, 0, 0), (0, 0, 4294967295)], [], [(10, 2147483648, 2147483678), (11, 2147483648, 2147483652)], 0, 4, true, [(0, 0, 4294967295)], [])
theorem z_k_c_SandNights_tides : (z_ck (z_tt, [], 0, z_n_c_SandNights_tides, [z_m_c_Formula_value]) q_code 400 z_m_c_SandNights_tides).isSome = true := by decide +kernel
theorem r_c_SandNights_tides (hA : z_A0 l base D sa) (hJ : z_JK J) : z_Con l base D sa z_tt J z_m_c_SandNights_tides := z_mkr hA (z_p1 (r_c_Formula_value hA hJ) z_p0) (hJ _ (by decide)) (by decide) z_k_c_SandNights_tides
def z_n_c_SandNights_boldest : List z_N := [(184, 6, [(1, 2147483647, 2147483652), (2, 2147483647, 2147483738), (3, 2147483648, 2147483653)], [], [], [], [], [], [(2, 0)]), (234, 4, [(2, 2147483648, 4294967295), (3, 2147483648, 2147483673)], [], [], [], [], [], [(1, 0)])]
def z_m_c_SandNights_boldest : z_M := (184, [(1, 0, 0)], [], [], 0, 2, true, [(0, 2147483647, 2147483652)], [])
theorem z_k_c_SandNights_boldest : (z_ck (z_tt, [], 0, z_n_c_SandNights_boldest, []) q_code 400 z_m_c_SandNights_boldest).isSome = true := by decide +kernel
theorem r_c_SandNights_boldest (hA : z_A0 l base D sa) (hJ : z_JK J) : z_Con l base D sa z_tt J z_m_c_SandNights_boldest := z_mkr hA z_p0 (hJ _ (by decide)) (by decide) z_k_c_SandNights_boldest
def z_n_c_SandNights_lies : List z_N := []
def z_m_c_SandNights_lies : z_M := (99, [(1, 0, 0), (0, 0, 4294967295)], [], [], 0, 0, true, [(0, 0, 4294967295)], [])
theorem z_k_c_SandNights_lies : (z_ck (z_tt, [], 0, z_n_c_SandNights_lies, []) q_code 400 z_m_c_SandNights_lies).isSome = true := by decide +kernel
theorem r_c_SandNights_lies (hA : z_A0 l base D sa) (hJ : z_JK J) : z_Con l base D sa z_tt J z_m_c_SandNights_lies := z_mkr hA z_p0 (hJ _ (by decide)) (by decide) z_k_c_SandNights_lies
def z_n_c_SandNights_seen : List z_N := []
def z_m_c_SandNights_seen : z_M := (27, [(1, 0, 0), (0, 0, 4294967295), (0, 0, 4294967295), (0, 2147483648, 2147483649)], [], [(33, 2147483652, 2147483652), (34, 2147483648, 2147483677), (35, 2147483648, 2147483677), (36, 2147483648, 2147483677), (37, 2147483648, 2147483677)], 0, 1, true, [(0, 2147483647, 2147483677)], [])
theorem z_k_c_SandNights_seen : (z_ck (z_tt, [], 0, z_n_c_SandNights_seen, []) q_code 400 z_m_c_SandNights_seen).isSome = true := by decide +kernel
theorem r_c_SandNights_seen (hA : z_A0 l base D sa) (hJ : z_JK J) : z_Con l base D sa z_tt J z_m_c_SandNights_seen := z_mkr hA z_p0 (hJ _ (by decide)) (by decide) z_k_c_SandNights_seen
def z_n_c_SandNights_inRow : List z_N := []
def z_m_c_SandNights_inRow : z_M := (28, [(1, 0, 0), (0, 0, 4294967295), (0, 0, 4294967295), (0, 2147483648, 2147483649)], [], [(33, 2147483652, 2147483652), (34, 2147483648, 2147483677), (35, 2147483648, 2147483677), (36, 2147483648, 2147483677), (37, 2147483648, 2147483677)], 0, 2, true, [(0, 2147483647, 2147483677)], [])
theorem z_k_c_SandNights_inRow : (z_ck (z_tt, [], 0, z_n_c_SandNights_inRow, []) q_code 400 z_m_c_SandNights_inRow).isSome = true := by decide +kernel
theorem r_c_SandNights_inRow (hA : z_A0 l base D sa) (hJ : z_JK J) : z_Con l base D sa z_tt J z_m_c_SandNights_inRow := z_mkr hA z_p0 (hJ _ (by decide)) (by decide) z_k_c_SandNights_inRow
def z_n_c_SandNights_untell : List z_N := []
def z_m_c_SandNights_untell : z_M := (100, [(1, 0, 0), (0, 0, 4294967295)], [], [(37, 2147483648, 2147483677)], 0, 1, true, [(0, 2147483648, 2147483648), (0, 2147483649, 2147483649)], [])
def z_h_c_SandNights_untell : z_M := (100, [(1, 0, 0), (0, 0, 4294967295)], [], [(37, 2147483648, 2147483677)], 0, 1, true, [(0, 2147483648, 2147483649)], [])
theorem z_k_c_SandNights_untell : (z_ck (z_tt, [], 0, z_n_c_SandNights_untell, []) q_code 400 z_h_c_SandNights_untell).isSome = true := by decide +kernel
theorem r_c_SandNights_untell (hA : z_A0 l base D sa) (hJ : z_JK J) : z_Con l base D sa z_tt J z_m_c_SandNights_untell := z_split (z_mkr (M := z_h_c_SandNights_untell) hA z_p0 (hJ _ (by decide)) (by decide) z_k_c_SandNights_untell)
def z_n_c_SandNights_paths : List z_N := [(107, 4, [(1, 0, 4294967295), (2, 2147483648, 2147483673)], [], [], [], [], [], [(1, 0)])]
def z_m_c_SandNights_paths : z_M := (186, [(1, 0, 0), (0, 0, 4294967295)], [], [(38, 2147483648, 2147483847), (39, 2147483648, 2147483847)], 0, 4, true, [(0, 0, 4294967295)], [])
theorem z_k_c_SandNights_paths : (z_ck (z_tt, [], 0, z_n_c_SandNights_paths, [z_m_c_Sights_count]) q_code 400 z_m_c_SandNights_paths).isSome = true := by decide +kernel
theorem r_c_SandNights_paths (hA : z_A0 l base D sa) (hJ : z_JK J) : z_Con l base D sa z_tt J z_m_c_SandNights_paths := z_mkr hA (z_p1 (r_c_Sights_count hA hJ) z_p0) (hJ _ (by decide)) (by decide) z_k_c_SandNights_paths
def z_n_c_SandNights_sure : List z_N := [(189, 4, [(2, 2147483648, 4294967295), (3, 2147483648, 2147483673)], [], [], [], [], [], [(1, 0)])]
def z_m_c_SandNights_sure : z_M := (188, [(1, 0, 0), (0, 0, 4294967295), (0, 0, 4294967295)], [], [(38, 2147483648, 2147483847), (39, 2147483648, 2147483847)], 0, 4, true, [(0, 2147483646, 2147483711)], [])
theorem z_k_c_SandNights_sure : (z_ck (z_tt, [], 0, z_n_c_SandNights_sure, [z_m_c_Sights_count]) q_code 400 z_m_c_SandNights_sure).isSome = true := by decide +kernel
theorem r_c_SandNights_sure (hA : z_A0 l base D sa) (hJ : z_JK J) : z_Con l base D sa z_tt J z_m_c_SandNights_sure := z_mkr hA (z_p1 (r_c_Sights_count hA hJ) z_p0) (hJ _ (by decide)) (by decide) z_k_c_SandNights_sure
def z_n_c_SandNights_ask : List z_N := [(107, 4, [(1, 0, 4294967295), (2, 2147483648, 2147483673)], [], [], [], [], [], [(1, 0)]), (44, 4, [(2, 2147483648, 4294967295), (3, 2147483648, 2147483673)], [], [], [], [], [], [(1, 0)]), (140, 48, [(3, 2147483648, 2147483655), (4, 2147483648, 4294967295), (5, 2147483649, 2147483656)], [], [], [], [], [], [(2, 0)])]
def z_m_c_SandNights_ask : z_M := (140, [(1, 0, 0), (0, 0, 4294967295), (0, 0, 4294967295)], [], [(38, 2147483648, 2147483847), (39, 2147483648, 2147483847)], 0, 4, true, [(0, 2147483647, 4294967295)], [])
theorem z_k_c_SandNights_ask : (z_ck (z_tt, [], 0, z_n_c_SandNights_ask, [z_m_c_Sights_count]) q_code 694 z_m_c_SandNights_ask).isSome = true := by decide +kernel
theorem r_c_SandNights_ask (hA : z_A0 l base D sa) (hJ : z_JK J) : z_Con l base D sa z_tt J z_m_c_SandNights_ask := z_mkr hA (z_p1 (r_c_Sights_count hA hJ) z_p0) (hJ _ (by decide)) (by decide) z_k_c_SandNights_ask
end ZR

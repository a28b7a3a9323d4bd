/-! ===== runs of the class ===== -/
section ZR
variable {l : Launch} {base : Nat} {D : va_G} {sa : Nat → Nat} {J : va_W → List Nat → Prop}
def z_n_c_Reader_takeWord : List z_N := [(233, 13, [], [], [], [(2, 2147483658, 2147483658)], [(2, 7, 2147483648, 2147485248)], [], [(0, 0)]), (233, 110, [(3, 0, 4294967295), (4, 2147483648, 2147483738)], [1], [], [], [(2, 8, 0, 4294967295)], [], [(1, 0)])]
def z_m_c_Reader_takeWord : z_M := (233, [(1, 2, 0)], [], [(2, 2147483655, 2147483656), (2, 2147483658, 2147483658)], 0, 6, false, [], [])
theorem z_k_c_Reader_takeWord : (z_ck (z_tt, [], 0, z_n_c_Reader_takeWord, []) q_code 947 z_m_c_Reader_takeWord).isSome = true := by decide +kernel
theorem r_c_Reader_takeWord (hA : z_A0 l base D sa) (hJ : z_JK J) : z_Con l base D sa z_tt J z_m_c_Reader_takeWord := z_mkr hA z_p0 (hJ _ (by decide)) (by decide) z_k_c_Reader_takeWord
def z_n_c_Reader_takeNumber : List z_N := [(232, 13, [], [], [], [], [(2, 7, 2147483648, 2147485248), (2, 9, 0, 4294967295)], [], [(0, 0)])]
def z_m_c_Reader_takeNumber : z_M := (232, [(1, 2, 0)], [], [(2, 2147483655, 2147483657)], 0, 1, false, [], [])
theorem z_k_c_Reader_takeNumber : (z_ck (z_tt, [], 0, z_n_c_Reader_takeNumber, []) q_code 630 z_m_c_Reader_takeNumber).isSome = true := by decide +kernel
theorem r_c_Reader_takeNumber (hA : z_A0 l base D sa) (hJ : z_JK J) : z_Con l base D sa z_tt J z_m_c_Reader_takeNumber := z_mkr hA z_p0 (hJ _ (by decide)) (by decide) z_k_c_Reader_takeNumber
def z_n_c_Reader_advance : List z_N := [(154, 8, [], [], [], [], [(2, 6, 2147483648, 2147485248)], [], [(0, 0)])]
def z_m_c_Reader_advance : z_M := (154, [(1, 2, 0)], [], [(2, 2147483654, 2147483658)], 0, 7, false, [], [])
theorem z_k_c_Reader_advance : (z_ck (z_tt, [], 0, z_n_c_Reader_advance, [z_m_c_Reader_takeNumber, z_m_c_Reader_takeWord]) q_code 1036 z_m_c_Reader_advance).isSome = true := by decide +kernel
theorem r_c_Reader_advance (hA : z_A0 l base D sa) (hJ : z_JK J) : z_Con l base D sa z_tt J z_m_c_Reader_advance := z_mkr hA (z_p1 (r_c_Reader_takeNumber hA hJ) (z_p1 (r_c_Reader_takeWord hA hJ) z_p0)) (hJ _ (by decide)) (by decide) z_k_c_Reader_advance
def z_n_c_Reader_readUnit7 : List z_N := []
def z_m_c_Reader_readUnit7 : z_M := (228, [(1, 2, 0), (0, 2147483655, 2147483655)], [(0, 3, (1, 4, 0))], [(2, 2147483652, 2147483658), (4, 2147483659, 2147483659), (8, 2147483651, 2147483651), (9, 2147483648, 2147483927)], 0, 14, true, [(0, 2147483648, 2147483648), (0, 2147483649, 2147483649)], [])
theorem z_k_c_Reader_readUnit7 : (z_ck (z_tt, [], 0, z_n_c_Reader_readUnit7, [z_m_c_Reader_advance]) q_code 400 z_m_c_Reader_readUnit7).isSome = true := by decide +kernel
theorem r_c_Reader_readUnit7 (hA : z_A0 l base D sa) (hJ : z_JK J) : z_Con l base D sa z_tt J z_m_c_Reader_readUnit7 := z_mkr hA (z_p1 (r_c_Reader_advance hA hJ) z_p0) (hJ _ (by decide)) (by decide) z_k_c_Reader_readUnit7
def z_n_c_Reader_readTerm7 : List z_N := [(226, 8, [(2, 2147483648, 2147483649), (3, 2147483648, 2147485248)], [], [], [], [], [], [(1, 0)])]
def z_m_c_Reader_readTerm7 : z_M := (226, [(1, 2, 0), (0, 2147483655, 2147483655)], [(0, 3, (1, 4, 0))], [(2, 2147483652, 2147483658), (4, 2147483659, 2147483659), (8, 2147483651, 2147483651), (9, 2147483648, 2147483927)], 0, 15, true, [(0, 2147483648, 2147483648), (0, 2147483649, 2147483649)], [])
theorem z_k_c_Reader_readTerm7 : (z_ck (z_tt, [], 0, z_n_c_Reader_readTerm7, [z_m_c_Reader_advance, z_m_c_Reader_readUnit7]) q_code 635 z_m_c_Reader_readTerm7).isSome = true := by decide +kernel
theorem r_c_Reader_readTerm7 (hA : z_A0 l base D sa) (hJ : z_JK J) : z_Con l base D sa z_tt J z_m_c_Reader_readTerm7 := z_mkr hA (z_p1 (r_c_Reader_advance hA hJ) (z_p1 (r_c_Reader_readUnit7 hA hJ) z_p0)) (hJ _ (by decide)) (by decide) z_k_c_Reader_readTerm7
def z_n_c_Reader_readSum7 : List z_N := [(225, 8, [(2, 2147483648, 2147483649), (3, 2147483648, 2147485248)], [], [], [], [], [], [(1, 0)])]
def z_m_c_Reader_readSum7 : z_M := (225, [(1, 2, 0), (0, 2147483655, 2147483655)], [(0, 3, (1, 4, 0))], [(2, 2147483652, 2147483658), (4, 2147483659, 2147483659), (8, 2147483651, 2147483651), (9, 2147483648, 2147483927)], 0, 16, true, [(0, 2147483648, 2147483648), (0, 2147483649, 2147483649)], [])
theorem z_k_c_Reader_readSum7 : (z_ck (z_tt, [], 0, z_n_c_Reader_readSum7, [z_m_c_Reader_advance, z_m_c_Reader_readTerm7]) q_code 467 z_m_c_Reader_readSum7).isSome = true := by decide +kernel
theorem r_c_Reader_readSum7 (hA : z_A0 l base D sa) (hJ : z_JK J) : z_Con l base D sa z_tt J z_m_c_Reader_readSum7 := z_mkr hA (z_p1 (r_c_Reader_advance hA hJ) (z_p1 (r_c_Reader_readTerm7 hA hJ) z_p0)) (hJ _ (by decide)) (by decide) z_k_c_Reader_readSum7
def z_n_c_Reader_readOne7 : List z_N := []
def z_m_c_Reader_readOne7 : z_M := (223, [(1, 2, 0), (0, 2147483655, 2147483655)], [(0, 3, (1, 4, 0))], [(2, 2147483652, 2147483658), (4, 2147483659, 2147483659), (8, 2147483651, 2147483651), (9, 2147483648, 2147483927)], 0, 18, true, [(0, 2147483648, 2147483648), (0, 2147483649, 2147483649)], [])
theorem z_k_c_Reader_readOne7 : (z_ck (z_tt, [], 0, z_n_c_Reader_readOne7, [z_m_c_Reader_advance, z_m_c_Reader_readSum7]) q_code 400 z_m_c_Reader_readOne7).isSome = true := by decide +kernel
theorem r_c_Reader_readOne7 (hA : z_A0 l base D sa) (hJ : z_JK J) : z_Con l base D sa z_tt J z_m_c_Reader_readOne7 := z_mkr hA (z_p1 (r_c_Reader_advance hA hJ) (z_p1 (r_c_Reader_readSum7 hA hJ) z_p0)) (hJ _ (by decide)) (by decide) z_k_c_Reader_readOne7
def z_n_c_Reader_readBoth7 : List z_N := [(216, 8, [(2, 2147483648, 2147483649), (3, 2147483648, 2147485248)], [], [], [], [], [], [(1, 0)])]
def z_m_c_Reader_readBoth7 : z_M := (216, [(1, 2, 0), (0, 2147483655, 2147483655)], [(0, 3, (1, 4, 0))], [(2, 2147483652, 2147483658), (4, 2147483659, 2147483659), (8, 2147483651, 2147483651), (9, 2147483648, 2147483927)], 0, 19, true, [(0, 2147483648, 2147483648), (0, 2147483649, 2147483649)], [])
theorem z_k_c_Reader_readBoth7 : (z_ck (z_tt, [], 0, z_n_c_Reader_readBoth7, [z_m_c_Reader_advance, z_m_c_Reader_readOne7]) q_code 400 z_m_c_Reader_readBoth7).isSome = true := by decide +kernel
theorem r_c_Reader_readBoth7 (hA : z_A0 l base D sa) (hJ : z_JK J) : z_Con l base D sa z_tt J z_m_c_Reader_readBoth7 := z_mkr hA (z_p1 (r_c_Reader_advance hA hJ) (z_p1 (r_c_Reader_readOne7 hA hJ) z_p0)) (hJ _ (by decide)) (by decide) z_k_c_Reader_readBoth7
def z_n_c_Reader_readEither7 : List z_N := [(219, 8, [(2, 2147483648, 2147483649), (3, 2147483648, 2147485248)], [], [], [], [], [], [(1, 0)])]
def z_m_c_Reader_readEither7 : z_M := (219, [(1, 2, 0), (0, 2147483655, 2147483655)], [(0, 3, (1, 4, 0))], [(2, 2147483652, 2147483658), (4, 2147483659, 2147483659), (8, 2147483651, 2147483651), (9, 2147483648, 2147483927)], 0, 20, true, [(0, 2147483648, 2147483648), (0, 2147483649, 2147483649)], [])
theorem z_k_c_Reader_readEither7 : (z_ck (z_tt, [], 0, z_n_c_Reader_readEither7, [z_m_c_Reader_advance, z_m_c_Reader_readBoth7]) q_code 400 z_m_c_Reader_readEither7).isSome = true := by decide +kernel
theorem r_c_Reader_readEither7 (hA : z_A0 l base D sa) (hJ : z_JK J) : z_Con l base D sa z_tt J z_m_c_Reader_readEither7 := z_mkr hA (z_p1 (r_c_Reader_advance hA hJ) (z_p1 (r_c_Reader_readBoth7 hA hJ) z_p0)) (hJ _ (by decide)) (by decide) z_k_c_Reader_readEither7
def z_n_c_Reader_readUnit6 : List z_N := []
def z_m_c_Reader_readUnit6 : z_M := (228, [(1, 2, 0), (0, 2147483654, 2147483654)], [(0, 3, (1, 4, 0))], [(2, 2147483652, 2147483658), (4, 2147483659, 2147483659), (8, 2147483651, 2147483651), (9, 2147483648, 2147483927)], 0, 21, true, [(0, 2147483648, 2147483648), (0, 2147483649, 2147483649)], [])
theorem z_k_c_Reader_readUnit6 : (z_ck (z_tt, [], 0, z_n_c_Reader_readUnit6, [z_m_c_Reader_advance, z_m_c_Reader_readEither7]) q_code 482 z_m_c_Reader_readUnit6).isSome = true := by decide +kernel
theorem r_c_Reader_readUnit6 (hA : z_A0 l base D sa) (hJ : z_JK J) : z_Con l base D sa z_tt J z_m_c_Reader_readUnit6 := z_mkr hA (z_p1 (r_c_Reader_advance hA hJ) (z_p1 (r_c_Reader_readEither7 hA hJ) z_p0)) (hJ _ (by decide)) (by decide) z_k_c_Reader_readUnit6
def z_n_c_Reader_readTerm6 : List z_N := [(226, 8, [(2, 2147483648, 2147483649), (3, 2147483648, 2147485248)], [], [], [], [], [], [(1, 0)])]
def z_m_c_Reader_readTerm6 : z_M := (226, [(1, 2, 0), (0, 2147483654, 2147483654)], [(0, 3, (1, 4, 0))], [(2, 2147483652, 2147483658), (4, 2147483659, 2147483659), (8, 2147483651, 2147483651), (9, 2147483648, 2147483927)], 0, 22, true, [(0, 2147483648, 2147483648), (0, 2147483649, 2147483649)], [])
theorem z_k_c_Reader_readTerm6 : (z_ck (z_tt, [], 0, z_n_c_Reader_readTerm6, [z_m_c_Reader_advance, z_m_c_Reader_readUnit6, z_m_c_Reader_readUnit7]) q_code 635 z_m_c_Reader_readTerm6).isSome = true := by decide +kernel
theorem r_c_Reader_readTerm6 (hA : z_A0 l base D sa) (hJ : z_JK J) : z_Con l base D sa z_tt J z_m_c_Reader_readTerm6 := z_mkr hA (z_p1 (r_c_Reader_advance hA hJ) (z_p1 (r_c_Reader_readUnit6 hA hJ) (z_p1 (r_c_Reader_readUnit7 hA hJ) z_p0))) (hJ _ (by decide)) (by decide) z_k_c_Reader_readTerm6
end ZR

/-! ===== runs of the parser's and of comes' methods ===== -/
section ZR
variable {l : Launch} {base : Nat} {D : va_G} {sa : Nat → Nat} {J : va_W → List Nat → Prop}
def z_n_isKept : List z_N := []
theorem z_k_isKept : (z_ck (z_tt, [], 0, z_n_isKept, []) q_code 400 ((255, [(3, 0, 0)], [], [], 0, 0, true, [(0, 2147483648, 2147483648), (0, 2147483649, 2147483649)], []))).isSome = true := by decide +kernel
theorem r_isKept (hA : z_A0 l base D sa) (hJ : z_JK J) : z_Con l base D sa z_tt J ((255, [(3, 0, 0)], [], [], 0, 0, true, [(0, 2147483648, 2147483648), (0, 2147483649, 2147483649)], [])) := z_mkr hA z_p0 (hJ _ (by decide)) (by decide) z_k_isKept
def z_n_goOn : List z_N := [(159, 8, [], [], [], [], [(40, 6, 2147483648, 2147485248)], [], [(0, 0)]), (159, 259, [], [], [], [], [(40, 7, 2147483648, 2147485248), (40, 9, 0, 4294967295)], [], [(0, 0)]), (159, 119, [], [], [], [], [(40, 7, 2147483649, 2147485248)], [], [(0, 0)]), (159, 156, [(2, 2147483648, 2147485248)], [], [], [(40, 2147483658, 2147483658)], [], [], [(0, 0)])]
theorem z_k_goOn : (z_ck (z_tt, [], 0, z_n_goOn, [(255, [(3, 0, 0)], [], [], 0, 0, true, [(0, 2147483648, 2147483648), (0, 2147483649, 2147483649)], [])]) q_code 5526 (h_Mgo)).isSome = true := by decide +kernel
theorem r_goOn (hA : z_A0 l base D sa) (hJ : z_JK J) : z_Con l base D sa z_tt J (h_Mgo) := z_mkr hA (z_p1 (r_isKept hA hJ) z_p0) (hJ _ (by decide)) (by decide) z_k_goOn
def z_n_isWord : List z_N := []
theorem z_k_isWord : (z_ck (z_tt, [], 0, z_n_isWord, []) q_code 400 (h_Mword)).isSome = true := by decide +kernel
theorem r_isWord (hA : z_A0 l base D sa) (hJ : z_JK J) : z_Con l base D sa z_tt J (h_Mword) := z_mkr hA z_p0 (hJ _ (by decide)) (by decide) z_k_isWord
def z_n_wordHere : List z_N := []
theorem z_k_wordHere : (z_ck (z_tt, [], 0, z_n_wordHere, [h_Mword]) q_code 400 (h_Mwh)).isSome = true := by decide +kernel
theorem r_wordHere (hA : z_A0 l base D sa) (hJ : z_JK J) : z_Con l base D sa z_tt J (h_Mwh) := z_mkr hA (z_p1 (r_isWord hA hJ) z_p0) (hJ _ (by decide)) (by decide) z_k_wordHere
def z_n_misplaced : List z_N := []
theorem z_k_misplaced : (z_ck (z_tt, [], 0, z_n_misplaced, []) q_code 400 (h_Mmis)).isSome = true := by decide +kernel
theorem r_misplaced (hA : z_A0 l base D sa) (hJ : z_JK J) : z_Con l base D sa z_tt J (h_Mmis) := z_mkr hA z_p0 (hJ _ (by decide)) (by decide) z_k_misplaced
def z_n_must : List z_N := []
theorem z_k_must : (z_ck (z_tt, [], 0, z_n_must, [h_Mgo, h_Mmis]) q_code 400 (h_Mmust)).isSome = true := by decide +kernel
theorem r_must (hA : z_A0 l base D sa) (hJ : z_JK J) : z_Con l base D sa z_tt J (h_Mmust) := z_mkr hA (z_p1 (r_goOn hA hJ) (z_p1 (r_misplaced hA hJ) z_p0)) (hJ _ (by decide)) (by decide) z_k_must
def z_n_two : List z_N := []
theorem z_k_two : (z_ck (z_tt, [], 0, z_n_two, []) q_code 512 (h_Mtwo)).isSome = true := by decide +kernel
theorem r_two (hA : z_A0 l base D sa) (hJ : z_JK J) : z_Con l base D sa z_tt J (h_Mtwo) := z_mkr hA z_p0 (hJ _ (by decide)) (by decide) z_k_two
def z_n_asked0 : List z_N := []
theorem z_k_asked0 : (z_ck (z_tt, [], 0, z_n_asked0, []) q_code 400 (h_Mask 0)).isSome = true := by decide +kernel
theorem r_asked0 (hA : z_A0 l base D sa) (hJ : z_JK J) : z_Con l base D sa z_tt J (h_Mask 0) := z_mkr hA z_p0 (hJ _ (by decide)) (by decide) z_k_asked0
def z_n_asked1 : List z_N := []
theorem z_k_asked1 : (z_ck (z_tt, [], 0, z_n_asked1, []) q_code 400 (h_Mask 1)).isSome = true := by decide +kernel
theorem r_asked1 (hA : z_A0 l base D sa) (hJ : z_JK J) : z_Con l base D sa z_tt J (h_Mask 1) := z_mkr hA z_p0 (hJ _ (by decide)) (by decide) z_k_asked1
end ZR

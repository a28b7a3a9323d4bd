/-! ===== runs of the class ===== -/
section ZR
variable {l : Launch} {base : Nat} {D : va_G} {sa : Nat → Nat} {J : va_W → List Nat → Prop}
def z_n_c_SandNights_image : List z_N := []
def z_m_c_SandNights_image : z_M := (57, [(1, 0, 0), (0, 0, 4294967295)], [], [(0, 2147483657, 2147483657), (16, 2147483656, 2147483658), (17, 2147483648, 2147483672), (18, 2147483648, 2147483672), (19, 2147483648, 2147483672), (20, 2147483648, 2147483652), (21, 2147483648, 2147483652), (22, 2147483648, 2147483672), (23, 2147483648, 2147483672), (24, 2147483648, 2147483947)], 1, 4, true, [(0, 2147483647, 2147484647)], [])
theorem z_k_c_SandNights_image : (z_ck (z_tt, [], 0, z_n_c_SandNights_image, []) q_code 400 z_m_c_SandNights_image).isSome = true := by decide +kernel
theorem r_c_SandNights_image (hA : z_A0 l base D sa) (hJ : z_JK J) : z_Con l base D sa z_tt J z_m_c_SandNights_image := z_mkr hA z_p0 (hJ _ (by decide)) (by decide) z_k_c_SandNights_image
def z_n_c_SandNights_back : List z_N := []
def z_m_c_SandNights_back : z_M := (58, [(1, 0, 0), (0, 0, 4294967295)], [], [(16, 2147483656, 2147483658), (17, 2147483648, 2147483672), (18, 2147483648, 2147483672), (19, 2147483648, 2147483672), (20, 2147483648, 2147483652), (21, 2147483648, 2147483652), (22, 2147483648, 2147483672), (23, 2147483648, 2147483672), (24, 2147483648, 2147483947), (25, 2147483650, 2147483651)], 0, 2, true, [(0, 2147483647, 2147484647)], [])
theorem z_k_c_SandNights_back : (z_ck (z_tt, [], 0, z_n_c_SandNights_back, []) q_code 400 z_m_c_SandNights_back).isSome = true := by decide +kernel
theorem r_c_SandNights_back (hA : z_A0 l base D sa) (hJ : z_JK J) : z_Con l base D sa z_tt J z_m_c_SandNights_back := z_mkr hA z_p0 (hJ _ (by decide)) (by decide) z_k_c_SandNights_back
def z_n_c_SandNights_about : List z_N := []
def z_m_c_SandNights_about : z_M := (40, [(1, 0, 0), (0, 0, 4294967295)], [], [], 0, 1, true, [(0, 0, 4294967295)], [])
theorem z_k_c_SandNights_about : (z_ck (z_tt, [], 0, z_n_c_SandNights_about, []) q_code 400 z_m_c_SandNights_about).isSome = true := by decide +kernel
theorem r_c_SandNights_about (hA : z_A0 l base D sa) (hJ : z_JK J) : z_Con l base D sa z_tt J z_m_c_SandNights_about := z_mkr hA z_p0 (hJ _ (by decide)) (by decide) z_k_c_SandNights_about
end ZR

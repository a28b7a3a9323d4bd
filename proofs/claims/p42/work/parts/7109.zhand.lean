/-! ===== the contracts by hand, in the runs' form ===== -/
def z_JQ (base : Nat) (J : va_W → List Nat → Prop) : Prop := z_JK J ∧ ∀ (ws : va_W) (ts : List Nat) (tys : List (ClassId × FieldType)), z_W z_tt ws tys ts → va_D (q_A base) ws → J ws ts → h_codeJ ws ts
theorem z_JQ_c (base jm : Nat) : z_JQ base (h_Jc jm) := ⟨z_JK_c jm, fun _ _ _ hw hD h => h.code hw hD⟩
section ZR
variable {l : Launch} {base : Nat} {D : va_G} {sa : Nat → Nat} {J : va_W → List Nat → Prop}
theorem r_bits (hA : z_A0 l base D sa) (hJ : z_JQ base J) : z_Con l base D sa z_tt J h_Mbits := h_con_bits hA.2.1 (hJ.1 [] rfl)
theorem r_div (hA : z_A0 l base D sa) (hJ : z_JQ base J) : z_Con l base D sa z_tt J h_Mdiv := h_con_div hA.2.1 (hJ.1 [] rfl)
theorem r_lay0 (hA : z_A0 l base D sa) (hJ : z_JQ base J) : z_Con l base D sa z_tt J (h_Mlay 0) := h_con_lay hA.2.1 hA.1 (by decide)
theorem r_lay1 (hA : z_A0 l base D sa) (hJ : z_JQ base J) : z_Con l base D sa z_tt J (h_Mlay 1) := h_con_lay hA.2.1 hA.1 (by decide)
theorem r_com0 (hA : z_A0 l base D sa) (hJ : z_JQ base J) : z_Con l base D sa z_tt J (h_Mcom 0) := h_con_com hA.2.1 hA.1 (by decide) (hJ.1 _ (by decide)) hJ.2 (r_asked0 hA hJ.1) (r_two hA hJ.1)
theorem r_com1 (hA : z_A0 l base D sa) (hJ : z_JQ base J) : z_Con l base D sa z_tt J (h_Mcom 1) := h_con_com hA.2.1 hA.1 (by decide) (hJ.1 _ (by decide)) hJ.2 (r_asked1 hA hJ.1) (r_two hA hJ.1)
end ZR

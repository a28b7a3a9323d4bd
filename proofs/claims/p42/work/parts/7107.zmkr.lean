/-! ===== what all runs want ===== -/
def z_A0 (l : Launch) (base : Nat) (D : va_G) (sa : Nat → Nat) : Prop := q_clok ∧ (∀ i, i < q_nM → q_mok i) ∧ (Cond.instanceMethod Lib.objectInit ∈ q_w0 ∧ Cond.code Lib.objectInit ⟨#[0xb1]⟩ 1 none ∈ q_w0) ∧ (Cond.native arraycopyName ∈ q_w0 ∧ Cond.static arraycopyName ∈ q_w0 ∧ Cond.initialized "java/lang/System" ∈ q_w0) ∧ ∀ (g : z_G) (J : va_W → List Nat → Prop), z_OT l base D sa g J
/-- J stays where the code of the tide does -/
def z_JK (J : va_W → List Nat → Prop) : Prop := ∀ kc : List z_C, kc.all h_kJ1 = true → ∀ ws ts ws' ts', J ws ts → z_Fr kc ws ts ws' ts' → J ws' ts'
theorem z_JK_T : z_JK (fun _ _ => True) := fun _ _ _ _ _ _ _ _ => trivial
theorem z_JK_c (jm : Nat) : z_JK (h_Jc jm) := fun _ hk _ _ _ _ h hf => h.fr hk hf
section ZR
variable {l : Launch} {base : Nat} {D : va_G} {sa : Nat → Nat} {J : va_W → List Nat → Prop}
theorem z_p0 : ∀ m ∈ ([] : List z_M), z_Con l base D sa z_tt J m := fun m hm => by cases hm
theorem z_p1 {M : z_M} {P : List z_M} (h : z_Con l base D sa z_tt J M) (hP : ∀ m ∈ P, z_Con l base D sa z_tt J m) : ∀ m ∈ M :: P, z_Con l base D sa z_tt J m := fun m hm => by
  rcases List.mem_cons.mp hm with rfl | hm
  · exact h
  · exact hP m hm
theorem z_mkr (hA : z_A0 l base D sa) {N : List z_N} {P : List z_M} {fuel : Nat} {M : z_M} (hP : ∀ m ∈ P, z_Con l base D sa z_tt J m) (hJ : ∀ ws ts ws' ts', J ws ts → z_Fr M.2.2.2.1 ws ts ws' ts' → J ws' ts') (hx : M.1 < q_nM) (h : (z_ck (z_tt, [], 0, N, P) q_code fuel M).isSome = true) : z_Con l base D sa z_tt J M := by
  obtain ⟨hcl, hok, ho1, ho2, hOT⟩ := hA
  obtain ⟨R, hR⟩ := Option.isSome_iff_exists.mp h
  exact z_mk (g := (z_tt, [], 0, N, P)) hcl hok z_hlk ho2 z_hbyte hP (hOT _ J) (z_s_new hcl hok ho1 ho2 rfl) hJ hx hR
end ZR

/-! ===== every call keeps what holds ===== -/
section HO
variable {l : Launch} {base : Nat} {D : va_G} {sa : Nat → Nat} {ws : va_W} {ts : List Nat} {jx ax jm am Tx Tm : Nat}
def h_kIx (kc : List z_C) : Bool := h_kJp kc && (kc.all h_kJ1 && h_kT kc)
theorem h_opX {kc : List z_C} {d mk x : Nat} {av : List Value} (hM : z_Met l base D sa z_tt kc (d, mk) x av ws ts (h_pv (h_Jy jx))) (hk : h_kIx kc = true) (hd : d ≤ 70) (hm : mk ≤ 1) (hI : h_I jx ax jm am ws ts) (hT : h_T2 jx jm Tx Tm ws) : h_Op l base D sa x av ws ts (h_pI jx ax jm am Tx Tm) := by
  obtain ⟨a1, hk⟩ := q_ands hk
  obtain ⟨a2, a3⟩ := q_ands hk
  exact ⟨kc, d, mk, hd, hm, hM.imp2 (fun _ _ _ _ _ _ hf hp => ⟨hp.1, ⟨⟨z_gm hf.2.1 hI.1.1, z_gm hf.2.1 hI.1.2⟩, hp.2, hI.2.2.1.fr a1 hf, hI.2.2.2.fr a2 hf⟩, hT.fr a3 hf hI⟩)⟩
def h_kIm (kc : List z_C) : Bool := h_off kc 0 7 7 && (h_off kc 25 2 3 && h_kT kc)
theorem h_opM {kc : List z_C} {d mk x : Nat} {av : List Value} (hM : z_Met l base D sa z_tt kc (d, mk) x av ws ts (h_pv (h_Jp jm))) (hk : h_kIm kc = true) (hk2 : kc.all h_kJ1 = true) (hd : d ≤ 70) (hm : mk ≤ 1) (hI : h_I jx ax jm am ws ts) (hT : h_T2 jx jm Tx Tm ws) : h_Op l base D sa x av ws ts (h_pI jx ax jm am Tx Tm) := by
  obtain ⟨a1, hk⟩ := q_ands hk
  obtain ⟨a2, a3⟩ := q_ands hk
  exact ⟨kc, d, mk, hd, hm, hM.imp2 (fun _ _ _ _ _ _ hf hp => ⟨hp.1, ⟨⟨z_gm hf.2.1 hI.1.1, z_gm hf.2.1 hI.1.2⟩, hI.2.1.fr a1 a2 hf, hp.2, hI.2.2.2.fr hk2 hf⟩, hT.fr a3 hf hI⟩)⟩
theorem h_opB {kc : List z_C} {d mk x : Nat} {av : List Value} (hM : z_Met l base D sa z_tt kc (d, mk) x av ws ts (h_pbe jm)) (hk : h_kIm kc = true) (hd : d ≤ 70) (hm : mk ≤ 1) (hI : h_I jx ax jm am ws ts) (hT : h_T2 jx jm Tx Tm ws) : h_Op l base D sa x av ws ts (h_pI jx ax jm am Tx Tm) := by
  obtain ⟨a1, hk⟩ := q_ands hk
  obtain ⟨a2, a3⟩ := q_ands hk
  exact ⟨kc, d, mk, hd, hm, hM.imp2 (fun _ _ _ _ _ _ hf hp => ⟨hp.1, ⟨⟨z_gm hf.2.1 hI.1.1, z_gm hf.2.1 hI.1.2⟩, hI.2.1.fr a1 a2 hf, hp.2.1, hp.2.2⟩, hT.fr a3 hf hI⟩)⟩
theorem h_bank9 (hI : h_I jx ax jm am ws ts) : ∃ b N, b < 2 ∧ h_Jk jm b N ws ts := by
  obtain ⟨b, N, A, U, h, -⟩ := hI.2.2.1
  exact ⟨b, N, h.2.1, h⟩
def h_Mtid0 : z_M := ((106, [(1, 40, 0), (0, 0, 4294967295)], [(0, 34, (0, 2147483648, 2147483648)), (0, 11, (1, 49, 0)), (3, 0, (0, 2147483650, 2147483653)), (0, 41, (1, 66, 0)), (5, 435, (0, 2147483648, 2147484647))], [(40, 2147483688, 2147483688), (65, 2147483648, 2147483707), (66, 2147484083, 2147484083)], 0, 5, true, [(0, 0, 4294967295)], [(5, 435, (0, 2147483648, 2147484647))]))
def h_Mtid1 : z_M := ((106, [(1, 40, 0), (0, 0, 4294967295)], [(0, 34, (0, 2147483649, 2147483649)), (0, 11, (1, 49, 0)), (3, 1, (0, 2147483650, 2147483653)), (0, 41, (1, 66, 0)), (5, 435, (0, 2147483648, 2147484647))], [(40, 2147483688, 2147483688), (65, 2147483648, 2147483707), (66, 2147484083, 2147484083)], 0, 5, true, [(0, 0, 4294967295)], [(5, 435, (0, 2147483648, 2147484647))]))
/-- positions, as way and sly want them -/
theorem h_posof {tys : List (ClassId × FieldType)} {P : Nat → Prop} (hw : z_W z_tt ws tys ts) (hD : va_D P ws) (h : h_Jp jm ws ts) : h_posJ ws ts := by
  intro jm2 am2 b2 N2 ja2 aa2 fs fc fr al cA hbd hra hN h25 w hw5
  obtain ⟨b, N, A, U, k1, k2, k3, k4, k5, k6⟩ := h
  have ej : jm2 = jm := hw.2.2 _ _ hbd.2.1 k1.1
  subst ej
  obtain ⟨hm, hb, h34, hN4, jc, ac, jr, ar, xc, xr, ⟨c1, c2⟩, ⟨r1, r2⟩, x1, x2, x3, x4⟩ := k1
  have eb : b = b2 := (nI_eq (by omega) (by have := hbd.2.2.2.1; omega)).mp (Value.int.inj (h34.inj hbd.1 (show z_at (.inr (9, fs)) 34 = some (.int (nI b2)) from hbd.2.2.1)))
  subst eb
  obtain ⟨-, -, -, -, ⟨jc2, ac2, cC, e1, e2, e3⟩, jr2, ar2, cR, f1, f2, f3⟩ := id hbd
  obtain ⟨rfl, rfl⟩ := c1.row hD hbd.1 (show h_row ws ts fs 11 49 2 jc2 ac2 cC fc from ⟨e1, e2, e3⟩)
  obtain ⟨rfl, rfl⟩ := r1.row hD hbd.1 (show h_row ws ts fs 12 50 2 jr2 ar2 cR fr from ⟨f1, f2, f3⟩)
  have g1 := (show h_row ws ts fs 11 49 2 jc2 ac2 cC fc from ⟨e1, e2, e3⟩).at hb c2
  have g2 := (show h_row ws ts fs 12 50 2 jr2 ar2 cR fr from ⟨f1, f2, f3⟩).at hb r2
  rw [← g1, ← g2, x4] at hN
  have eN := (nI_eq (by omega) (by omega)).mp hN
  subst eN
  obtain ⟨ja, aa, a1, a2⟩ := k3
  obtain ⟨rfl, rfl⟩ := a1.row hD hbd.1 hra
  have := hra.lt (by omega) (a2 w (Or.inl hw5))
  rw [show h_bn N w = N from if_pos hw5] at this
  exact this
end HO

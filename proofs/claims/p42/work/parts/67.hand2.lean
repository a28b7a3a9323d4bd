/-! ===== by hand: has, cells, stepsBetween, with what they answer ===== -/
section YS
variable {X : y_X} {n pc ln x y z : Nat} {L : List (Option Value)} {st : List Value} {ws : va_W} {ts : List Nat} {v w : Int32}
theorem y_shr (hC : y_C X) (E : y_E (y_i X) (pc, ln, .ishr, x, y, z)) (k : Y X n (pc + ln) L (.int (v >>> (w &&& 31)) :: st) ws ts) : Y X n pc L (.int w :: .int v :: st) ws ts := by
  intro H locs ls tys hp hL
  obtain ⟨hd, e1, -⟩ := E
  have e1 : ln = 1 := e1
  subst e1
  exact lv_ishr hC.1.1 hC.1.2.1 hd (k H locs ls tys hp hL)
theorem y_mul (hC : y_C X) (E : y_E (y_i X) (pc, ln, .imul, x, y, z)) (k : Y X n (pc + ln) L (.int (v * w) :: st) ws ts) : Y X n pc L (.int w :: .int v :: st) ws ts := by
  intro H locs ls tys hp hL
  obtain ⟨hd, e1, -⟩ := E
  have e1 : ln = 1 := e1
  subst e1
  exact lv_imul hC.1.1 hC.1.2.1 hd (k H locs ls tys hp hL)
theorem y_neg (hC : y_C X) (E : y_E (y_i X) (pc, ln, .ineg, x, y, z)) (k : Y X n (pc + ln) L (.int (-v) :: st) ws ts) : Y X n pc L (.int v :: st) ws ts := by
  intro H locs ls tys hp hL
  obtain ⟨hd, e1, -⟩ := E
  have e1 : ln = 1 := e1
  subst e1
  exact lv_ineg hC.1.1 hC.1.2.1 hd (k H locs ls tys hp hL)
/-- the world is typed -/
theorem y_ty (k : ∀ tys, z_W (y_tt X) ws tys ts → va_D (q_A (y_b X)) ws → Y X n pc L st ws ts) : Y X n pc L st ws ts := fun H locs ls tys hp hL => k tys hp.1 hp.2.2.2.1 H locs ls tys hp hL
end YS
/-- the same world, this answer -/
def h_pu (ws : va_W) (ts : List Nat) (r : Int32) : Option Value → va_W → List Nat → Prop := fun v ws' ts' => ws' = ws ∧ ts' = ts ∧ v = some (.int r)
def h_has (s k : Int32) : Nat := if (s >>> (k &&& 31)) &&& nI 1 = nI 1 then 1 else 0
theorem h_has_lt (s k : Int32) : h_has s k < 2 := by
  unfold h_has
  split <;> decide
def h_abs (x : Int32) : Int32 := if x < 0 then -x else x
def h_steps (q a b : Int32) : Int32 := h_abs ((a - a / q * q) - (b - b / q * q)) + h_abs (a / q - b / q)
/-- the board of the model: its object, its bank, its columns and rows -/
def h_bd (ws : va_W) (ts : List Nat) (jm am : Nat) (fs : List Value) (b : Nat) (fc fr : Nat → Int32) : Prop := ws[jm]? = some (am, .inr (9, fs)) ∧ ts[jm]? = some 40 ∧ fs[34]? = some (.int (nI b)) ∧ b < 2 ∧ (∃ (jc ac : Nat) (cA : ClassId), fs[11]? = some (.ref ac) ∧ ws[jc]? = some (ac, .inl (cA, 2, .inl fc)) ∧ ts[jc]? = some 49) ∧ ∃ (jr ar : Nat) (cA : ClassId), fs[12]? = some (.ref ar) ∧ ws[jr]? = some (ar, .inl (cA, 2, .inl fr)) ∧ ts[jr]? = some 50
section HS
variable {l : Launch} {base : Nat} {D : va_G} {sa : Nat → Nat} {ws : va_W} {ts : List Nat}
theorem h_m_has (hok : ∀ i, i < q_nM → q_mok i) (s0 k0 : Int32) : z_Met l base D sa z_tt [] (0, 0) 1 [.int s0, .int k0] ws ts (h_pu ws ts (nI (h_has s0 k0))) := by
  refine y_meth (J := fun _ _ => True) (hok 1 (by decide)) (fun v hv => by
    rcases List.mem_cons.mp hv with rfl | hv
    · rfl
    · rcases List.mem_singleton.mp hv with rfl
      rfl) (show 2 ≤ 2 by decide) (fun _ _ _ => trivial) ?_
  intro p e s m below meth c X hX hC hQ
  have hi : y_i X = 1 := by rw [hX]
  have hd : y_d X = (0, 0) := by rw [hX]
  clear hX
  have E := y_Ei hok hi (by decide) (cd := q_cd1) rfl
  show Y X 0 0 [some (.int s0), some (.int k0)] [] ws ts
  refine y_iln hC (E 0 _ rfl) rfl ?_
  refine y_iln hC (E 1 _ rfl) rfl ?_
  refine y_shr hC (E 2 _ rfl) ?_
  refine y_ic hC (E 3 _ rfl) ?_
  refine y_and hC (E 4 _ rfl) ?_
  refine y_ic hC (E 5 _ rfl) ?_
  refine y_cmp hC (E 6 _ rfl) (fun h => ?_) (fun h => ?_)
  · have h : ¬ (s0 >>> (k0 &&& 31)) &&& nI 1 = nI 1 := h
    refine y_ic hC (E 9 _ rfl) ?_
    exact y_zr hC hQ (E 10 _ rfl) (Nat.zero_le _) (by decide) ⟨rfl, rfl, by rw [h_has, if_neg h]⟩
  · have h : (s0 >>> (k0 &&& 31)) &&& nI 1 = nI 1 := h
    refine y_ic hC (E 7 _ rfl) ?_
    refine y_go hC (E 8 _ rfl) ?_
    exact y_zr hC hQ (E 10 _ rfl) (Nat.zero_le _) (by decide) ⟨rfl, rfl, by rw [h_has, if_pos h]⟩
theorem h_m_cells (hok : ∀ i, i < q_nM → q_mok i) (hcl : q_clok) {jm am b : Nat} {fs : List Value} {fc fr : Nat → Int32} (hb : h_bd ws ts jm am fs b fc fr) : z_Met l base D sa z_tt [] (0, 0) 0 [.ref am] ws ts (h_pu ws ts (fc b * fr b)) := by
  obtain ⟨b1, b2, b3, b4, ⟨jc, ac, cA, c1, c2, c3⟩, jr, ar, cR, r1, r2, r3⟩ := hb
  refine y_meth (J := fun _ _ => True) (hok 0 (by decide)) (fun v hv => by rcases List.mem_singleton.mp hv with rfl; rfl) (show 1 ≤ 1 by decide) (fun _ _ _ => trivial) ?_
  intro p e s m below meth c X hX hC hQ
  have hi : y_i X = 0 := by rw [hX]
  have ht : y_tt X = z_tt := by rw [hX]
  clear hX
  have E := y_Ei hok hi (by decide) (cd := q_cd0) rfl
  show Y X 0 0 [some (.ref am)] [] ws ts
  refine y_aln hC (E 0 _ rfl) rfl ?_
  refine y_get hcl hC (E 1 _ rfl) b1 c1 ?_
  refine y_aln hC (E 2 _ rfl) rfl ?_
  refine y_get hcl hC (E 3 _ rfl) b1 b3 ?_
  refine y_ald hC (E 4 _ rfl) c2 c3 (by rw [ht]; rfl) b4 (by decide) ?_
  refine y_aln hC (E 5 _ rfl) rfl ?_
  refine y_get hcl hC (E 6 _ rfl) b1 r1 ?_
  refine y_aln hC (E 7 _ rfl) rfl ?_
  refine y_get hcl hC (E 8 _ rfl) b1 b3 ?_
  refine y_ald hC (E 9 _ rfl) r2 r3 (by rw [ht]; rfl) b4 (by decide) ?_
  refine y_mul hC (E 10 _ rfl) ?_
  exact y_ir hC hQ (E 11 _ rfl) (Nat.zero_le _) ⟨rfl, rfl, rfl⟩
theorem h_m_steps (hok : ∀ i, i < q_nM → q_mok i) (hcl : q_clok) {jm am b : Nat} {fs : List Value} {fc fr : Nat → Int32} (hb : h_bd ws ts jm am fs b fc fr) (hne : ¬ fc b = 0) (p0 q0 : Int32) : z_Met l base D sa z_tt [] (0, 0) 2 [.ref am, .int p0, .int q0] ws ts (h_pu ws ts (h_steps (fc b) p0 q0)) := by
  obtain ⟨b1, b2, b3, b4, ⟨jc, ac, cA, c1, c2, c3⟩, -⟩ := hb
  refine y_meth (J := fun _ _ => True) (hok 2 (by decide)) (fun v hv => by
    rcases List.mem_cons.mp hv with rfl | hv
    · rfl
    rcases List.mem_cons.mp hv with rfl | hv
    · rfl
    rcases List.mem_singleton.mp hv with rfl
    rfl) (show 3 ≤ 5 by decide) (fun _ _ _ => trivial) ?_
  intro p e s m below meth c X hX hC hQ
  have hi : y_i X = 2 := by rw [hX]
  have ht : y_tt X = z_tt := by rw [hX]
  clear hX
  have E := y_Ei hok hi (by decide) (cd := q_cd2) rfl
  have ht1 : (y_tt X 49).1 = 1 := by rw [ht]; rfl
  show Y X 0 0 [some (.ref am), some (.int p0), some (.int q0), none, none] [] ws ts
  refine y_iln hC (E 0 _ rfl) rfl ?_
  refine y_aln hC (E 1 _ rfl) rfl ?_
  refine y_get hcl hC (E 2 _ rfl) b1 c1 ?_
  refine y_aln hC (E 3 _ rfl) rfl ?_
  refine y_get hcl hC (E 4 _ rfl) b1 b3 ?_
  refine y_ald hC (E 5 _ rfl) c2 c3 ht1 b4 (by decide) ?_
  refine y_rem hC (E 6 _ rfl) hne ?_
  refine y_iln hC (E 7 _ rfl) rfl ?_
  refine y_aln hC (E 8 _ rfl) rfl ?_
  refine y_get hcl hC (E 9 _ rfl) b1 c1 ?_
  refine y_aln hC (E 10 _ rfl) rfl ?_
  refine y_get hcl hC (E 11 _ rfl) b1 b3 ?_
  refine y_ald hC (E 12 _ rfl) c2 c3 ht1 b4 (by decide) ?_
  refine y_rem hC (E 13 _ rfl) hne ?_
  refine y_sub hC (E 14 _ rfl) ?_
  refine y_isn hC (E 15 _ rfl) ?_
  refine y_iln hC (E 16 _ rfl) rfl ?_
  refine y_aln hC (E 17 _ rfl) rfl ?_
  refine y_get hcl hC (E 18 _ rfl) b1 c1 ?_
  refine y_aln hC (E 19 _ rfl) rfl ?_
  refine y_get hcl hC (E 20 _ rfl) b1 b3 ?_
  refine y_ald hC (E 21 _ rfl) c2 c3 ht1 b4 (by decide) ?_
  refine y_div hC (E 22 _ rfl) hne ?_
  refine y_iln hC (E 23 _ rfl) rfl ?_
  refine y_aln hC (E 24 _ rfl) rfl ?_
  refine y_get hcl hC (E 25 _ rfl) b1 c1 ?_
  refine y_aln hC (E 26 _ rfl) rfl ?_
  refine y_get hcl hC (E 27 _ rfl) b1 b3 ?_
  refine y_ald hC (E 28 _ rfl) c2 c3 ht1 b4 (by decide) ?_
  refine y_div hC (E 29 _ rfl) hne ?_
  refine y_sub hC (E 30 _ rfl) ?_
  refine y_is hC (E 31 _ rfl) ?_
  have fin : Y X 0 59 [some (.ref am), some (.int p0), some (.int q0), some (.int (p0 - p0 / fc b * fc b - (q0 - q0 / fc b * fc b))), some (.int (p0 / fc b - q0 / fc b))] [.int (h_abs (p0 - p0 / fc b * fc b - (q0 - q0 / fc b * fc b)))] ws ts := by
    refine y_il hC (E 38 _ rfl) rfl ?_
    refine y_if hC (E 39 _ rfl) (fun h => ?_) (fun h => ?_)
    · have h : (0 : Int32) ≤ p0 / fc b - q0 / fc b := h
      refine y_il hC (E 43 _ rfl) rfl ?_
      refine y_add hC (E 44 _ rfl) ?_
      refine y_ir hC hQ (E 45 _ rfl) (Nat.zero_le _) ⟨rfl, rfl, ?_⟩
      unfold h_steps
      rw [show h_abs (p0 / fc b - q0 / fc b) = p0 / fc b - q0 / fc b from if_neg (Int32.not_lt.mpr h)]
    · have h : p0 / fc b - q0 / fc b < 0 := h
      refine y_il hC (E 40 _ rfl) rfl ?_
      refine y_neg hC (E 41 _ rfl) ?_
      refine y_go hC (E 42 _ rfl) ?_
      refine y_add hC (E 44 _ rfl) ?_
      refine y_ir hC hQ (E 45 _ rfl) (Nat.zero_le _) ⟨rfl, rfl, ?_⟩
      unfold h_steps
      rw [show h_abs (p0 / fc b - q0 / fc b) = -(p0 / fc b - q0 / fc b) from if_pos h]
  refine y_iln hC (E 32 _ rfl) rfl ?_
  refine y_if hC (E 33 _ rfl) (fun h => ?_) (fun h => ?_)
  · have h : (0 : Int32) ≤ p0 - p0 / fc b * fc b - (q0 - q0 / fc b * fc b) := h
    refine y_iln hC (E 37 _ rfl) rfl ?_
    rw [show h_abs (p0 - p0 / fc b * fc b - (q0 - q0 / fc b * fc b)) = p0 - p0 / fc b * fc b - (q0 - q0 / fc b * fc b) from if_neg (Int32.not_lt.mpr h)] at fin
    exact fin
  · have h : p0 - p0 / fc b * fc b - (q0 - q0 / fc b * fc b) < 0 := h
    refine y_iln hC (E 34 _ rfl) rfl ?_
    refine y_neg hC (E 35 _ rfl) ?_
    refine y_go hC (E 36 _ rfl) ?_
    rw [show h_abs (p0 - p0 / fc b * fc b - (q0 - q0 / fc b * fc b)) = -(p0 - p0 / fc b * fc b - (q0 - q0 / fc b * fc b)) from if_pos h] at fin
    exact fin
end HS

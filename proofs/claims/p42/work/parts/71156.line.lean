/-! ===== by hand: readLine ===== -/
def h_nb (jm b ln hu wk ti wi dr c r : Nat) (ws : va_W) (ts : List Nat) : Prop := (h_pl ws jm 35 (.int (nI b)) ∧ h_fb ws jm 7 2147483648 2147485248) ∧ (h_ln ws ts jm 13 43 b (nI ln) ∧ h_ln ws ts jm 14 44 b (nI hu) ∧ h_ln ws ts jm 16 51 b (nI wk) ∧ h_ln ws ts jm 25 57 b (nI ti) ∧ h_ln ws ts jm 26 58 b (nI wi) ∧ h_ln ws ts jm 27 59 b (nI dr) ∧ h_ln ws ts jm 11 49 b (nI c) ∧ h_ln ws ts jm 12 50 b (nI r)) ∧ h_hm ws ts jm b wk (c * r) ∧ ((ti = 0 ∧ h_pl ws jm 36 (.int (nI (560 * b)))) ∨ (ti = 1 ∧ h_cw jm b ws ts))
def h_nn (ln hu wk ti wi dr c r : Nat) : Prop := hu ≤ 4 ∧ wk ≤ 5 ∧ ti ≤ 1 ∧ wi ≤ 1 ∧ dr ≤ 1 ∧ (2 ≤ c ∧ c ≤ 5) ∧ (2 ≤ r ∧ r ≤ 5) ∧ hu + wk + ti + wi + dr ≤ ln ∧ ln ≤ hu + wk + ti + wi + dr + 1
/-- the bank that is being read, ln lines on -/
def h_nbx (jm b ln : Nat) (ws : va_W) (ts : List Nat) : Prop := ∃ hu wk ti wi dr c r : Nat, h_nb jm b ln hu wk ti wi dr c r ws ts ∧ h_nn ln hu wk ti wi dr c r
def h_kmu : List z_C := [(40, 2147483652, 2147483658)]
theorem h_nb.fm {ws ws' : va_W} {ts ts' : List Nat} {jm b ln hu wk ti wi dr c r : Nat} (hf : z_Fr h_kmu ws ts ws' ts') (hm : ts[jm]? = some 40) (h7 : h_fb ws' jm 7 2147483648 2147485248) (h : h_nb jm b ln hu wk ti wi dr c r ws ts) : h_nb jm b ln hu wk ti wi dr c r ws' ts' := by
  obtain ⟨⟨a1, -⟩, ⟨b1, b2, b3, b4, b5, b6, b7, b8⟩, c1, d1⟩ := h
  have k : ∀ q, 11 ≤ q → q ≤ 67 → ¬ z_wr h_kmu 40 q := fun q h1 h2 => h_offs (lo := 11) (hi := 67) rfl q h1 h2
  refine ⟨⟨a1.fr hf hm (k _ (by omega) (by omega)), h7⟩, ⟨b1.fr hf hm (k _ (by omega) (by omega)) (h_nots rfl _), b2.fr hf hm (k _ (by omega) (by omega)) (h_nots rfl _), b3.fr hf hm (k _ (by omega) (by omega)) (h_nots rfl _), b4.fr hf hm (k _ (by omega) (by omega)) (h_nots rfl _), b5.fr hf hm (k _ (by omega) (by omega)) (h_nots rfl _), b6.fr hf hm (k _ (by omega) (by omega)) (h_nots rfl _), b7.fr hf hm (k _ (by omega) (by omega)) (h_nots rfl _), b8.fr hf hm (k _ (by omega) (by omega)) (h_nots rfl _)⟩, c1.fr hf hm (k _ (by omega) (by omega)) (fun _ _ => h_nots rfl _), ?_⟩
  rcases d1 with ⟨d1, d2⟩ | ⟨d1, d2⟩
  · exact Or.inl ⟨d1, d2.fr hf hm (k _ (by omega) (by omega))⟩
  · exact Or.inr ⟨d1, d2.fr hf hm (k _ (by omega) (by omega)) (k _ (by omega) (by omega)) (k _ (by omega) (by omega)) (h_nots rfl) (h_nots rfl _) (h_nots rfl _)⟩
def h_kr0 (b : Nat) : List z_C := [(40, 2147483652, 2147483658), (43, 2147483648 + b, 2147483648 + b), (44, 2147483648 + b, 2147483648 + b), (45, 2147483648 + b, 2147483648 + b), (47, 2147483648 + b, 2147483648 + b), (48, 2147483648 + b, 2147483648 + b), (49, 2147483648 + b, 2147483648 + b), (50, 2147483648 + b, 2147483648 + b), (58, 2147483648 + b, 2147483648 + b), (59, 2147483648 + b, 2147483648 + b)]
def h_krl (b : Nat) : List z_C := (57, 2147483648 + b, 2147483648 + b) :: (h_kr0 b ++ (h_krw b ++ h_krr b))
def h_e7 : Nat × Nat × z_C := (0, 7, (0, 2147483648, 2147485248))
def h_e35 (b : Nat) : Nat × Nat × z_C := (0, 35, (0, 2147483648 + b, 2147483648 + b))
def h_R0 : z_R := ([(0, 4, (0, 2147483649, 4294967295))], [], [])
def h_R1 (b : Nat) : z_R := ([h_e7, h_e35 b], [(4, b, 5, 1), (6, b, 7, 1), (8, b, 9, 0), (10, b, 11, 0), (12, b, 13, 0), (14, b, 15, 0), (16, b, 17, 0), (18, b, 19, 0)], [(7, (0, 2147483648, 2147483651))])
def h_R2 (b : Nat) : z_R := ([h_e7, h_e35 b, (12, b, (0, 2147483649, 2147483649))], [(4, b, 5, 1), (6, b, 7, 0), (8, b, 9, 0), (10, b, 11, 0), (14, b, 15, 0), (16, b, 17, 0), (18, b, 19, 0)], [(13, (0, 2147483648, 2147483648))])
def h_R3 (b : Nat) : z_R := ([h_e7, h_e35 b, (14, b, (0, 2147483649, 2147483649))], [(4, b, 5, 1), (6, b, 7, 0), (8, b, 9, 0), (10, b, 11, 0), (12, b, 13, 0), (16, b, 17, 0), (18, b, 19, 0)], [(15, (0, 2147483648, 2147483648))])
def h_R4 (b : Nat) : z_R := ([h_e7, h_e35 b, (16, b, (0, 2147483650, 2147483653)), (18, b, (0, 2147483650, 2147483653))], [(4, b, 5, 1), (6, b, 7, 0), (8, b, 9, 0), (10, b, 11, 0), (12, b, 13, 0), (14, b, 15, 0)], [(5, (0, 2147483648, 2147483648))])
def h_Rw (b : Nat) : z_R := ([h_e7, h_e35 b, (0, 4, (0, 2147483648, 2147483648))], [(4, b, 5, 1), (6, b, 7, 0), (8, b, 9, 0), (10, b, 11, 0), (12, b, 13, 0), (14, b, 15, 0), (16, b, 17, 0), (18, b, 19, 0)], [(9, (0, 2147483648, 2147483652))])
def h_Rt (b : Nat) : z_R := ([h_e7, h_e35 b, (0, 4, (0, 2147483648, 2147483648))], [(4, b, 5, 1), (6, b, 7, 0), (8, b, 9, 0), (10, b, 11, 0), (12, b, 13, 0), (14, b, 15, 0), (16, b, 17, 0), (18, b, 19, 0)], [(11, (0, 2147483648, 2147483648))])
def h_prl (jm b ln : Nat) : Option Value → va_W → List Nat → Prop := fun v ws ts => v = none ∧ (h_fb ws jm 4 2147483649 4294967295 ∨ h_nbx jm b (ln + 1) ws ts)
def h_bvl (am b : Nat) (x7 : Int32) (ln hu wk ti wi dr c r al ah aw at9 ai ad ac ar : Nat) : List Value := [.ref am, .int (nI b), .int x7, .int (nI 0), .ref al, .int (nI ln), .ref ah, .int (nI hu), .ref aw, .int (nI wk), .ref at9, .int (nI ti), .ref ai, .int (nI wi), .ref ad, .int (nI dr), .ref ac, .int (nI c), .ref ar, .int (nI r)]
section HE
variable {P : Nat → Prop} {ws ws4 : va_W} {ts ts4 : List Nat} {M : z_M} {R : z_R} {bv : List Value} {jm am b : Nat} {x7 : Int32} {ln hu wk ti wi dr c r al ah aw at9 ai ad ac ar jl jh jw jt ji jd jc jr : Nat}
theorem h_e_row {k t j a i s n dl : Nat} (hm2 : ts[jm]? = some 40) (hD4 : va_D P ws4) (hF4 : z_Fr (h_kr0 b) ws ts ws4 ts4) (hal : z_altP M bv ws4 ts4 R) (hmem : (i, b, s, dl) ∈ R.2.1) (hpx : h_px ws ts jm k t j a) (hb1 : bv[i]? = some (.ref a)) (hb2 : bv[s]? = some (.int (nI n))) (g1 : 11 ≤ k) (g2 : k ≤ 67) (g3 : n + dl < 2147483648) : h_ln ws4 ts4 jm k t b (nI (n + dl)) := h_rel hD4 hF4 hm2 (h_offs (lo := 11) (hi := 67) rfl _ g1 g2) hpx hb1 (hal.2.1 _ hmem) hb2 g3
theorem h_e_fact {k t j a i lo hi : Nat} (hm2 : ts[jm]? = some 40) (hD4 : va_D P ws4) (hF4 : z_Fr (h_kr0 b) ws ts ws4 ts4) (hal : z_altP M bv ws4 ts4 R) (hmem : (i, b, (0, lo, hi)) ∈ R.1) (hpx : h_px ws ts jm k t j a) (hb1 : bv[i]? = some (.ref a)) (g1 : 11 ≤ k) (g2 : k ≤ 67) : ∃ v : Int32, h_ln ws4 ts4 jm k t b v ∧ lo ≤ q_qb v ∧ q_qb v ≤ hi := by
  obtain ⟨v, v1, v2⟩ := h_lane hD4 hF4 hpx hb1 (hal.1.2 _ hmem)
  exact ⟨v, ⟨_, _, hpx.fr hF4 hm2 (h_offs (lo := 11) (hi := 67) rfl _ g1 g2), v1⟩, v2⟩
theorem h_e_head (hb : b < 2) (hm1 : (q_ad ws)[jm]? = some am) (q0 : bv[0]? = some (.ref am)) (hD4 : va_D P ws4) (hF4 : z_Fr (h_kr0 b) ws ts ws4 ts4) (hal : z_altP M bv ws4 ts4 R) (e1 : h_e7 ∈ R.1) (e2 : h_e35 b ∈ R.1) : h_pl ws4 jm 35 (.int (nI b)) ∧ h_fb ws4 jm 7 2147483648 2147485248 := by
  refine ⟨?_, h_fbo hD4 (z_gm hF4.2.1 hm1) q0 (hal.1.2 _ e1)⟩
  obtain ⟨y, y1, y2, y3⟩ := h_fbo hD4 (z_gm hF4.2.1 hm1) q0 (hal.1.2 _ e2)
  rw [← h_qv (n := b) (by omega) (y := y) (by omega)]
  exact y1
theorem h_e_code (hm2 : ts[jm]? = some 40) (hF4 : z_Fr (h_kr0 b) ws ts ws4 ts4) (nc : (ti = 0 ∧ h_pl ws jm 36 (.int (nI (560 * b)))) ∨ (ti = 1 ∧ h_cw jm b ws ts)) : (ti = 0 ∧ h_pl ws4 jm 36 (.int (nI (560 * b)))) ∨ (ti = 1 ∧ h_cw jm b ws4 ts4) := by
  have k : ∀ q, 11 ≤ q → q ≤ 67 → ¬ z_wr (h_kr0 b) 40 q := fun q h1 h2 => h_offs (lo := 11) (hi := 67) rfl q h1 h2
  rcases nc with ⟨e1, e2⟩ | ⟨e1, e2⟩
  · exact Or.inl ⟨e1, e2.fr hF4 hm2 (k _ (by omega) (by omega))⟩
  · exact Or.inr ⟨e1, e2.fr hF4 hm2 (k _ (by omega) (by omega)) (k _ (by omega) (by omega)) (k _ (by omega) (by omega)) (h_nots rfl) (h_nots rfl _) (h_nots rfl _)⟩
theorem h_e_home (hm2 : ts[jm]? = some 40) (hF4 : z_Fr (h_kr0 b) ws ts ws4 ts4) (nh : h_hm ws ts jm b wk (c * r)) : h_hm ws4 ts4 jm b wk (c * r) := nh.fr hF4 hm2 (h_offs (lo := 11) (hi := 67) rfl _ (by omega) (by omega)) (fun _ _ => h_nots rfl _)
theorem h_e_bd {s lo hi n : Nat} (hal : z_altP M bv ws4 ts4 R) (hmem : (s, (0, lo, hi)) ∈ R.2.2) (hb2 : bv[s]? = some (.int (nI n))) (hn : n < 2147483648) : lo ≤ 2147483648 + n ∧ 2147483648 + n ≤ hi := by
  obtain ⟨y0, z1, z2, z3⟩ := hal.2.2 _ hmem
  rw [hb2] at z1
  cases z1
  rw [z_qnI hn] at z2 z3
  exact ⟨z2, z3⟩
theorem h_ret1 (hb : b < 2) (hm1 : (q_ad ws)[jm]? = some am) (hm2 : ts[jm]? = some 40) (l1 : h_px ws ts jm 13 43 jl al) (k1 : h_px ws ts jm 14 44 jh ah) (w1 : h_px ws ts jm 16 51 jw aw) (t1 : h_px ws ts jm 25 57 jt at9) (i1 : h_px ws ts jm 26 58 ji ai) (d1 : h_px ws ts jm 27 59 jd ad) (c1 : h_px ws ts jm 11 49 jc ac) (r1 : h_px ws ts jm 12 50 jr ar) (nh : h_hm ws ts jm b wk (c * r)) (nc : (ti = 0 ∧ h_pl ws jm 36 (.int (nI (560 * b)))) ∨ (ti = 1 ∧ h_cw jm b ws ts)) (hn : h_nn ln hu wk ti wi dr c r) (hD4 : va_D P ws4) (hF4 : z_Fr (h_kr0 b) ws ts ws4 ts4) (hal : z_altP M (h_bvl am b x7 ln hu wk ti wi dr c r al ah aw at9 ai ad ac ar) ws4 ts4 (h_R1 b)) : h_nbx jm b (ln + 1) ws4 ts4 := by
  obtain ⟨m1, m2, m3, m4, m5, m6, m7, m8, m9⟩ := hn
  have z := h_e_bd (R := h_R1 b) (s := 7) (n := hu) hal List.mem_cons_self rfl (by omega)
  have Rl1 := h_e_row (R := (h_R1 b)) (dl := 1) hm2 hD4 hF4 hal List.mem_cons_self l1 rfl rfl (by decide) (by decide) (by omega)
  have Rk1 := h_e_row (R := (h_R1 b)) (dl := 1) hm2 hD4 hF4 hal (List.mem_cons_of_mem _ List.mem_cons_self) k1 rfl rfl (by decide) (by decide) (by omega)
  have Rw1 := h_e_row (R := (h_R1 b)) (dl := 0) hm2 hD4 hF4 hal (List.mem_cons_of_mem _ (List.mem_cons_of_mem _ List.mem_cons_self)) w1 rfl rfl (by decide) (by decide) (by omega)
  have Rt1 := h_e_row (R := (h_R1 b)) (dl := 0) hm2 hD4 hF4 hal (List.mem_cons_of_mem _ (List.mem_cons_of_mem _ (List.mem_cons_of_mem _ List.mem_cons_self))) t1 rfl rfl (by decide) (by decide) (by omega)
  have Ri1 := h_e_row (R := (h_R1 b)) (dl := 0) hm2 hD4 hF4 hal (List.mem_cons_of_mem _ (List.mem_cons_of_mem _ (List.mem_cons_of_mem _ (List.mem_cons_of_mem _ List.mem_cons_self)))) i1 rfl rfl (by decide) (by decide) (by omega)
  have Rd1 := h_e_row (R := (h_R1 b)) (dl := 0) hm2 hD4 hF4 hal (List.mem_cons_of_mem _ (List.mem_cons_of_mem _ (List.mem_cons_of_mem _ (List.mem_cons_of_mem _ (List.mem_cons_of_mem _ List.mem_cons_self))))) d1 rfl rfl (by decide) (by decide) (by omega)
  have Rc1 := h_e_row (R := (h_R1 b)) (dl := 0) hm2 hD4 hF4 hal (List.mem_cons_of_mem _ (List.mem_cons_of_mem _ (List.mem_cons_of_mem _ (List.mem_cons_of_mem _ (List.mem_cons_of_mem _ (List.mem_cons_of_mem _ List.mem_cons_self)))))) c1 rfl rfl (by decide) (by decide) (by omega)
  have Rr1 := h_e_row (R := (h_R1 b)) (dl := 0) hm2 hD4 hF4 hal (List.mem_cons_of_mem _ (List.mem_cons_of_mem _ (List.mem_cons_of_mem _ (List.mem_cons_of_mem _ (List.mem_cons_of_mem _ (List.mem_cons_of_mem _ (List.mem_cons_of_mem _ List.mem_cons_self))))))) r1 rfl rfl (by decide) (by decide) (by omega)
  have hd := h_e_head (R := (h_R1 b)) hb hm1 rfl hD4 hF4 hal List.mem_cons_self (List.mem_cons_of_mem _ List.mem_cons_self)
  exact ⟨hu + 1, wk, ti, wi, dr, c, r, ⟨hd, ⟨Rl1, Rk1, Rw1, Rt1, Ri1, Rd1, Rc1, Rr1⟩, h_e_home hm2 hF4 nh, h_e_code hm2 hF4 nc⟩, by omega, m2, m3, m4, m5, m6, m7, by omega, by omega⟩
theorem h_ret2 (hb : b < 2) (hm1 : (q_ad ws)[jm]? = some am) (hm2 : ts[jm]? = some 40) (l1 : h_px ws ts jm 13 43 jl al) (k1 : h_px ws ts jm 14 44 jh ah) (w1 : h_px ws ts jm 16 51 jw aw) (t1 : h_px ws ts jm 25 57 jt at9) (i1 : h_px ws ts jm 26 58 ji ai) (d1 : h_px ws ts jm 27 59 jd ad) (c1 : h_px ws ts jm 11 49 jc ac) (r1 : h_px ws ts jm 12 50 jr ar) (nh : h_hm ws ts jm b wk (c * r)) (nc : (ti = 0 ∧ h_pl ws jm 36 (.int (nI (560 * b)))) ∨ (ti = 1 ∧ h_cw jm b ws ts)) (hn : h_nn ln hu wk ti wi dr c r) (hD4 : va_D P ws4) (hF4 : z_Fr (h_kr0 b) ws ts ws4 ts4) (hal : z_altP M (h_bvl am b x7 ln hu wk ti wi dr c r al ah aw at9 ai ad ac ar) ws4 ts4 (h_R2 b)) : h_nbx jm b (ln + 1) ws4 ts4 := by
  obtain ⟨m1, m2, m3, m4, m5, m6, m7, m8, m9⟩ := hn
  have z := h_e_bd (R := h_R2 b) (s := 13) (n := wi) hal List.mem_cons_self rfl (by omega)
  obtain ⟨y, y1, y2, y3⟩ := h_e_fact (R := h_R2 b) (i := 12) hm2 hD4 hF4 hal (List.mem_cons_of_mem _ (List.mem_cons_of_mem _ List.mem_cons_self)) i1 rfl (by decide) (by decide)
  rw [h_qv (n := 1) (by omega) (y := y) (by omega)] at y1
  have Rl1 := h_e_row (R := (h_R2 b)) (dl := 1) hm2 hD4 hF4 hal List.mem_cons_self l1 rfl rfl (by decide) (by decide) (by omega)
  have Rk1 := h_e_row (R := (h_R2 b)) (dl := 0) hm2 hD4 hF4 hal (List.mem_cons_of_mem _ List.mem_cons_self) k1 rfl rfl (by decide) (by decide) (by omega)
  have Rw1 := h_e_row (R := (h_R2 b)) (dl := 0) hm2 hD4 hF4 hal (List.mem_cons_of_mem _ (List.mem_cons_of_mem _ List.mem_cons_self)) w1 rfl rfl (by decide) (by decide) (by omega)
  have Rt1 := h_e_row (R := (h_R2 b)) (dl := 0) hm2 hD4 hF4 hal (List.mem_cons_of_mem _ (List.mem_cons_of_mem _ (List.mem_cons_of_mem _ List.mem_cons_self))) t1 rfl rfl (by decide) (by decide) (by omega)
  have Rd1 := h_e_row (R := (h_R2 b)) (dl := 0) hm2 hD4 hF4 hal (List.mem_cons_of_mem _ (List.mem_cons_of_mem _ (List.mem_cons_of_mem _ (List.mem_cons_of_mem _ List.mem_cons_self)))) d1 rfl rfl (by decide) (by decide) (by omega)
  have Rc1 := h_e_row (R := (h_R2 b)) (dl := 0) hm2 hD4 hF4 hal (List.mem_cons_of_mem _ (List.mem_cons_of_mem _ (List.mem_cons_of_mem _ (List.mem_cons_of_mem _ (List.mem_cons_of_mem _ List.mem_cons_self))))) c1 rfl rfl (by decide) (by decide) (by omega)
  have Rr1 := h_e_row (R := (h_R2 b)) (dl := 0) hm2 hD4 hF4 hal (List.mem_cons_of_mem _ (List.mem_cons_of_mem _ (List.mem_cons_of_mem _ (List.mem_cons_of_mem _ (List.mem_cons_of_mem _ (List.mem_cons_of_mem _ List.mem_cons_self)))))) r1 rfl rfl (by decide) (by decide) (by omega)
  have hd := h_e_head (R := (h_R2 b)) hb hm1 rfl hD4 hF4 hal List.mem_cons_self (List.mem_cons_of_mem _ List.mem_cons_self)
  exact ⟨hu, wk, ti, 1, dr, c, r, ⟨hd, ⟨Rl1, Rk1, Rw1, Rt1, y1, Rd1, Rc1, Rr1⟩, h_e_home hm2 hF4 nh, h_e_code hm2 hF4 nc⟩, m1, m2, m3, by omega, m5, m6, m7, by omega, by omega⟩
theorem h_ret3 (hb : b < 2) (hm1 : (q_ad ws)[jm]? = some am) (hm2 : ts[jm]? = some 40) (l1 : h_px ws ts jm 13 43 jl al) (k1 : h_px ws ts jm 14 44 jh ah) (w1 : h_px ws ts jm 16 51 jw aw) (t1 : h_px ws ts jm 25 57 jt at9) (i1 : h_px ws ts jm 26 58 ji ai) (d1 : h_px ws ts jm 27 59 jd ad) (c1 : h_px ws ts jm 11 49 jc ac) (r1 : h_px ws ts jm 12 50 jr ar) (nh : h_hm ws ts jm b wk (c * r)) (nc : (ti = 0 ∧ h_pl ws jm 36 (.int (nI (560 * b)))) ∨ (ti = 1 ∧ h_cw jm b ws ts)) (hn : h_nn ln hu wk ti wi dr c r) (hD4 : va_D P ws4) (hF4 : z_Fr (h_kr0 b) ws ts ws4 ts4) (hal : z_altP M (h_bvl am b x7 ln hu wk ti wi dr c r al ah aw at9 ai ad ac ar) ws4 ts4 (h_R3 b)) : h_nbx jm b (ln + 1) ws4 ts4 := by
  obtain ⟨m1, m2, m3, m4, m5, m6, m7, m8, m9⟩ := hn
  have z := h_e_bd (R := h_R3 b) (s := 15) (n := dr) hal List.mem_cons_self rfl (by omega)
  obtain ⟨y, y1, y2, y3⟩ := h_e_fact (R := h_R3 b) (i := 14) hm2 hD4 hF4 hal (List.mem_cons_of_mem _ (List.mem_cons_of_mem _ List.mem_cons_self)) d1 rfl (by decide) (by decide)
  rw [h_qv (n := 1) (by omega) (y := y) (by omega)] at y1
  have Rl1 := h_e_row (R := (h_R3 b)) (dl := 1) hm2 hD4 hF4 hal List.mem_cons_self l1 rfl rfl (by decide) (by decide) (by omega)
  have Rk1 := h_e_row (R := (h_R3 b)) (dl := 0) hm2 hD4 hF4 hal (List.mem_cons_of_mem _ List.mem_cons_self) k1 rfl rfl (by decide) (by decide) (by omega)
  have Rw1 := h_e_row (R := (h_R3 b)) (dl := 0) hm2 hD4 hF4 hal (List.mem_cons_of_mem _ (List.mem_cons_of_mem _ List.mem_cons_self)) w1 rfl rfl (by decide) (by decide) (by omega)
  have Rt1 := h_e_row (R := (h_R3 b)) (dl := 0) hm2 hD4 hF4 hal (List.mem_cons_of_mem _ (List.mem_cons_of_mem _ (List.mem_cons_of_mem _ List.mem_cons_self))) t1 rfl rfl (by decide) (by decide) (by omega)
  have Ri1 := h_e_row (R := (h_R3 b)) (dl := 0) hm2 hD4 hF4 hal (List.mem_cons_of_mem _ (List.mem_cons_of_mem _ (List.mem_cons_of_mem _ (List.mem_cons_of_mem _ List.mem_cons_self)))) i1 rfl rfl (by decide) (by decide) (by omega)
  have Rc1 := h_e_row (R := (h_R3 b)) (dl := 0) hm2 hD4 hF4 hal (List.mem_cons_of_mem _ (List.mem_cons_of_mem _ (List.mem_cons_of_mem _ (List.mem_cons_of_mem _ (List.mem_cons_of_mem _ List.mem_cons_self))))) c1 rfl rfl (by decide) (by decide) (by omega)
  have Rr1 := h_e_row (R := (h_R3 b)) (dl := 0) hm2 hD4 hF4 hal (List.mem_cons_of_mem _ (List.mem_cons_of_mem _ (List.mem_cons_of_mem _ (List.mem_cons_of_mem _ (List.mem_cons_of_mem _ (List.mem_cons_of_mem _ List.mem_cons_self)))))) r1 rfl rfl (by decide) (by decide) (by omega)
  have hd := h_e_head (R := (h_R3 b)) hb hm1 rfl hD4 hF4 hal List.mem_cons_self (List.mem_cons_of_mem _ List.mem_cons_self)
  exact ⟨hu, wk, ti, wi, 1, c, r, ⟨hd, ⟨Rl1, Rk1, Rw1, Rt1, Ri1, y1, Rc1, Rr1⟩, h_e_home hm2 hF4 nh, h_e_code hm2 hF4 nc⟩, m1, m2, m3, m4, by omega, m6, m7, by omega, by omega⟩
theorem h_ret4 (hb : b < 2) (hm1 : (q_ad ws)[jm]? = some am) (hm2 : ts[jm]? = some 40) (l1 : h_px ws ts jm 13 43 jl al) (k1 : h_px ws ts jm 14 44 jh ah) (w1 : h_px ws ts jm 16 51 jw aw) (t1 : h_px ws ts jm 25 57 jt at9) (i1 : h_px ws ts jm 26 58 ji ai) (d1 : h_px ws ts jm 27 59 jd ad) (c1 : h_px ws ts jm 11 49 jc ac) (r1 : h_px ws ts jm 12 50 jr ar) (nh : h_hm ws ts jm b wk (c * r)) (nc : (ti = 0 ∧ h_pl ws jm 36 (.int (nI (560 * b)))) ∨ (ti = 1 ∧ h_cw jm b ws ts)) (hn : h_nn ln hu wk ti wi dr c r) (hD4 : va_D P ws4) (hF4 : z_Fr (h_kr0 b) ws ts ws4 ts4) (hal : z_altP M (h_bvl am b x7 ln hu wk ti wi dr c r al ah aw at9 ai ad ac ar) ws4 ts4 (h_R4 b)) : h_nbx jm b (ln + 1) ws4 ts4 := by
  obtain ⟨m1, m2, m3, m4, m5, m6, m7, m8, m9⟩ := hn
  have z := h_e_bd (R := h_R4 b) (s := 5) (n := ln) hal List.mem_cons_self rfl (by omega)
  obtain ⟨y, y1, y2, y3⟩ := h_e_fact (R := h_R4 b) (i := 16) hm2 hD4 hF4 hal (List.mem_cons_of_mem _ (List.mem_cons_of_mem _ List.mem_cons_self)) c1 rfl (by decide) (by decide)
  obtain ⟨q, q1, q2, q3⟩ := h_e_fact (R := h_R4 b) (i := 18) hm2 hD4 hF4 hal (List.mem_cons_of_mem _ (List.mem_cons_of_mem _ (List.mem_cons_of_mem _ List.mem_cons_self))) r1 rfl (by decide) (by decide)
  obtain ⟨c', cc1, rfl, cc3⟩ := z_nat (x := y) (by omega)
  obtain ⟨r', rr1, rfl, rr3⟩ := z_nat (x := q) (by omega)
  have w0 : wk = 0 := by omega
  have Rl1 := h_e_row (R := (h_R4 b)) (dl := 1) hm2 hD4 hF4 hal List.mem_cons_self l1 rfl rfl (by decide) (by decide) (by omega)
  have Rk1 := h_e_row (R := (h_R4 b)) (dl := 0) hm2 hD4 hF4 hal (List.mem_cons_of_mem _ List.mem_cons_self) k1 rfl rfl (by decide) (by decide) (by omega)
  have Rw1 := h_e_row (R := (h_R4 b)) (dl := 0) hm2 hD4 hF4 hal (List.mem_cons_of_mem _ (List.mem_cons_of_mem _ List.mem_cons_self)) w1 rfl rfl (by decide) (by decide) (by omega)
  have Rt1 := h_e_row (R := (h_R4 b)) (dl := 0) hm2 hD4 hF4 hal (List.mem_cons_of_mem _ (List.mem_cons_of_mem _ (List.mem_cons_of_mem _ List.mem_cons_self))) t1 rfl rfl (by decide) (by decide) (by omega)
  have Ri1 := h_e_row (R := (h_R4 b)) (dl := 0) hm2 hD4 hF4 hal (List.mem_cons_of_mem _ (List.mem_cons_of_mem _ (List.mem_cons_of_mem _ (List.mem_cons_of_mem _ List.mem_cons_self)))) i1 rfl rfl (by decide) (by decide) (by omega)
  have Rd1 := h_e_row (R := (h_R4 b)) (dl := 0) hm2 hD4 hF4 hal (List.mem_cons_of_mem _ (List.mem_cons_of_mem _ (List.mem_cons_of_mem _ (List.mem_cons_of_mem _ (List.mem_cons_of_mem _ List.mem_cons_self))))) d1 rfl rfl (by decide) (by decide) (by omega)
  have hd := h_e_head (R := (h_R4 b)) hb hm1 rfl hD4 hF4 hal List.mem_cons_self (List.mem_cons_of_mem _ List.mem_cons_self)
  subst w0
  obtain ⟨jh9, ah9, hh1, -⟩ := h_e_home hm2 hF4 nh
  exact ⟨hu, 0, ti, wi, dr, c', r', ⟨hd, ⟨Rl1, Rk1, Rw1, Rt1, Ri1, Rd1, y1, q1⟩, ⟨jh9, ah9, hh1, fun w hw => absurd hw (Nat.not_lt_zero _)⟩, h_e_code hm2 hF4 nc⟩, m1, m2, m3, m4, m5, by omega, by omega, by omega, by omega⟩
theorem h_stw (hb : b < 2) (hm1 : (q_ad ws)[jm]? = some am) (hm2 : ts[jm]? = some 40) (l1 : h_px ws ts jm 13 43 jl al) (k1 : h_px ws ts jm 14 44 jh ah) (w1 : h_px ws ts jm 16 51 jw aw) (t1 : h_px ws ts jm 25 57 jt at9) (i1 : h_px ws ts jm 26 58 ji ai) (d1 : h_px ws ts jm 27 59 jd ad) (c1 : h_px ws ts jm 11 49 jc ac) (r1 : h_px ws ts jm 12 50 jr ar) (nh : h_hm ws ts jm b wk (c * r)) (nc : (ti = 0 ∧ h_pl ws jm 36 (.int (nI (560 * b)))) ∨ (ti = 1 ∧ h_cw jm b ws ts)) (hn : h_nn ln hu wk ti wi dr c r) (hD4 : va_D P ws4) (hF4 : z_Fr (h_kr0 b) ws ts ws4 ts4) (hal : z_altP M (h_bvl am b x7 ln hu wk ti wi dr c r al ah aw at9 ai ad ac ar) ws4 ts4 (h_Rw b)) : wk ≤ 4 ∧ h_nb jm b (ln + 1) hu wk ti wi dr c r ws4 ts4 := by
  obtain ⟨m1, m2, m3, m4, m5, m6, m7, m8, m9⟩ := hn
  have z := h_e_bd (R := h_Rw b) (s := 9) (n := wk) hal List.mem_cons_self rfl (by omega)
  have Rl1 := h_e_row (R := (h_Rw b)) (dl := 1) hm2 hD4 hF4 hal List.mem_cons_self l1 rfl rfl (by decide) (by decide) (by omega)
  have Rk1 := h_e_row (R := (h_Rw b)) (dl := 0) hm2 hD4 hF4 hal (List.mem_cons_of_mem _ List.mem_cons_self) k1 rfl rfl (by decide) (by decide) (by omega)
  have Rw1 := h_e_row (R := (h_Rw b)) (dl := 0) hm2 hD4 hF4 hal (List.mem_cons_of_mem _ (List.mem_cons_of_mem _ List.mem_cons_self)) w1 rfl rfl (by decide) (by decide) (by omega)
  have Rt1 := h_e_row (R := (h_Rw b)) (dl := 0) hm2 hD4 hF4 hal (List.mem_cons_of_mem _ (List.mem_cons_of_mem _ (List.mem_cons_of_mem _ List.mem_cons_self))) t1 rfl rfl (by decide) (by decide) (by omega)
  have Ri1 := h_e_row (R := (h_Rw b)) (dl := 0) hm2 hD4 hF4 hal (List.mem_cons_of_mem _ (List.mem_cons_of_mem _ (List.mem_cons_of_mem _ (List.mem_cons_of_mem _ List.mem_cons_self)))) i1 rfl rfl (by decide) (by decide) (by omega)
  have Rd1 := h_e_row (R := (h_Rw b)) (dl := 0) hm2 hD4 hF4 hal (List.mem_cons_of_mem _ (List.mem_cons_of_mem _ (List.mem_cons_of_mem _ (List.mem_cons_of_mem _ (List.mem_cons_of_mem _ List.mem_cons_self))))) d1 rfl rfl (by decide) (by decide) (by omega)
  have Rc1 := h_e_row (R := (h_Rw b)) (dl := 0) hm2 hD4 hF4 hal (List.mem_cons_of_mem _ (List.mem_cons_of_mem _ (List.mem_cons_of_mem _ (List.mem_cons_of_mem _ (List.mem_cons_of_mem _ (List.mem_cons_of_mem _ List.mem_cons_self)))))) c1 rfl rfl (by decide) (by decide) (by omega)
  have Rr1 := h_e_row (R := (h_Rw b)) (dl := 0) hm2 hD4 hF4 hal (List.mem_cons_of_mem _ (List.mem_cons_of_mem _ (List.mem_cons_of_mem _ (List.mem_cons_of_mem _ (List.mem_cons_of_mem _ (List.mem_cons_of_mem _ (List.mem_cons_of_mem _ List.mem_cons_self))))))) r1 rfl rfl (by decide) (by decide) (by omega)
  have hd := h_e_head (R := (h_Rw b)) hb hm1 rfl hD4 hF4 hal List.mem_cons_self (List.mem_cons_of_mem _ List.mem_cons_self)
  exact ⟨by omega, hd, ⟨Rl1, Rk1, Rw1, Rt1, Ri1, Rd1, Rc1, Rr1⟩, h_e_home hm2 hF4 nh, h_e_code hm2 hF4 nc⟩
theorem h_stt (hb : b < 2) (hm1 : (q_ad ws)[jm]? = some am) (hm2 : ts[jm]? = some 40) (l1 : h_px ws ts jm 13 43 jl al) (k1 : h_px ws ts jm 14 44 jh ah) (w1 : h_px ws ts jm 16 51 jw aw) (t1 : h_px ws ts jm 25 57 jt at9) (i1 : h_px ws ts jm 26 58 ji ai) (d1 : h_px ws ts jm 27 59 jd ad) (c1 : h_px ws ts jm 11 49 jc ac) (r1 : h_px ws ts jm 12 50 jr ar) (nh : h_hm ws ts jm b wk (c * r)) (nc : (ti = 0 ∧ h_pl ws jm 36 (.int (nI (560 * b)))) ∨ (ti = 1 ∧ h_cw jm b ws ts)) (hn : h_nn ln hu wk ti wi dr c r) (hD4 : va_D P ws4) (hF4 : z_Fr (h_kr0 b) ws ts ws4 ts4) (hal : z_altP M (h_bvl am b x7 ln hu wk ti wi dr c r al ah aw at9 ai ad ac ar) ws4 ts4 (h_Rt b)) : ti = 0 ∧ h_nb jm b (ln + 1) hu wk ti wi dr c r ws4 ts4 := by
  obtain ⟨m1, m2, m3, m4, m5, m6, m7, m8, m9⟩ := hn
  have z := h_e_bd (R := h_Rt b) (s := 11) (n := ti) hal List.mem_cons_self rfl (by omega)
  have Rl1 := h_e_row (R := (h_Rt b)) (dl := 1) hm2 hD4 hF4 hal List.mem_cons_self l1 rfl rfl (by decide) (by decide) (by omega)
  have Rk1 := h_e_row (R := (h_Rt b)) (dl := 0) hm2 hD4 hF4 hal (List.mem_cons_of_mem _ List.mem_cons_self) k1 rfl rfl (by decide) (by decide) (by omega)
  have Rw1 := h_e_row (R := (h_Rt b)) (dl := 0) hm2 hD4 hF4 hal (List.mem_cons_of_mem _ (List.mem_cons_of_mem _ List.mem_cons_self)) w1 rfl rfl (by decide) (by decide) (by omega)
  have Rt1 := h_e_row (R := (h_Rt b)) (dl := 0) hm2 hD4 hF4 hal (List.mem_cons_of_mem _ (List.mem_cons_of_mem _ (List.mem_cons_of_mem _ List.mem_cons_self))) t1 rfl rfl (by decide) (by decide) (by omega)
  have Ri1 := h_e_row (R := (h_Rt b)) (dl := 0) hm2 hD4 hF4 hal (List.mem_cons_of_mem _ (List.mem_cons_of_mem _ (List.mem_cons_of_mem _ (List.mem_cons_of_mem _ List.mem_cons_self)))) i1 rfl rfl (by decide) (by decide) (by omega)
  have Rd1 := h_e_row (R := (h_Rt b)) (dl := 0) hm2 hD4 hF4 hal (List.mem_cons_of_mem _ (List.mem_cons_of_mem _ (List.mem_cons_of_mem _ (List.mem_cons_of_mem _ (List.mem_cons_of_mem _ List.mem_cons_self))))) d1 rfl rfl (by decide) (by decide) (by omega)
  have Rc1 := h_e_row (R := (h_Rt b)) (dl := 0) hm2 hD4 hF4 hal (List.mem_cons_of_mem _ (List.mem_cons_of_mem _ (List.mem_cons_of_mem _ (List.mem_cons_of_mem _ (List.mem_cons_of_mem _ (List.mem_cons_of_mem _ List.mem_cons_self)))))) c1 rfl rfl (by decide) (by decide) (by omega)
  have Rr1 := h_e_row (R := (h_Rt b)) (dl := 0) hm2 hD4 hF4 hal (List.mem_cons_of_mem _ (List.mem_cons_of_mem _ (List.mem_cons_of_mem _ (List.mem_cons_of_mem _ (List.mem_cons_of_mem _ (List.mem_cons_of_mem _ (List.mem_cons_of_mem _ List.mem_cons_self))))))) r1 rfl rfl (by decide) (by decide) (by omega)
  have hd := h_e_head (R := (h_Rt b)) hb hm1 rfl hD4 hF4 hal List.mem_cons_self (List.mem_cons_of_mem _ List.mem_cons_self)
  exact ⟨by omega, hd, ⟨Rl1, Rk1, Rw1, Rt1, Ri1, Rd1, Rc1, Rr1⟩, h_e_home hm2 hF4 nh, h_e_code hm2 hF4 nc⟩
end HE
